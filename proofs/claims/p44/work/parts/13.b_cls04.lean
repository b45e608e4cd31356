set_option maxHeartbeats 4000000 in
theorem s_X11_mustBeCopy_c15 {G : nk_G} {l : Launch} (hl0 : l.flags = flags0)   (h : nk_H)   : nk_Sim G l RX11 cX11_mustBeCopy 2 (none : Option FieldType) 6 82 false nk_eVt 15 [] [] h (f_X11_mustBeCopy_c15   h  ) := by
  unfold f_X11_mustBeCopy_c15
  exact nr_throwW (text := "no such copy") rfl (by decide +kernel) cl_RX11_361 in_java_lang_IndexOutOfBoundsException (by decide +kernel) ta_RX11_365 tg_RX11_361_365 dX11_mustBeCopy_15 dX11_mustBeCopy_18 dX11_mustBeCopy_19 dX11_mustBeCopy_22 dX11_mustBeCopy_25 (by decide) (Nat.le_of_ble_eq_true rfl)
set_option maxHeartbeats 4000000 in
theorem s_X11_mustBeCopy {G : nk_G} {l : Launch} (hl0 : l.flags = flags0) (h : nk_H) (t0 : Nat) (v1 : Int32) : nk_Sim G l RX11 cX11_mustBeCopy 2 (none : Option FieldType) 6 82 false nk_eVt 0 [(0, .inr (some t0)), (1, .inl v1)] [] h (f_X11_mustBeCopy  h t0 v1) := by
  unfold f_X11_mustBeCopy
  refine nr_iload_n 1 dX11_mustBeCopy_0 rfl ?_
  refine nr_if_lt (tgt := 15) dX11_mustBeCopy_1 (by decide) (fun _ => ?_) (fun _ => ?_)
  · exact nk_locals [] rfl (s_X11_mustBeCopy_c15 hl0  h)
  · refine nr_iload_n 1 dX11_mustBeCopy_4 rfl ?_
    refine nr_aload_n 0 dX11_mustBeCopy_5 rfl ?_
    refine nr_getP [18] 4 dX11_mustBeCopy_6 fk_RX11_39 (fun x1 => ?_)
    refine nr_rcv (ks := [7]) (pre := []) (fun a2 hm => ?_)
    refine nr_doI (st := [.inl v1]) (nk_callV (q := (RJx4a65c, TJx4a65c, 3)) (ci := 0) (c_Jx4a65c_size_8abf5 (G := G) hl0 h a2) dX11_mustBeCopy_9 (List.mem_singleton.mp hm) rfl rfl my_Jx4a65c_size_8abf5 im_Jx4a65c_size_8abf5 se_RJx4a65c_Jx4a65c_size_8abf5 ml_RX11_227 rfl rfl (Nat.le_of_ble_eq_true rfl) (by decide) (by decide)) (fun h3 x4 => ?_)
    refine nr_icmp_lt (tgt := 26) dX11_mustBeCopy_12 (by decide) (fun _ => ?_) (fun _ => ?_)
    · exact nr_vret rfl rfl dX11_mustBeCopy_26
    · exact nk_locals [] rfl (s_X11_mustBeCopy_c15 hl0  h3)
theorem c_X11_mustBeCopy {G : nk_G} {l : Launch} (hl0 : l.flags = flags0) (h : nk_H) (t0 : Nat) (v1 : Int32) : nk_Con G l yX11_mustBeCopy cX11_mustBeCopy 2 (none : Option FieldType) 6 82 nk_eVt [.inr (some t0), .inl v1] h (f_X11_mustBeCopy h t0 v1) :=
  nk_con (ini := false) (by decide) hl0 (Nat.le_of_ble_eq_true rfl) (by decide) (s_X11_mustBeCopy hl0 h t0 v1)
set_option maxHeartbeats 4000000 in
theorem s_X11_mustBePlace_c27 {G : nk_G} {l : Launch} (hl0 : l.flags = flags0)   (h : nk_H)   : nk_Sim G l RX11 cX11_mustBePlace 3 (none : Option FieldType) 7 103 false nk_eVt 27 [] [] h (f_X11_mustBePlace_c27   h  ) := by
  unfold f_X11_mustBePlace_c27
  exact nr_throwW (text := "the copy does not have so many records") rfl (by decide +kernel) cl_RX11_361 in_java_lang_IndexOutOfBoundsException (by decide +kernel) ta_RX11_365 tg_RX11_361_365 dX11_mustBePlace_27 dX11_mustBePlace_30 dX11_mustBePlace_31 dX11_mustBePlace_34 dX11_mustBePlace_37 (by decide) (Nat.le_of_ble_eq_true rfl)
set_option maxHeartbeats 4000000 in
theorem s_X11_mustBePlace {G : nk_G} {l : Launch} (hl0 : l.flags = flags0) (h : nk_H) (t0 : Nat) (v1 : Int32) (v2 : Int32) : nk_Sim G l RX11 cX11_mustBePlace 3 (none : Option FieldType) 7 103 false nk_eVt 0 [(0, .inr (some t0)), (1, .inl v1), (2, .inl v2)] [] h (f_X11_mustBePlace  h t0 v1 v2) := by
  unfold f_X11_mustBePlace
  refine nr_aload_n 0 dX11_mustBePlace_0 rfl ?_
  refine nr_iload_n 1 dX11_mustBePlace_1 rfl ?_
  refine nr_rcv (ks := [18]) (pre := [.inl v1]) (fun a1 hm => ?_)
  refine nr_dtV (st := []) (nk_callV (q := (RX11, TX11, 9)) (ci := 11) (c_X11_mustBeCopy (G := G) hl0 h a1 v1) dX11_mustBePlace_2 (List.mem_singleton.mp hm) rfl rfl my_X11_mustBeCopy im_X11_mustBeCopy se_RX11_X11_mustBeCopy ml_RX11_327 rfl rfl (Nat.le_of_ble_eq_true rfl) (by decide) (by decide)) (fun _ => rfl) (fun h2 x3 => ?_)
  refine nr_iload_n 2 dX11_mustBePlace_5 rfl ?_
  refine nr_if_lt (tgt := 27) dX11_mustBePlace_6 (by decide) (fun _ => ?_) (fun _ => ?_)
  · exact nk_locals [] rfl (s_X11_mustBePlace_c27 hl0  h2)
  · refine nr_iload_n 2 dX11_mustBePlace_9 rfl ?_
    refine nr_aload_n 0 dX11_mustBePlace_10 rfl ?_
    refine nr_getP [18] 4 dX11_mustBePlace_11 fk_RX11_39 (fun x4 => ?_)
    refine nr_iload_n 1 dX11_mustBePlace_14 rfl ?_
    refine nr_rcv (ks := [7]) (pre := [.inl v1]) (fun a5 hm => ?_)
    refine nr_doR (st := [.inl v2]) (nk_callV (q := (RJx4a65c, TJx4a65c, 3)) (ci := 0) (c_Jx4a65c_get_915e3 (G := G) hl0 h2 a5 v1) dX11_mustBePlace_15 (List.mem_singleton.mp hm) rfl rfl my_Jx4a65c_get_915e3 im_Jx4a65c_get_915e3 se_RJx4a65c_Jx4a65c_get_915e3 ml_RX11_121 rfl rfl (Nat.le_of_ble_eq_true rfl) (by decide) (by decide)) (fun h6 x7 => ?_)
    refine nr_cast dX11_mustBePlace_18 cl_RX11_233 ca_Copy ?_
    refine nr_getI [10] 2 dX11_mustBePlace_21 fk_RX11_330 (fun x9 => ?_)
    refine nr_icmp_lt (tgt := 38) dX11_mustBePlace_24 (by decide) (fun _ => ?_) (fun _ => ?_)
    · exact nr_vret rfl rfl dX11_mustBePlace_38
    · exact nk_locals [] rfl (s_X11_mustBePlace_c27 hl0  h6)
theorem c_X11_mustBePlace {G : nk_G} {l : Launch} (hl0 : l.flags = flags0) (h : nk_H) (t0 : Nat) (v1 : Int32) (v2 : Int32) : nk_Con G l yX11_mustBePlace cX11_mustBePlace 3 (none : Option FieldType) 7 103 nk_eVt [.inr (some t0), .inl v1, .inl v2] h (f_X11_mustBePlace h t0 v1 v2) :=
  nk_con (ini := false) (by decide) hl0 (Nat.le_of_ble_eq_true rfl) (by decide) (s_X11_mustBePlace hl0 h t0 v1 v2)
set_option maxHeartbeats 4000000 in
theorem s_X11_mustBePart_c10 {G : nk_G} {l : Launch} (hl0 : l.flags = flags0)   (h : nk_H)   : nk_Sim G l RX11 cX11_mustBePart 1 (none : Option FieldType) 6 82 false nk_eVt 10 [] [] h (f_X11_mustBePart_c10   h  ) := by
  unfold f_X11_mustBePart_c10
  exact nr_throwW (text := "no such part") rfl (by decide +kernel) cl_RX11_361 in_java_lang_IndexOutOfBoundsException (by decide +kernel) ta_RX11_365 tg_RX11_361_365 dX11_mustBePart_10 dX11_mustBePart_13 dX11_mustBePart_14 dX11_mustBePart_17 dX11_mustBePart_20 (by decide) (Nat.le_of_ble_eq_true rfl)
set_option maxHeartbeats 4000000 in
theorem s_X11_mustBePart {G : nk_G} {l : Launch} (hl0 : l.flags = flags0) (h : nk_H) (v0 : Int32) : nk_Sim G l RX11 cX11_mustBePart 1 (none : Option FieldType) 6 82 false nk_eVt 0 [(0, .inl v0)] [] h (f_X11_mustBePart  h v0) := by
  unfold f_X11_mustBePart
  refine nr_iload_n 0 dX11_mustBePart_0 rfl ?_
  refine nr_if_lt (tgt := 10) dX11_mustBePart_1 (by decide) (fun _ => ?_) (fun _ => ?_)
  · exact nk_locals [] rfl (s_X11_mustBePart_c10 hl0  h)
  · refine nr_iload_n 0 dX11_mustBePart_4 rfl ?_
    refine nr_bipush (v := 6) dX11_mustBePart_5 (by decide) ?_
    refine nr_icmp_lt (tgt := 21) dX11_mustBePart_7 (by decide) (fun _ => ?_) (fun _ => ?_)
    · exact nr_vret rfl rfl dX11_mustBePart_21
    · exact nk_locals [] rfl (s_X11_mustBePart_c10 hl0  h)
theorem c_X11_mustBePart {G : nk_G} {l : Launch} (hl0 : l.flags = flags0) (h : nk_H) (v0 : Int32) : nk_Con G l yX11_mustBePart cX11_mustBePart 1 (none : Option FieldType) 6 82 nk_eVt [.inl v0] h (f_X11_mustBePart h v0) :=
  nk_con (ini := false) (by decide) hl0 (Nat.le_of_ble_eq_true rfl) (by decide) (s_X11_mustBePart hl0 h v0)
set_option maxHeartbeats 4000000 in
theorem s_X11_forge {G : nk_G} {l : Launch} (hl0 : l.flags = flags0) (h : nk_H) (t0 : Nat) (v1 : Int32) (v2 : Int32) (v3 : Int32) (v4 : Int32) : nk_Sim G l RX11 cX11_forge 7 (some FieldType.int) 8 125 false nk_eIt 0 [(0, .inr (some t0)), (1, .inl v1), (2, .inl v2), (3, .inl v3), (4, .inl v4)] [] h (f_X11_forge  h t0 v1 v2 v3 v4) := by
  unfold f_X11_forge
  refine nr_aload_n 0 dX11_forge_0 rfl ?_
  refine nr_iload_n 1 dX11_forge_1 rfl ?_
  refine nr_iload_n 2 dX11_forge_2 rfl ?_
  refine nr_rcv (ks := [18]) (pre := [.inl v2, .inl v1]) (fun a1 hm => ?_)
  refine nr_dtV (st := []) (nk_callV (q := (RX11, TX11, 9)) (ci := 11) (c_X11_mustBePlace (G := G) hl0 h a1 v1 v2) dX11_forge_3 (List.mem_singleton.mp hm) rfl rfl my_X11_mustBePlace im_X11_mustBePlace se_RX11_X11_mustBePlace ml_RX11_246 rfl rfl (Nat.le_of_ble_eq_true rfl) (by decide) (by decide)) (fun _ => rfl) (fun h2 x3 => ?_)
  refine nr_iload_n 3 dX11_forge_6 rfl ?_
  refine nr_dtV (st := []) (nk_callS (c_X11_mustBePart (G := G) hl0 h2 v3) dX11_forge_7 my_X11_mustBePart st_X11_mustBePart ml_RX11_249 rfl rfl (Nat.le_of_ble_eq_true rfl) (by decide) (by decide)) (fun _ => rfl) (fun h4 x5 => ?_)
  refine nr_iload 4 dX11_forge_10 rfl ?_
  refine nr_iconst (v := 0) dX11_forge_12 (by decide) ?_
  refine nr_sipush (v := 10000) dX11_forge_13 (by decide) ?_
  refine nr_dtV (st := []) (nk_callS (c_X11_mustBeWithin (G := G) hl0 h4 v4 0 10000) dX11_forge_16 my_X11_mustBeWithin st_X11_mustBeWithin ml_RX11_86 rfl rfl (Nat.le_of_ble_eq_true rfl) (by decide) (by decide)) (fun _ => rfl) (fun h6 x7 => ?_)
  refine nr_aload_n 0 dX11_forge_19 rfl ?_
  refine nr_getP [18] 4 dX11_forge_20 fk_RX11_39 (fun x8 => ?_)
  refine nr_iload_n 1 dX11_forge_23 rfl ?_
  refine nr_rcv (ks := [7]) (pre := [.inl v1]) (fun a9 hm => ?_)
  refine nr_doR (st := []) (nk_callV (q := (RJx4a65c, TJx4a65c, 3)) (ci := 0) (c_Jx4a65c_get_915e3 (G := G) hl0 h6 a9 v1) dX11_forge_24 (List.mem_singleton.mp hm) rfl rfl my_Jx4a65c_get_915e3 im_Jx4a65c_get_915e3 se_RJx4a65c_Jx4a65c_get_915e3 ml_RX11_121 rfl rfl (Nat.le_of_ble_eq_true rfl) (by decide) (by decide)) (fun h10 x11 => ?_)
  refine nr_cast dX11_forge_27 cl_RX11_233 ca_Copy ?_
  refine nr_astore (lv2 := [(5, .inr x11), (0, .inr (some t0)), (1, .inl v1), (2, .inl v2), (3, .inl v3), (4, .inl v4)]) dX11_forge_30 (by decide) rfl ?_
  refine nr_aload 0 dX11_forge_32 rfl ?_
  refine nr_iload_n 4 dX11_forge_34 rfl ?_
  refine nr_rcv (ks := [10]) (pre := [.inl v3]) (fun a13 hm => ?_)
  refine nr_doI (st := []) (nk_callV (q := (RX2, TX2, 7)) (ci := 3) (c_X2_leavesOut (G := G) hl0 h10 a13 v3) dX11_forge_35 (List.mem_singleton.mp hm) rfl rfl my_X2_leavesOut im_X2_leavesOut se_RX2_X2_leavesOut ml_RX11_252 rfl rfl (Nat.le_of_ble_eq_true rfl) (by decide) (by decide)) (fun h14 x15 => ?_)
  refine nr_if_eq (tgt := 51) dX11_forge_38 (by decide) (fun _ => ?_) (fun _ => ?_)
  · refine nr_aload 0 dX11_forge_51 rfl ?_
    refine nr_getP [10] 4 dX11_forge_53 fk_RX11_257 (fun x16 => ?_)
    refine nr_iload_n 3 dX11_forge_56 rfl ?_
    refine nr_aaload 5 dX11_forge_57 (by decide) (fun x17 => ?_)
    refine nr_iload_n 4 dX11_forge_58 rfl ?_
    refine nr_iaload dX11_forge_59 (fun x18 => ?_)
    refine nr_istore (lv2 := [(6, .inl x18), (5, .inr x11), (0, .inr (some t0)), (1, .inl v1), (2, .inl v2), (3, .inl v3), (4, .inl v4)]) dX11_forge_60 (by decide) rfl ?_
    refine nr_aload 1 dX11_forge_62 rfl ?_
    refine nr_getP [10] 4 dX11_forge_64 fk_RX11_257 (fun x19 => ?_)
    refine nr_iload_n 4 dX11_forge_67 rfl ?_
    refine nr_aaload 5 dX11_forge_68 (by decide) (fun x20 => ?_)
    refine nr_iload_n 5 dX11_forge_69 rfl ?_
    refine nr_iload 6 dX11_forge_70 rfl ?_
    refine nr_iastore dX11_forge_72 (fun h21 => ?_)
    refine nr_iload 0 dX11_forge_73 rfl ?_
    exact nr_iret rfl rfl dX11_forge_75
  · exact nr_throw (text := "the part is left out") rfl (by decide +kernel) cl_RX11_70 in_java_lang_IllegalStateException (by decide +kernel) ta_RX11_74 tg_RX11_70_74 dX11_forge_41 dX11_forge_44 dX11_forge_45 dX11_forge_47 dX11_forge_50 (by decide) (Nat.le_of_ble_eq_true rfl)
theorem c_X11_forge {G : nk_G} {l : Launch} (hl0 : l.flags = flags0) (h : nk_H) (t0 : Nat) (v1 : Int32) (v2 : Int32) (v3 : Int32) (v4 : Int32) : nk_Con G l yX11_forge cX11_forge 7 (some FieldType.int) 8 125 nk_eIt [.inr (some t0), .inl v1, .inl v2, .inl v3, .inl v4] h (f_X11_forge h t0 v1 v2 v3 v4) :=
  nk_con (ini := false) (by decide) hl0 (Nat.le_of_ble_eq_true rfl) (by decide) (s_X11_forge hl0 h t0 v1 v2 v3 v4)
set_option maxHeartbeats 4000000 in
theorem s_X11_hour {G : nk_G} {l : Launch} (hl0 : l.flags = flags0) (h : nk_H) (t0 : Nat) : nk_Sim G l RX11 cX11_hour 1 (some FieldType.int) 0 0 false nk_eI 0 [(0, .inr (some t0))] [] h (f_X11_hour  h t0) := by
  unfold f_X11_hour
  refine nr_aload_n 0 dX11_hour_0 rfl ?_
  refine nr_getI [18] 5 dX11_hour_1 fk_RX11_42 (fun x1 => ?_)
  exact nr_iret rfl rfl dX11_hour_4
theorem c_X11_hour {G : nk_G} {l : Launch} (hl0 : l.flags = flags0) (h : nk_H) (t0 : Nat) : nk_Con G l yX11_hour cX11_hour 1 (some FieldType.int) 0 0 nk_eI [.inr (some t0)] h (f_X11_hour h t0) :=
  nk_con (ini := false) (by decide) hl0 (Nat.le_of_ble_eq_true rfl) (by decide) (s_X11_hour hl0 h t0)
set_option maxHeartbeats 4000000 in
theorem s_X11_news {G : nk_G} {l : Launch} (hl0 : l.flags = flags0) (h : nk_H) (t0 : Nat) : nk_Sim G l RX11 cX11_news 1 (some FieldType.int) 2 40 false nk_eI 0 [(0, .inr (some t0))] [] h (f_X11_news  h t0) := by
  unfold f_X11_news
  refine nr_aload_n 0 dX11_news_0 rfl ?_
  refine nr_getP [18] 1 dX11_news_1 fk_RX11_19 (fun x1 => ?_)
  refine nr_rcv (ks := [15]) (pre := []) (fun a2 hm => ?_)
  refine nr_doI (st := []) (nk_callV (q := (RX7, TX7, 2)) (ci := 8) (c_X7_count (G := G) hl0 h a2) dX11_news_4 (List.mem_singleton.mp hm) rfl rfl my_X7_count im_X7_count se_RX7_X7_count ml_RX11_260 rfl rfl (Nat.le_of_ble_eq_true rfl) (by decide) (by decide)) (fun h3 x4 => ?_)
  exact nr_iret rfl rfl dX11_news_7
theorem c_X11_news {G : nk_G} {l : Launch} (hl0 : l.flags = flags0) (h : nk_H) (t0 : Nat) : nk_Con G l yX11_news cX11_news 1 (some FieldType.int) 2 40 nk_eI [.inr (some t0)] h (f_X11_news h t0) :=
  nk_con (ini := false) (by decide) hl0 (Nat.le_of_ble_eq_true rfl) (by decide) (s_X11_news hl0 h t0)
set_option maxHeartbeats 4000000 in
theorem s_X11_powers {G : nk_G} {l : Launch} (hl0 : l.flags = flags0) (h : nk_H) (t0 : Nat) : nk_Sim G l RX11 cX11_powers 1 (some FieldType.int) 1 20 false nk_eI 0 [(0, .inr (some t0))] [] h (f_X11_powers  h t0) := by
  unfold f_X11_powers
  refine nr_aload_n 0 dX11_powers_0 rfl ?_
  refine nr_getP [18] 2 dX11_powers_1 fk_RX11_26 (fun x1 => ?_)
  refine nr_rcv (ks := [7]) (pre := []) (fun a2 hm => ?_)
  refine nr_doI (st := []) (nk_callV (q := (RJx4a65c, TJx4a65c, 3)) (ci := 0) (c_Jx4a65c_size_8abf5 (G := G) hl0 h a2) dX11_powers_4 (List.mem_singleton.mp hm) rfl rfl my_Jx4a65c_size_8abf5 im_Jx4a65c_size_8abf5 se_RJx4a65c_Jx4a65c_size_8abf5 ml_RX11_227 rfl rfl (Nat.le_of_ble_eq_true rfl) (by decide) (by decide)) (fun h3 x4 => ?_)
  exact nr_iret rfl rfl dX11_powers_7
theorem c_X11_powers {G : nk_G} {l : Launch} (hl0 : l.flags = flags0) (h : nk_H) (t0 : Nat) : nk_Con G l yX11_powers cX11_powers 1 (some FieldType.int) 1 20 nk_eI [.inr (some t0)] h (f_X11_powers h t0) :=
  nk_con (ini := false) (by decide) hl0 (Nat.le_of_ble_eq_true rfl) (by decide) (s_X11_powers hl0 h t0)
set_option maxHeartbeats 4000000 in
theorem s_X11_records {G : nk_G} {l : Launch} (hl0 : l.flags = flags0) (h : nk_H) (t0 : Nat) (v1 : Int32) : nk_Sim G l RX11 cX11_records 2 (some FieldType.int) 7 102 false nk_eIt 0 [(0, .inr (some t0)), (1, .inl v1)] [] h (f_X11_records  h t0 v1) := by
  unfold f_X11_records
  refine nr_iload_n 1 dX11_records_0 rfl ?_
  refine nr_dtV (st := []) (nk_callS (c_X11_mustBeKiosk (G := G) hl0 h v1) dX11_records_1 my_X11_mustBeKiosk st_X11_mustBeKiosk ml_RX11_99 rfl rfl (Nat.le_of_ble_eq_true rfl) (by decide) (by decide)) (fun _ => rfl) (fun h1 x2 => ?_)
  refine nr_aload_n 0 dX11_records_4 rfl ?_
  refine nr_getP [18] 3 dX11_records_5 fk_RX11_32 (fun x3 => ?_)
  refine nr_iload_n 1 dX11_records_8 rfl ?_
  refine nr_aaload 3 dX11_records_9 (by decide) (fun x4 => ?_)
  refine nr_rcv (ks := [9]) (pre := []) (fun a5 hm => ?_)
  refine nr_doI (st := []) (nk_callV (q := (RX1, TX1, 2)) (ci := 2) (c_X1_count (G := G) hl0 h1 a5) dX11_records_10 (List.mem_singleton.mp hm) rfl rfl my_X1_count im_X1_count se_RX1_X1_count ml_RX11_263 rfl rfl (Nat.le_of_ble_eq_true rfl) (by decide) (by decide)) (fun h6 x7 => ?_)
  exact nr_iret rfl rfl dX11_records_13
theorem c_X11_records {G : nk_G} {l : Launch} (hl0 : l.flags = flags0) (h : nk_H) (t0 : Nat) (v1 : Int32) : nk_Con G l yX11_records cX11_records 2 (some FieldType.int) 7 102 nk_eIt [.inr (some t0), .inl v1] h (f_X11_records h t0 v1) :=
  nk_con (ini := false) (by decide) hl0 (Nat.le_of_ble_eq_true rfl) (by decide) (s_X11_records hl0 h t0 v1)
set_option maxHeartbeats 4000000 in
theorem s_X11_areJoined {G : nk_G} {l : Launch} (hl0 : l.flags = flags0) (h : nk_H) (t0 : Nat) (v1 : Int32) (v2 : Int32) : nk_Sim G l RX11 cX11_areJoined 3 (some FieldType.boolean) 7 102 false nk_eIt 0 [(0, .inr (some t0)), (1, .inl v1), (2, .inl v2)] [] h (f_X11_areJoined  h t0 v1 v2) := by
  unfold f_X11_areJoined
  refine nr_iload_n 1 dX11_areJoined_0 rfl ?_
  refine nr_dtV (st := []) (nk_callS (c_X11_mustBeKiosk (G := G) hl0 h v1) dX11_areJoined_1 my_X11_mustBeKiosk st_X11_mustBeKiosk ml_RX11_99 rfl rfl (Nat.le_of_ble_eq_true rfl) (by decide) (by decide)) (fun _ => rfl) (fun h1 x2 => ?_)
  refine nr_iload_n 2 dX11_areJoined_4 rfl ?_
  refine nr_dtV (st := []) (nk_callS (c_X11_mustBeKiosk (G := G) hl0 h1 v2) dX11_areJoined_5 my_X11_mustBeKiosk st_X11_mustBeKiosk ml_RX11_99 rfl rfl (Nat.le_of_ble_eq_true rfl) (by decide) (by decide)) (fun _ => rfl) (fun h3 x4 => ?_)
  refine nr_aload_n 0 dX11_areJoined_8 rfl ?_
  refine nr_getP [18] 0 dX11_areJoined_9 fk_RX11_10 (fun x5 => ?_)
  refine nr_iload_n 1 dX11_areJoined_12 rfl ?_
  refine nr_iload_n 2 dX11_areJoined_13 rfl ?_
  refine nr_rcv (ks := [14]) (pre := [.inl v2, .inl v1]) (fun a6 hm => ?_)
  refine nr_doI (st := []) (nk_callV (q := (RX6, TX6, 2)) (ci := 7) (c_X6_areLinked (G := G) hl0 h3 a6 v1 v2) dX11_areJoined_14 (List.mem_singleton.mp hm) rfl rfl my_X6_areLinked im_X6_areLinked se_RX6_X6_areLinked ml_RX11_66 rfl rfl (Nat.le_of_ble_eq_true rfl) (by decide) (by decide)) (fun h7 x8 => ?_)
  exact nr_zret rfl rfl dX11_areJoined_17
theorem c_X11_areJoined {G : nk_G} {l : Launch} (hl0 : l.flags = flags0) (h : nk_H) (t0 : Nat) (v1 : Int32) (v2 : Int32) : nk_Con G l yX11_areJoined cX11_areJoined 3 (some FieldType.boolean) 7 102 nk_eIt [.inr (some t0), .inl v1, .inl v2] h (f_X11_areJoined h t0 v1 v2) :=
  nk_con (ini := false) (by decide) hl0 (Nat.le_of_ble_eq_true rfl) (by decide) (s_X11_areJoined hl0 h t0 v1 v2)
set_option maxHeartbeats 4000000 in
theorem s_X11_mustBePiece_c15 {G : nk_G} {l : Launch} (hl0 : l.flags = flags0)   (h : nk_H)   : nk_Sim G l RX11 cX11_mustBePiece 2 (none : Option FieldType) 6 82 false nk_eVt 15 [] [] h (f_X11_mustBePiece_c15   h  ) := by
  unfold f_X11_mustBePiece_c15
  exact nr_throwW (text := "no such piece of news") rfl (by decide +kernel) cl_RX11_361 in_java_lang_IndexOutOfBoundsException (by decide +kernel) ta_RX11_365 tg_RX11_361_365 dX11_mustBePiece_15 dX11_mustBePiece_18 dX11_mustBePiece_19 dX11_mustBePiece_22 dX11_mustBePiece_25 (by decide) (Nat.le_of_ble_eq_true rfl)
set_option maxHeartbeats 4000000 in
theorem s_X11_mustBePiece {G : nk_G} {l : Launch} (hl0 : l.flags = flags0) (h : nk_H) (t0 : Nat) (v1 : Int32) : nk_Sim G l RX11 cX11_mustBePiece 2 (none : Option FieldType) 6 82 false nk_eVt 0 [(0, .inr (some t0)), (1, .inl v1)] [] h (f_X11_mustBePiece  h t0 v1) := by
  unfold f_X11_mustBePiece
  refine nr_iload_n 1 dX11_mustBePiece_0 rfl ?_
  refine nr_if_lt (tgt := 15) dX11_mustBePiece_1 (by decide) (fun _ => ?_) (fun _ => ?_)
  · exact nk_locals [] rfl (s_X11_mustBePiece_c15 hl0  h)
  · refine nr_iload_n 1 dX11_mustBePiece_4 rfl ?_
    refine nr_aload_n 0 dX11_mustBePiece_5 rfl ?_
    refine nr_getP [18] 1 dX11_mustBePiece_6 fk_RX11_19 (fun x1 => ?_)
    refine nr_rcv (ks := [15]) (pre := []) (fun a2 hm => ?_)
    refine nr_doI (st := [.inl v1]) (nk_callV (q := (RX7, TX7, 2)) (ci := 8) (c_X7_count (G := G) hl0 h a2) dX11_mustBePiece_9 (List.mem_singleton.mp hm) rfl rfl my_X7_count im_X7_count se_RX7_X7_count ml_RX11_260 rfl rfl (Nat.le_of_ble_eq_true rfl) (by decide) (by decide)) (fun h3 x4 => ?_)
    refine nr_icmp_lt (tgt := 26) dX11_mustBePiece_12 (by decide) (fun _ => ?_) (fun _ => ?_)
    · exact nr_vret rfl rfl dX11_mustBePiece_26
    · exact nk_locals [] rfl (s_X11_mustBePiece_c15 hl0  h3)
theorem c_X11_mustBePiece {G : nk_G} {l : Launch} (hl0 : l.flags = flags0) (h : nk_H) (t0 : Nat) (v1 : Int32) : nk_Con G l yX11_mustBePiece cX11_mustBePiece 2 (none : Option FieldType) 6 82 nk_eVt [.inr (some t0), .inl v1] h (f_X11_mustBePiece h t0 v1) :=
  nk_con (ini := false) (by decide) hl0 (Nat.le_of_ble_eq_true rfl) (by decide) (s_X11_mustBePiece hl0 h t0 v1)
set_option maxHeartbeats 4000000 in
theorem s_X11_came {G : nk_G} {l : Launch} (hl0 : l.flags = flags0) (h : nk_H) (t0 : Nat) (v1 : Int32) (v2 : Int32) : nk_Sim G l RX11 cX11_came 3 (some FieldType.int) 7 103 false nk_eIt 0 [(0, .inr (some t0)), (1, .inl v1), (2, .inl v2)] [] h (f_X11_came  h t0 v1 v2) := by
  unfold f_X11_came
  refine nr_iload_n 1 dX11_came_0 rfl ?_
  refine nr_dtV (st := []) (nk_callS (c_X11_mustBeKiosk (G := G) hl0 h v1) dX11_came_1 my_X11_mustBeKiosk st_X11_mustBeKiosk ml_RX11_99 rfl rfl (Nat.le_of_ble_eq_true rfl) (by decide) (by decide)) (fun _ => rfl) (fun h1 x2 => ?_)
  refine nr_aload_n 0 dX11_came_4 rfl ?_
  refine nr_iload_n 2 dX11_came_5 rfl ?_
  refine nr_rcv (ks := [18]) (pre := [.inl v2]) (fun a3 hm => ?_)
  refine nr_dtV (st := []) (nk_callV (q := (RX11, TX11, 9)) (ci := 11) (c_X11_mustBePiece (G := G) hl0 h1 a3 v2) dX11_came_6 (List.mem_singleton.mp hm) rfl rfl my_X11_mustBePiece im_X11_mustBePiece se_RX11_X11_mustBePiece ml_RX11_264 rfl rfl (Nat.le_of_ble_eq_true rfl) (by decide) (by decide)) (fun _ => rfl) (fun h4 x5 => ?_)
  refine nr_aload_n 0 dX11_came_9 rfl ?_
  refine nr_getP [18] 1 dX11_came_10 fk_RX11_19 (fun x6 => ?_)
  refine nr_iload_n 2 dX11_came_13 rfl ?_
  refine nr_rcv (ks := [15]) (pre := [.inl v2]) (fun a7 hm => ?_)
  refine nr_doR (st := []) (nk_callV (q := (RX7, TX7, 2)) (ci := 8) (c_X7_pieceAt (G := G) hl0 h4 a7 v2) dX11_came_14 (List.mem_singleton.mp hm) rfl rfl my_X7_pieceAt im_X7_pieceAt se_RX7_X7_pieceAt ml_RX11_267 rfl rfl (Nat.le_of_ble_eq_true rfl) (by decide) (by decide)) (fun h8 x9 => ?_)
  refine nr_getP [8, 12, 16, 17] 5 dX11_came_17 fk_RX11_271 (fun x10 => ?_)
  refine nr_iload_n 1 dX11_came_20 rfl ?_
  refine nr_iaload dX11_came_21 (fun x11 => ?_)
  exact nr_iret rfl rfl dX11_came_22
theorem c_X11_came {G : nk_G} {l : Launch} (hl0 : l.flags = flags0) (h : nk_H) (t0 : Nat) (v1 : Int32) (v2 : Int32) : nk_Con G l yX11_came cX11_came 3 (some FieldType.int) 7 103 nk_eIt [.inr (some t0), .inl v1, .inl v2] h (f_X11_came h t0 v1 v2) :=
  nk_con (ini := false) (by decide) hl0 (Nat.le_of_ble_eq_true rfl) (by decide) (s_X11_came hl0 h t0 v1 v2)
set_option maxHeartbeats 4000000 in
theorem s_X11_cameByLinks_c49 {G : nk_G} {l : Launch} (hl0 : l.flags = flags0) {r49 : nk_H → Nat → Int32 → Int32 → Int32 → Option (nk_H × (Int32 ⊕ String))} (hr49 : ∀ (h : nk_H) (t0 : Nat) (v1 : Int32) (v4 : Int32) (v5 : Int32), nk_Sim G l RX11 cX11_cameByLinks 6 (some FieldType.int) 7 103 false nk_eIt 49 [(0, .inr (some t0)), (1, .inl v1), (4, .inl v4), (5, .inl v5)] [] h (r49 h t0 v1 v4 v5)) (h : nk_H) (t0 : Nat) (v1 : Int32) (v4 : Int32) (v5 : Int32)  : nk_Sim G l RX11 cX11_cameByLinks 6 (some FieldType.int) 7 103 false nk_eIt 49 [(0, .inr (some t0)), (1, .inl v1), (4, .inl v4), (5, .inl v5)] [] h (f_X11_cameByLinks_c49  r49 h t0 v1 v4 v5 ) := by
  unfold f_X11_cameByLinks_c49
  refine nr_iload 3 dX11_cameByLinks_49 rfl ?_
  refine nr_aload_n 0 dX11_cameByLinks_51 rfl ?_
  refine nr_getI [18] 5 dX11_cameByLinks_52 fk_RX11_42 (fun x1 => ?_)
  refine nr_icmp_gt (tgt := 89) dX11_cameByLinks_55 (by decide) (fun _ => ?_) (fun _ => ?_)
  · refine nr_iconst (v := (-1)) dX11_cameByLinks_89 (by decide) ?_
    exact nr_iret rfl rfl dX11_cameByLinks_90
  · refine nr_aload_n 0 dX11_cameByLinks_58 rfl ?_
    refine nr_getP [18] 0 dX11_cameByLinks_59 fk_RX11_10 (fun x2 => ?_)
    refine nr_iload 2 dX11_cameByLinks_62 rfl ?_
    refine nr_iload 3 dX11_cameByLinks_64 rfl ?_
    refine nr_rcv (ks := [14]) (pre := [.inl v5, .inl v4]) (fun a3 hm => ?_)
    refine nr_doI (st := []) (nk_callV (q := (RX6, TX6, 2)) (ci := 7) (c_X6_reach (G := G) hl0 h a3 v4 v5) dX11_cameByLinks_66 (List.mem_singleton.mp hm) rfl rfl my_X6_reach im_X6_reach se_RX6_X6_reach ml_RX11_286 rfl rfl (Nat.le_of_ble_eq_true rfl) (by decide) (by decide)) (fun h4 x5 => ?_)
    refine nr_istore (lv2 := [(4, .inl x5), (0, .inr (some t0)), (1, .inl v1), (5, .inl v5)]) dX11_cameByLinks_69 (by decide) rfl ?_
    refine nr_iload 0 dX11_cameByLinks_71 rfl ?_
    refine nr_iload_n 2 dX11_cameByLinks_73 rfl ?_
    refine nr_doI (st := []) (nk_callS (c_X11_hasBit (G := G) hl0 h4 x5 v1) dX11_cameByLinks_74 my_X11_hasBit st_X11_hasBit ml_RX11_282 rfl rfl (Nat.le_of_ble_eq_true rfl) (by decide) (by decide)) (fun h6 x7 => ?_)
    refine nr_if_eq (tgt := 83) dX11_cameByLinks_77 (by decide) (fun _ => ?_) (fun _ => ?_)
    · refine nr_iinc (lv2 := [(5, .inl (v5 + 1)), (4, .inl x5), (0, .inr (some t0)), (1, .inl v1)]) 3 (v5 + 1) dX11_cameByLinks_83 rfl (by rfl) (by decide) rfl ?_
      refine nr_goto (tgt := 49) dX11_cameByLinks_86 (by decide) ?_
      exact nk_locals [2, 3, 1, 0] rfl (hr49 h6 t0 v1 x5 (v5 + 1))
    · refine nr_iload 3 dX11_cameByLinks_80 rfl ?_
      exact nr_iret rfl rfl dX11_cameByLinks_82
theorem s_X11_cameByLinks_b49 {G : nk_G} {l : Launch} (hl0 : l.flags = flags0)   : ∀ (n : Nat) (h : nk_H) (t0 : Nat) (v1 : Int32) (v4 : Int32) (v5 : Int32), nk_Sim G l RX11 cX11_cameByLinks 6 (some FieldType.int) 7 103 false nk_eIt 49 [(0, .inr (some t0)), (1, .inl v1), (4, .inl v4), (5, .inl v5)] [] h (f_X11_cameByLinks_b49   n h t0 v1 v4 v5)
  | 0, _, _, _, _, _ => nk_none
  | n + 1, h, t0, v1, v4, v5 => s_X11_cameByLinks_c49 hl0 (s_X11_cameByLinks_b49 hl0  n) h t0 v1 v4 v5
set_option maxHeartbeats 4000000 in
theorem s_X11_cameByLinks {G : nk_G} {l : Launch} (hl0 : l.flags = flags0) (h : nk_H) (t0 : Nat) (v1 : Int32) (v2 : Int32) : nk_Sim G l RX11 cX11_cameByLinks 6 (some FieldType.int) 7 103 false nk_eIt 0 [(0, .inr (some t0)), (1, .inl v1), (2, .inl v2)] [] h (f_X11_cameByLinks  h t0 v1 v2) := by
  unfold f_X11_cameByLinks
  refine nr_iload_n 1 dX11_cameByLinks_0 rfl ?_
  refine nr_dtV (st := []) (nk_callS (c_X11_mustBeKiosk (G := G) hl0 h v1) dX11_cameByLinks_1 my_X11_mustBeKiosk st_X11_mustBeKiosk ml_RX11_99 rfl rfl (Nat.le_of_ble_eq_true rfl) (by decide) (by decide)) (fun _ => rfl) (fun h8 x9 => ?_)
  refine nr_aload_n 0 dX11_cameByLinks_4 rfl ?_
  refine nr_iload_n 2 dX11_cameByLinks_5 rfl ?_
  refine nr_rcv (ks := [18]) (pre := [.inl v2]) (fun a10 hm => ?_)
  refine nr_dtV (st := []) (nk_callV (q := (RX11, TX11, 9)) (ci := 11) (c_X11_mustBePiece (G := G) hl0 h8 a10 v2) dX11_cameByLinks_6 (List.mem_singleton.mp hm) rfl rfl my_X11_mustBePiece im_X11_mustBePiece se_RX11_X11_mustBePiece ml_RX11_264 rfl rfl (Nat.le_of_ble_eq_true rfl) (by decide) (by decide)) (fun _ => rfl) (fun h11 x12 => ?_)
  refine nr_aload_n 0 dX11_cameByLinks_9 rfl ?_
  refine nr_getP [18] 1 dX11_cameByLinks_10 fk_RX11_19 (fun x13 => ?_)
  refine nr_iload_n 2 dX11_cameByLinks_13 rfl ?_
  refine nr_rcv (ks := [15]) (pre := [.inl v2]) (fun a14 hm => ?_)
  refine nr_doR (st := []) (nk_callV (q := (RX7, TX7, 2)) (ci := 8) (c_X7_pieceAt (G := G) hl0 h11 a14 v2) dX11_cameByLinks_14 (List.mem_singleton.mp hm) rfl rfl my_X7_pieceAt im_X7_pieceAt se_RX7_X7_pieceAt ml_RX11_267 rfl rfl (Nat.le_of_ble_eq_true rfl) (by decide) (by decide)) (fun h15 x16 => ?_)
  refine nr_astore_n (lv2 := [(3, .inr x16), (0, .inr (some t0)), (1, .inl v1), (2, .inl v2)]) dX11_cameByLinks_17 (by decide) rfl ?_
  refine nr_aload_n 0 dX11_cameByLinks_18 rfl ?_
  refine nr_getI [8, 12, 16, 17] 1 dX11_cameByLinks_19 fk_RX11_276 (fun x17 => ?_)
  refine nr_doI (st := []) (nk_callS (c_X11_bit (G := G) hl0 h15 x17) dX11_cameByLinks_22 my_X11_bit st_X11_bit ml_RX11_279 rfl rfl (Nat.le_of_ble_eq_true rfl) (by decide) (by decide)) (fun h18 x19 => ?_)
  refine nr_istore (lv2 := [(4, .inl x19), (3, .inr x16), (0, .inr (some t0)), (1, .inl v1), (2, .inl v2)]) dX11_cameByLinks_25 (by decide) rfl ?_
  refine nr_iload 0 dX11_cameByLinks_27 rfl ?_
  refine nr_iload_n 3 dX11_cameByLinks_29 rfl ?_
  refine nr_doI (st := []) (nk_callS (c_X11_hasBit (G := G) hl0 h18 x19 v1) dX11_cameByLinks_30 my_X11_hasBit st_X11_hasBit ml_RX11_282 rfl rfl (Nat.le_of_ble_eq_true rfl) (by decide) (by decide)) (fun h20 x21 => ?_)
  refine nr_if_eq (tgt := 41) dX11_cameByLinks_33 (by decide) (fun _ => ?_) (fun _ => ?_)
  · refine nr_aload_n 1 dX11_cameByLinks_41 rfl ?_
    refine nr_getI [8, 12, 16, 17] 2 dX11_cameByLinks_42 fk_RX11_285 (fun x22 => ?_)
    refine nr_iconst (v := 1) dX11_cameByLinks_45 (by decide) ?_
    refine nr_iadd dX11_cameByLinks_46 ?_
    refine nr_istore (lv2 := [(5, .inl (x22 + 1)), (4, .inl x19), (3, .inr x16), (0, .inr (some t0)), (1, .inl v1), (2, .inl v2)]) dX11_cameByLinks_47 (by decide) rfl ?_
    exact nk_locals [3, 4, 1, 0] rfl (s_X11_cameByLinks_b49 hl0  4096 h20 t0 v1 x19 (x22 + 1))
  · refine nr_aload_n 1 dX11_cameByLinks_36 rfl ?_
    refine nr_getI [8, 12, 16, 17] 2 dX11_cameByLinks_37 fk_RX11_285 (fun x23 => ?_)
    exact nr_iret rfl rfl dX11_cameByLinks_40
theorem c_X11_cameByLinks {G : nk_G} {l : Launch} (hl0 : l.flags = flags0) (h : nk_H) (t0 : Nat) (v1 : Int32) (v2 : Int32) : nk_Con G l yX11_cameByLinks cX11_cameByLinks 6 (some FieldType.int) 7 103 nk_eIt [.inr (some t0), .inl v1, .inl v2] h (f_X11_cameByLinks h t0 v1 v2) :=
  nk_con (ini := false) (by decide) hl0 (Nat.le_of_ble_eq_true rfl) (by decide) (s_X11_cameByLinks hl0 h t0 v1 v2)
set_option maxHeartbeats 4000000 in
theorem s_X11_isRead {G : nk_G} {l : Launch} (hl0 : l.flags = flags0) (h : nk_H) (t0 : Nat) (v1 : Int32) (v2 : Int32) : nk_Sim G l RX11 cX11_isRead 3 (some FieldType.boolean) 7 103 false nk_eIt 0 [(0, .inr (some t0)), (1, .inl v1), (2, .inl v2)] [] h (f_X11_isRead  h t0 v1 v2) := by
  unfold f_X11_isRead
  refine nr_iload_n 1 dX11_isRead_0 rfl ?_
  refine nr_dtV (st := []) (nk_callS (c_X11_mustBeKiosk (G := G) hl0 h v1) dX11_isRead_1 my_X11_mustBeKiosk st_X11_mustBeKiosk ml_RX11_99 rfl rfl (Nat.le_of_ble_eq_true rfl) (by decide) (by decide)) (fun _ => rfl) (fun h1 x2 => ?_)
  refine nr_aload_n 0 dX11_isRead_4 rfl ?_
  refine nr_iload_n 2 dX11_isRead_5 rfl ?_
  refine nr_rcv (ks := [18]) (pre := [.inl v2]) (fun a3 hm => ?_)
  refine nr_dtV (st := []) (nk_callV (q := (RX11, TX11, 9)) (ci := 11) (c_X11_mustBePiece (G := G) hl0 h1 a3 v2) dX11_isRead_6 (List.mem_singleton.mp hm) rfl rfl my_X11_mustBePiece im_X11_mustBePiece se_RX11_X11_mustBePiece ml_RX11_264 rfl rfl (Nat.le_of_ble_eq_true rfl) (by decide) (by decide)) (fun _ => rfl) (fun h4 x5 => ?_)
  refine nr_aload_n 0 dX11_isRead_9 rfl ?_
  refine nr_getP [18] 1 dX11_isRead_10 fk_RX11_19 (fun x6 => ?_)
  refine nr_iload_n 2 dX11_isRead_13 rfl ?_
  refine nr_rcv (ks := [15]) (pre := [.inl v2]) (fun a7 hm => ?_)
  refine nr_doR (st := []) (nk_callV (q := (RX7, TX7, 2)) (ci := 8) (c_X7_pieceAt (G := G) hl0 h4 a7 v2) dX11_isRead_14 (List.mem_singleton.mp hm) rfl rfl my_X7_pieceAt im_X7_pieceAt se_RX7_X7_pieceAt ml_RX11_267 rfl rfl (Nat.le_of_ble_eq_true rfl) (by decide) (by decide)) (fun h8 x9 => ?_)
  refine nr_getI [8, 12, 16, 17] 4 dX11_isRead_17 fk_RX11_290 (fun x10 => ?_)
  refine nr_iload_n 1 dX11_isRead_20 rfl ?_
  refine nr_doI (st := []) (nk_callS (c_X11_hasBit (G := G) hl0 h8 x10 v1) dX11_isRead_21 my_X11_hasBit st_X11_hasBit ml_RX11_282 rfl rfl (Nat.le_of_ble_eq_true rfl) (by decide) (by decide)) (fun h11 x12 => ?_)
  exact nr_zret rfl rfl dX11_isRead_24
theorem c_X11_isRead {G : nk_G} {l : Launch} (hl0 : l.flags = flags0) (h : nk_H) (t0 : Nat) (v1 : Int32) (v2 : Int32) : nk_Con G l yX11_isRead cX11_isRead 3 (some FieldType.boolean) 7 103 nk_eIt [.inr (some t0), .inl v1, .inl v2] h (f_X11_isRead h t0 v1 v2) :=
  nk_con (ini := false) (by decide) hl0 (Nat.le_of_ble_eq_true rfl) (by decide) (s_X11_isRead hl0 h t0 v1 v2)
set_option maxHeartbeats 4000000 in
theorem s_X11_mail {G : nk_G} {l : Launch} (hl0 : l.flags = flags0) (h : nk_H) (t0 : Nat) (v1 : Int32) : nk_Sim G l RX11 cX11_mail 2 (some FieldType.int) 7 102 false nk_eIt 0 [(0, .inr (some t0)), (1, .inl v1)] [] h (f_X11_mail  h t0 v1) := by
  unfold f_X11_mail
  refine nr_iload_n 1 dX11_mail_0 rfl ?_
  refine nr_dtV (st := []) (nk_callS (c_X11_mustBeKiosk (G := G) hl0 h v1) dX11_mail_1 my_X11_mustBeKiosk st_X11_mustBeKiosk ml_RX11_99 rfl rfl (Nat.le_of_ble_eq_true rfl) (by decide) (by decide)) (fun _ => rfl) (fun h1 x2 => ?_)
  refine nr_aload_n 0 dX11_mail_4 rfl ?_
  refine nr_getP [18] 1 dX11_mail_5 fk_RX11_19 (fun x3 => ?_)
  refine nr_iload_n 1 dX11_mail_8 rfl ?_
  refine nr_rcv (ks := [15]) (pre := [.inl v1]) (fun a4 hm => ?_)
  refine nr_doI (st := []) (nk_callV (q := (RX7, TX7, 2)) (ci := 8) (c_X7_unread (G := G) hl0 h1 a4 v1) dX11_mail_9 (List.mem_singleton.mp hm) rfl rfl my_X7_unread im_X7_unread se_RX7_X7_unread ml_RX11_293 rfl rfl (Nat.le_of_ble_eq_true rfl) (by decide) (by decide)) (fun h5 x6 => ?_)
  exact nr_iret rfl rfl dX11_mail_12
theorem c_X11_mail {G : nk_G} {l : Launch} (hl0 : l.flags = flags0) (h : nk_H) (t0 : Nat) (v1 : Int32) : nk_Con G l yX11_mail cX11_mail 2 (some FieldType.int) 7 102 nk_eIt [.inr (some t0), .inl v1] h (f_X11_mail h t0 v1) :=
  nk_con (ini := false) (by decide) hl0 (Nat.le_of_ble_eq_true rfl) (by decide) (s_X11_mail hl0 h t0 v1)
set_option maxHeartbeats 4000000 in
theorem s_X11_source_c32 {G : nk_G} {l : Launch} (hl0 : l.flags = flags0)   (h : nk_H)  (s0 : Int32) : nk_Sim G l RX11 cX11_source 3 (some FieldType.int) 7 103 false nk_eIt 32 [] [.inl s0] h (f_X11_source_c32   h  s0) := by
  unfold f_X11_source_c32
  exact nr_iret rfl rfl dX11_source_32
set_option maxHeartbeats 4000000 in
theorem s_X11_source {G : nk_G} {l : Launch} (hl0 : l.flags = flags0) (h : nk_H) (t0 : Nat) (v1 : Int32) : nk_Sim G l RX11 cX11_source 3 (some FieldType.int) 7 103 false nk_eIt 0 [(0, .inr (some t0)), (1, .inl v1)] [] h (f_X11_source  h t0 v1) := by
  unfold f_X11_source
  refine nr_aload_n 0 dX11_source_0 rfl ?_
  refine nr_iload_n 1 dX11_source_1 rfl ?_
  refine nr_rcv (ks := [18]) (pre := [.inl v1]) (fun a1 hm => ?_)
  refine nr_dtV (st := []) (nk_callV (q := (RX11, TX11, 9)) (ci := 11) (c_X11_mustBePower (G := G) hl0 h a1 v1) dX11_source_2 (List.mem_singleton.mp hm) rfl rfl my_X11_mustBePower im_X11_mustBePower se_RX11_X11_mustBePower ml_RX11_118 rfl rfl (Nat.le_of_ble_eq_true rfl) (by decide) (by decide)) (fun _ => rfl) (fun h2 x3 => ?_)
  refine nr_aload_n 0 dX11_source_5 rfl ?_
  refine nr_getP [18] 2 dX11_source_6 fk_RX11_26 (fun x4 => ?_)
  refine nr_iload_n 1 dX11_source_9 rfl ?_
  refine nr_rcv (ks := [7]) (pre := [.inl v1]) (fun a5 hm => ?_)
  refine nr_doR (st := []) (nk_callV (q := (RJx4a65c, TJx4a65c, 3)) (ci := 0) (c_Jx4a65c_get_915e3 (G := G) hl0 h2 a5 v1) dX11_source_10 (List.mem_singleton.mp hm) rfl rfl my_Jx4a65c_get_915e3 im_Jx4a65c_get_915e3 se_RJx4a65c_Jx4a65c_get_915e3 ml_RX11_121 rfl rfl (Nat.le_of_ble_eq_true rfl) (by decide) (by decide)) (fun h6 x7 => ?_)
  refine nr_cast dX11_source_13 cl_RX11_125 ca_Power ?_
  refine nr_getP [16] 7 dX11_source_16 fk_RX11_296 (fun x9 => ?_)
  refine nr_astore_n (lv2 := [(2, .inr x9), (0, .inr (some t0)), (1, .inl v1)]) dX11_source_19 (by decide) rfl ?_
  refine nr_aload_n 0 dX11_source_20 rfl ?_
  refine nr_ifnonnull (tgt := 28) dX11_source_21 (by decide) (fun _ => ?_) (fun _ => ?_)
  · refine nr_iconst (v := (-1)) dX11_source_24 (by decide) ?_
    refine nr_goto (tgt := 32) dX11_source_25 (by decide) ?_
    exact nk_locals [] rfl (s_X11_source_c32 hl0  h6 (-1))
  · refine nr_aload_n 0 dX11_source_28 rfl ?_
    refine nr_getI [16] 6 dX11_source_29 fk_RX11_300 (fun x10 => ?_)
    exact nk_locals [] rfl (s_X11_source_c32 hl0  h6 x10)
theorem c_X11_source {G : nk_G} {l : Launch} (hl0 : l.flags = flags0) (h : nk_H) (t0 : Nat) (v1 : Int32) : nk_Con G l yX11_source cX11_source 3 (some FieldType.int) 7 103 nk_eIt [.inr (some t0), .inl v1] h (f_X11_source h t0 v1) :=
  nk_con (ini := false) (by decide) hl0 (Nat.le_of_ble_eq_true rfl) (by decide) (s_X11_source hl0 h t0 v1)
set_option maxHeartbeats 4000000 in
theorem s_X11_holder {G : nk_G} {l : Launch} (hl0 : l.flags = flags0) (h : nk_H) (t0 : Nat) (v1 : Int32) : nk_Sim G l RX11 cX11_holder 2 (some FieldType.int) 7 103 false nk_eIt 0 [(0, .inr (some t0)), (1, .inl v1)] [] h (f_X11_holder  h t0 v1) := by
  unfold f_X11_holder
  refine nr_aload_n 0 dX11_holder_0 rfl ?_
  refine nr_iload_n 1 dX11_holder_1 rfl ?_
  refine nr_rcv (ks := [18]) (pre := [.inl v1]) (fun a1 hm => ?_)
  refine nr_dtV (st := []) (nk_callV (q := (RX11, TX11, 9)) (ci := 11) (c_X11_mustBePower (G := G) hl0 h a1 v1) dX11_holder_2 (List.mem_singleton.mp hm) rfl rfl my_X11_mustBePower im_X11_mustBePower se_RX11_X11_mustBePower ml_RX11_118 rfl rfl (Nat.le_of_ble_eq_true rfl) (by decide) (by decide)) (fun _ => rfl) (fun h2 x3 => ?_)
  refine nr_aload_n 0 dX11_holder_5 rfl ?_
  refine nr_getP [18] 2 dX11_holder_6 fk_RX11_26 (fun x4 => ?_)
  refine nr_iload_n 1 dX11_holder_9 rfl ?_
  refine nr_rcv (ks := [7]) (pre := [.inl v1]) (fun a5 hm => ?_)
  refine nr_doR (st := []) (nk_callV (q := (RJx4a65c, TJx4a65c, 3)) (ci := 0) (c_Jx4a65c_get_915e3 (G := G) hl0 h2 a5 v1) dX11_holder_10 (List.mem_singleton.mp hm) rfl rfl my_Jx4a65c_get_915e3 im_Jx4a65c_get_915e3 se_RJx4a65c_Jx4a65c_get_915e3 ml_RX11_121 rfl rfl (Nat.le_of_ble_eq_true rfl) (by decide) (by decide)) (fun h6 x7 => ?_)
  refine nr_cast dX11_holder_13 cl_RX11_125 ca_Power ?_
  refine nr_getI [16] 9 dX11_holder_16 fk_RX11_127 (fun x9 => ?_)
  exact nr_iret rfl rfl dX11_holder_19
theorem c_X11_holder {G : nk_G} {l : Launch} (hl0 : l.flags = flags0) (h : nk_H) (t0 : Nat) (v1 : Int32) : nk_Con G l yX11_holder cX11_holder 2 (some FieldType.int) 7 103 nk_eIt [.inr (some t0), .inl v1] h (f_X11_holder h t0 v1) :=
  nk_con (ini := false) (by decide) hl0 (Nat.le_of_ble_eq_true rfl) (by decide) (s_X11_holder hl0 h t0 v1)
set_option maxHeartbeats 4000000 in
theorem s_X11_isGood {G : nk_G} {l : Launch} (hl0 : l.flags = flags0) (h : nk_H) (t0 : Nat) (v1 : Int32) (v2 : Int32) : nk_Sim G l RX11 cX11_isGood 3 (some FieldType.boolean) 7 130 false nk_eIt 0 [(0, .inr (some t0)), (1, .inl v1), (2, .inl v2)] [] h (f_X11_isGood  h t0 v1 v2) := by
  unfold f_X11_isGood
  refine nr_iload_n 1 dX11_isGood_0 rfl ?_
  refine nr_dtV (st := []) (nk_callS (c_X11_mustBeKiosk (G := G) hl0 h v1) dX11_isGood_1 my_X11_mustBeKiosk st_X11_mustBeKiosk ml_RX11_99 rfl rfl (Nat.le_of_ble_eq_true rfl) (by decide) (by decide)) (fun _ => rfl) (fun h1 x2 => ?_)
  refine nr_aload_n 0 dX11_isGood_4 rfl ?_
  refine nr_iload_n 2 dX11_isGood_5 rfl ?_
  refine nr_rcv (ks := [18]) (pre := [.inl v2]) (fun a3 hm => ?_)
  refine nr_dtV (st := []) (nk_callV (q := (RX11, TX11, 9)) (ci := 11) (c_X11_mustBePower (G := G) hl0 h1 a3 v2) dX11_isGood_6 (List.mem_singleton.mp hm) rfl rfl my_X11_mustBePower im_X11_mustBePower se_RX11_X11_mustBePower ml_RX11_118 rfl rfl (Nat.le_of_ble_eq_true rfl) (by decide) (by decide)) (fun _ => rfl) (fun h4 x5 => ?_)
  refine nr_aload_n 0 dX11_isGood_9 rfl ?_
  refine nr_iload_n 1 dX11_isGood_10 rfl ?_
  refine nr_aload_n 0 dX11_isGood_11 rfl ?_
  refine nr_getP [18] 2 dX11_isGood_12 fk_RX11_26 (fun x6 => ?_)
  refine nr_iload_n 2 dX11_isGood_15 rfl ?_
  refine nr_rcv (ks := [7]) (pre := [.inl v2]) (fun a7 hm => ?_)
  refine nr_doR (st := [.inl v1, .inr (some t0)]) (nk_callV (q := (RJx4a65c, TJx4a65c, 3)) (ci := 0) (c_Jx4a65c_get_915e3 (G := G) hl0 h4 a7 v2) dX11_isGood_16 (List.mem_singleton.mp hm) rfl rfl my_Jx4a65c_get_915e3 im_Jx4a65c_get_915e3 se_RJx4a65c_Jx4a65c_get_915e3 ml_RX11_121 rfl rfl (Nat.le_of_ble_eq_true rfl) (by decide) (by decide)) (fun h8 x9 => ?_)
  refine nr_cast dX11_isGood_19 cl_RX11_125 ca_Power ?_
  refine nr_rcv (ks := [18]) (pre := [.inr x9, .inl v1]) (fun a11 hm => ?_)
  refine nr_doI (st := []) (nk_callV (q := (RX11, TX11, 9)) (ci := 11) (c_X11_isGoodAt (G := G) hl0 h8 a11 v1 x9) dX11_isGood_22 (List.mem_singleton.mp hm) rfl rfl my_X11_isGoodAt im_X11_isGoodAt se_RX11_X11_isGoodAt ml_RX11_139 rfl rfl (Nat.le_of_ble_eq_true rfl) (by decide) (by decide)) (fun h12 x13 => ?_)
  exact nr_zret rfl rfl dX11_isGood_25
theorem c_X11_isGood {G : nk_G} {l : Launch} (hl0 : l.flags = flags0) (h : nk_H) (t0 : Nat) (v1 : Int32) (v2 : Int32) : nk_Con G l yX11_isGood cX11_isGood 3 (some FieldType.boolean) 7 130 nk_eIt [.inr (some t0), .inl v1, .inl v2] h (f_X11_isGood h t0 v1 v2) :=
  nk_con (ini := false) (by decide) hl0 (Nat.le_of_ble_eq_true rfl) (by decide) (s_X11_isGood hl0 h t0 v1 v2)
set_option maxHeartbeats 4000000 in
theorem s_X11_done {G : nk_G} {l : Launch} (hl0 : l.flags = flags0) (h : nk_H) (t0 : Nat) (v1 : Int32) (v2 : Int32) : nk_Sim G l RX11 cX11_done 3 (some FieldType.int) 7 103 false nk_eIt 0 [(0, .inr (some t0)), (1, .inl v1), (2, .inl v2)] [] h (f_X11_done  h t0 v1 v2) := by
  unfold f_X11_done
  refine nr_iload_n 1 dX11_done_0 rfl ?_
  refine nr_dtV (st := []) (nk_callS (c_X11_mustBeKiosk (G := G) hl0 h v1) dX11_done_1 my_X11_mustBeKiosk st_X11_mustBeKiosk ml_RX11_99 rfl rfl (Nat.le_of_ble_eq_true rfl) (by decide) (by decide)) (fun _ => rfl) (fun h1 x2 => ?_)
  refine nr_aload_n 0 dX11_done_4 rfl ?_
  refine nr_iload_n 2 dX11_done_5 rfl ?_
  refine nr_rcv (ks := [18]) (pre := [.inl v2]) (fun a3 hm => ?_)
  refine nr_dtV (st := []) (nk_callV (q := (RX11, TX11, 9)) (ci := 11) (c_X11_mustBePower (G := G) hl0 h1 a3 v2) dX11_done_6 (List.mem_singleton.mp hm) rfl rfl my_X11_mustBePower im_X11_mustBePower se_RX11_X11_mustBePower ml_RX11_118 rfl rfl (Nat.le_of_ble_eq_true rfl) (by decide) (by decide)) (fun _ => rfl) (fun h4 x5 => ?_)
  refine nr_aload_n 0 dX11_done_9 rfl ?_
  refine nr_getP [18] 1 dX11_done_10 fk_RX11_19 (fun x6 => ?_)
  refine nr_iload_n 1 dX11_done_13 rfl ?_
  refine nr_rcv (ks := [15]) (pre := [.inl v1]) (fun a7 hm => ?_)
  refine nr_doV (st := []) (nk_callV (q := (RX7, TX7, 2)) (ci := 8) (c_X7_lookAtRead (G := G) hl0 h4 a7 v1) dX11_done_14 (List.mem_singleton.mp hm) rfl rfl my_X7_lookAtRead im_X7_lookAtRead se_RX7_X7_lookAtRead ml_RX11_154 rfl rfl (Nat.le_of_ble_eq_true rfl) (by decide) (by decide)) (fun h8 x9 => ?_)
  refine nr_aload_n 0 dX11_done_17 rfl ?_
  refine nr_getP [18] 1 dX11_done_18 fk_RX11_19 (fun x10 => ?_)
  refine nr_aload_n 0 dX11_done_21 rfl ?_
  refine nr_getP [18] 2 dX11_done_22 fk_RX11_26 (fun x11 => ?_)
  refine nr_iload_n 2 dX11_done_25 rfl ?_
  refine nr_rcv (ks := [7]) (pre := [.inl v2]) (fun a12 hm => ?_)
  refine nr_doR (st := [.inr x10]) (nk_callV (q := (RJx4a65c, TJx4a65c, 3)) (ci := 0) (c_Jx4a65c_get_915e3 (G := G) hl0 h8 a12 v2) dX11_done_26 (List.mem_singleton.mp hm) rfl rfl my_Jx4a65c_get_915e3 im_Jx4a65c_get_915e3 se_RJx4a65c_Jx4a65c_get_915e3 ml_RX11_121 rfl rfl (Nat.le_of_ble_eq_true rfl) (by decide) (by decide)) (fun h13 x14 => ?_)
  refine nr_cast dX11_done_29 cl_RX11_125 ca_Power ?_
  refine nr_rcv (ks := [15]) (pre := [.inr x14]) (fun a16 hm => ?_)
  refine nr_doI (st := []) (nk_callV (q := (RX7, TX7, 2)) (ci := 8) (c_X7_doneWith (G := G) hl0 h13 a16 x14) dX11_done_32 (List.mem_singleton.mp hm) rfl rfl my_X7_doneWith im_X7_doneWith se_RX7_X7_doneWith ml_RX11_303 rfl rfl (Nat.le_of_ble_eq_true rfl) (by decide) (by decide)) (fun h17 x18 => ?_)
  exact nr_iret rfl rfl dX11_done_35
theorem c_X11_done {G : nk_G} {l : Launch} (hl0 : l.flags = flags0) (h : nk_H) (t0 : Nat) (v1 : Int32) (v2 : Int32) : nk_Con G l yX11_done cX11_done 3 (some FieldType.int) 7 103 nk_eIt [.inr (some t0), .inl v1, .inl v2] h (f_X11_done h t0 v1 v2) :=
  nk_con (ini := false) (by decide) hl0 (Nat.le_of_ble_eq_true rfl) (by decide) (s_X11_done hl0 h t0 v1 v2)
set_option maxHeartbeats 4000000 in
theorem s_X11_against {G : nk_G} {l : Launch} (hl0 : l.flags = flags0) (h : nk_H) (t0 : Nat) (v1 : Int32) (v2 : Int32) (v3 : Int32) (v4 : Int32) : nk_Sim G l RX11 cX11_against 5 (some FieldType.int) 7 132 false nk_eIt 0 [(0, .inr (some t0)), (1, .inl v1), (2, .inl v2), (3, .inl v3), (4, .inl v4)] [] h (f_X11_against  h t0 v1 v2 v3 v4) := by
  unfold f_X11_against
  refine nr_iload_n 1 dX11_against_0 rfl ?_
  refine nr_dtV (st := []) (nk_callS (c_X11_mustBeKiosk (G := G) hl0 h v1) dX11_against_1 my_X11_mustBeKiosk st_X11_mustBeKiosk ml_RX11_99 rfl rfl (Nat.le_of_ble_eq_true rfl) (by decide) (by decide)) (fun _ => rfl) (fun h1 x2 => ?_)
  refine nr_iload_n 2 dX11_against_4 rfl ?_
  refine nr_dtV (st := []) (nk_callS (c_X11_mustBePerson (G := G) hl0 h1 v2) dX11_against_5 my_X11_mustBePerson st_X11_mustBePerson ml_RX11_105 rfl rfl (Nat.le_of_ble_eq_true rfl) (by decide) (by decide)) (fun _ => rfl) (fun h3 x4 => ?_)
  refine nr_aload_n 0 dX11_against_8 rfl ?_
  refine nr_iload_n 3 dX11_against_9 rfl ?_
  refine nr_rcv (ks := [18]) (pre := [.inl v3]) (fun a5 hm => ?_)
  refine nr_dtV (st := []) (nk_callV (q := (RX11, TX11, 9)) (ci := 11) (c_X11_mustBePower (G := G) hl0 h3 a5 v3) dX11_against_10 (List.mem_singleton.mp hm) rfl rfl my_X11_mustBePower im_X11_mustBePower se_RX11_X11_mustBePower ml_RX11_118 rfl rfl (Nat.le_of_ble_eq_true rfl) (by decide) (by decide)) (fun _ => rfl) (fun h6 x7 => ?_)
  refine nr_iload 4 dX11_against_13 rfl ?_
  refine nr_iconst (v := 1) dX11_against_15 (by decide) ?_
  refine nr_sipush (v := 10000) dX11_against_16 (by decide) ?_
  refine nr_dtV (st := []) (nk_callS (c_X11_mustBeWithin (G := G) hl0 h6 v4 1 10000) dX11_against_19 my_X11_mustBeWithin st_X11_mustBeWithin ml_RX11_86 rfl rfl (Nat.le_of_ble_eq_true rfl) (by decide) (by decide)) (fun _ => rfl) (fun h8 x9 => ?_)
  refine nr_aload_n 0 dX11_against_22 rfl ?_
  refine nr_getP [18] 1 dX11_against_23 fk_RX11_19 (fun x10 => ?_)
  refine nr_iload_n 1 dX11_against_26 rfl ?_
  refine nr_rcv (ks := [15]) (pre := [.inl v1]) (fun a11 hm => ?_)
  refine nr_doV (st := []) (nk_callV (q := (RX7, TX7, 2)) (ci := 8) (c_X7_lookAtRead (G := G) hl0 h8 a11 v1) dX11_against_27 (List.mem_singleton.mp hm) rfl rfl my_X7_lookAtRead im_X7_lookAtRead se_RX7_X7_lookAtRead ml_RX11_154 rfl rfl (Nat.le_of_ble_eq_true rfl) (by decide) (by decide)) (fun h12 x13 => ?_)
  refine nr_aload_n 0 dX11_against_30 rfl ?_
  refine nr_getP [18] 1 dX11_against_31 fk_RX11_19 (fun x14 => ?_)
  refine nr_aload_n 0 dX11_against_34 rfl ?_
  refine nr_getP [18] 2 dX11_against_35 fk_RX11_26 (fun x15 => ?_)
  refine nr_iload_n 3 dX11_against_38 rfl ?_
  refine nr_rcv (ks := [7]) (pre := [.inl v3]) (fun a16 hm => ?_)
  refine nr_doR (st := [.inr x14]) (nk_callV (q := (RJx4a65c, TJx4a65c, 3)) (ci := 0) (c_Jx4a65c_get_915e3 (G := G) hl0 h12 a16 v3) dX11_against_39 (List.mem_singleton.mp hm) rfl rfl my_Jx4a65c_get_915e3 im_Jx4a65c_get_915e3 se_RJx4a65c_Jx4a65c_get_915e3 ml_RX11_121 rfl rfl (Nat.le_of_ble_eq_true rfl) (by decide) (by decide)) (fun h17 x18 => ?_)
  refine nr_cast dX11_against_42 cl_RX11_125 ca_Power ?_
  refine nr_aload_n 0 dX11_against_45 rfl ?_
  refine nr_iload_n 1 dX11_against_46 rfl ?_
  refine nr_iload_n 2 dX11_against_47 rfl ?_
  refine nr_iload 4 dX11_against_48 rfl ?_
  refine nr_rcv (ks := [18]) (pre := [.inl v4, .inl v2, .inl v1]) (fun a20 hm => ?_)
  refine nr_doR (st := [.inr x18, .inr x14]) (nk_callV (q := (RX11, TX11, 9)) (ci := 11) (c_X11_deedNow (G := G) hl0 h17 a20 v1 v2 v4) dX11_against_50 (List.mem_singleton.mp hm) rfl rfl my_X11_deedNow im_X11_deedNow se_RX11_X11_deedNow ml_RX11_188 rfl rfl (Nat.le_of_ble_eq_true rfl) (by decide) (by decide)) (fun h21 x22 => ?_)
  refine nr_rcv (ks := [15]) (pre := [.inr x22, .inr x18]) (fun a23 hm => ?_)
  refine nr_doI (st := []) (nk_callV (q := (RX7, TX7, 2)) (ci := 8) (c_X7_reasonAgainst (G := G) hl0 h21 a23 x18 x22) dX11_against_53 (List.mem_singleton.mp hm) rfl rfl my_X7_reasonAgainst im_X7_reasonAgainst se_RX7_X7_reasonAgainst ml_RX11_192 rfl rfl (Nat.le_of_ble_eq_true rfl) (by decide) (by decide)) (fun h24 x25 => ?_)
  exact nr_iret rfl rfl dX11_against_56
theorem c_X11_against {G : nk_G} {l : Launch} (hl0 : l.flags = flags0) (h : nk_H) (t0 : Nat) (v1 : Int32) (v2 : Int32) (v3 : Int32) (v4 : Int32) : nk_Con G l yX11_against cX11_against 5 (some FieldType.int) 7 132 nk_eIt [.inr (some t0), .inl v1, .inl v2, .inl v3, .inl v4] h (f_X11_against h t0 v1 v2 v3 v4) :=
  nk_con (ini := false) (by decide) hl0 (Nat.le_of_ble_eq_true rfl) (by decide) (s_X11_against hl0 h t0 v1 v2 v3 v4)
set_option maxHeartbeats 4000000 in
theorem s_X11_choices_c78 {G : nk_G} {l : Launch} (hl0 : l.flags = flags0) {r39 : nk_H → Nat → Option Nat → Int32 → Int32 → Option (nk_H × (Int32 ⊕ String))} (hr39 : ∀ (h : nk_H) (t0 : Nat) (v4 : Option Nat) (v5 : Int32) (v6 : Int32), nk_Sim G l RX11 cX11_choices 7 (some FieldType.int) 7 132 false nk_eIt 39 [(0, .inr (some t0)), (4, .inr v4), (5, .inl v5), (6, .inl v6)] [] h (r39 h t0 v4 v5 v6)) (h : nk_H) (t0 : Nat) (v4 : Option Nat) (v5 : Int32) (v6 : Int32)  : nk_Sim G l RX11 cX11_choices 7 (some FieldType.int) 7 132 false nk_eIt 78 [(0, .inr (some t0)), (4, .inr v4), (5, .inl v5), (6, .inl v6)] [] h (f_X11_choices_c78  r39 h t0 v4 v5 v6 ) := by
  unfold f_X11_choices_c78
  refine nr_iinc (lv2 := [(6, .inl (v6 + 1)), (0, .inr (some t0)), (4, .inr v4), (5, .inl v5)]) 3 (v6 + 1) dX11_choices_78 rfl (by rfl) (by decide) rfl ?_
  refine nr_goto (tgt := 39) dX11_choices_81 (by decide) ?_
  exact nk_locals [1, 2, 3, 0] rfl (hr39 h t0 v4 v5 (v6 + 1))
set_option maxHeartbeats 4000000 in
theorem s_X11_choices_c39 {G : nk_G} {l : Launch} (hl0 : l.flags = flags0) {r39 : nk_H → Nat → Option Nat → Int32 → Int32 → Option (nk_H × (Int32 ⊕ String))} (hr39 : ∀ (h : nk_H) (t0 : Nat) (v4 : Option Nat) (v5 : Int32) (v6 : Int32), nk_Sim G l RX11 cX11_choices 7 (some FieldType.int) 7 132 false nk_eIt 39 [(0, .inr (some t0)), (4, .inr v4), (5, .inl v5), (6, .inl v6)] [] h (r39 h t0 v4 v5 v6)) (h : nk_H) (t0 : Nat) (v4 : Option Nat) (v5 : Int32) (v6 : Int32)  : nk_Sim G l RX11 cX11_choices 7 (some FieldType.int) 7 132 false nk_eIt 39 [(0, .inr (some t0)), (4, .inr v4), (5, .inl v5), (6, .inl v6)] [] h (f_X11_choices_c39  r39 h t0 v4 v5 v6 ) := by
  unfold f_X11_choices_c39
  refine nr_iload 3 dX11_choices_39 rfl ?_
  refine nr_aload_n 0 dX11_choices_41 rfl ?_
  refine nr_getP [18] 2 dX11_choices_42 fk_RX11_26 (fun x1 => ?_)
  refine nr_rcv (ks := [7]) (pre := []) (fun a2 hm => ?_)
  refine nr_doI (st := [.inl v6]) (nk_callV (q := (RJx4a65c, TJx4a65c, 3)) (ci := 0) (c_Jx4a65c_size_8abf5 (G := G) hl0 h a2) dX11_choices_45 (List.mem_singleton.mp hm) rfl rfl my_Jx4a65c_size_8abf5 im_Jx4a65c_size_8abf5 se_RJx4a65c_Jx4a65c_size_8abf5 ml_RX11_227 rfl rfl (Nat.le_of_ble_eq_true rfl) (by decide) (by decide)) (fun h3 x4 => ?_)
  refine nr_icmp_ge (tgt := 84) dX11_choices_48 (by decide) (fun _ => ?_) (fun _ => ?_)
  · refine nr_iload 2 dX11_choices_84 rfl ?_
    exact nr_iret rfl rfl dX11_choices_86
  · refine nr_aload_n 0 dX11_choices_51 rfl ?_
    refine nr_getP [18] 1 dX11_choices_52 fk_RX11_19 (fun x5 => ?_)
    refine nr_aload_n 0 dX11_choices_55 rfl ?_
    refine nr_getP [18] 2 dX11_choices_56 fk_RX11_26 (fun x6 => ?_)
    refine nr_iload 3 dX11_choices_59 rfl ?_
    refine nr_rcv (ks := [7]) (pre := [.inl v6]) (fun a7 hm => ?_)
    refine nr_doR (st := [.inr x5]) (nk_callV (q := (RJx4a65c, TJx4a65c, 3)) (ci := 0) (c_Jx4a65c_get_915e3 (G := G) hl0 h3 a7 v6) dX11_choices_61 (List.mem_singleton.mp hm) rfl rfl my_Jx4a65c_get_915e3 im_Jx4a65c_get_915e3 se_RJx4a65c_Jx4a65c_get_915e3 ml_RX11_121 rfl rfl (Nat.le_of_ble_eq_true rfl) (by decide) (by decide)) (fun h8 x9 => ?_)
    refine nr_cast dX11_choices_64 cl_RX11_125 ca_Power ?_
    refine nr_aload 1 dX11_choices_67 rfl ?_
    refine nr_rcv (ks := [15]) (pre := [.inr v4, .inr x9]) (fun a11 hm => ?_)
    refine nr_doI (st := []) (nk_callV (q := (RX7, TX7, 2)) (ci := 8) (c_X7_reasonAgainst (G := G) hl0 h8 a11 x9 v4) dX11_choices_69 (List.mem_singleton.mp hm) rfl rfl my_X7_reasonAgainst im_X7_reasonAgainst se_RX7_X7_reasonAgainst ml_RX11_192 rfl rfl (Nat.le_of_ble_eq_true rfl) (by decide) (by decide)) (fun h12 x13 => ?_)
    refine nr_if_ne (tgt := 78) dX11_choices_72 (by decide) (fun _ => ?_) (fun _ => ?_)
    · refine nr_iinc (lv2 := [(5, .inl (v5 + 1)), (0, .inr (some t0)), (4, .inr v4), (6, .inl v6)]) 2 (v5 + 1) dX11_choices_75 rfl (by rfl) (by decide) rfl ?_
      exact nk_locals [1, 2, 0, 3] rfl (s_X11_choices_c78 hl0 hr39 h12 t0 v4 (v5 + 1) v6)
    · exact s_X11_choices_c78 hl0 hr39 h12 t0 v4 v5 v6
theorem s_X11_choices_b39 {G : nk_G} {l : Launch} (hl0 : l.flags = flags0)   : ∀ (n : Nat) (h : nk_H) (t0 : Nat) (v4 : Option Nat) (v5 : Int32) (v6 : Int32), nk_Sim G l RX11 cX11_choices 7 (some FieldType.int) 7 132 false nk_eIt 39 [(0, .inr (some t0)), (4, .inr v4), (5, .inl v5), (6, .inl v6)] [] h (f_X11_choices_b39   n h t0 v4 v5 v6)
  | 0, _, _, _, _, _ => nk_none
  | n + 1, h, t0, v4, v5, v6 => s_X11_choices_c39 hl0 (s_X11_choices_b39 hl0  n) h t0 v4 v5 v6
set_option maxHeartbeats 4000000 in
theorem s_X11_choices {G : nk_G} {l : Launch} (hl0 : l.flags = flags0) (h : nk_H) (t0 : Nat) (v1 : Int32) (v2 : Int32) (v3 : Int32) : nk_Sim G l RX11 cX11_choices 7 (some FieldType.int) 7 132 false nk_eIt 0 [(0, .inr (some t0)), (1, .inl v1), (2, .inl v2), (3, .inl v3)] [] h (f_X11_choices  h t0 v1 v2 v3) := by
  unfold f_X11_choices
  refine nr_iload_n 1 dX11_choices_0 rfl ?_
  refine nr_dtV (st := []) (nk_callS (c_X11_mustBeKiosk (G := G) hl0 h v1) dX11_choices_1 my_X11_mustBeKiosk st_X11_mustBeKiosk ml_RX11_99 rfl rfl (Nat.le_of_ble_eq_true rfl) (by decide) (by decide)) (fun _ => rfl) (fun h14 x15 => ?_)
  refine nr_iload_n 2 dX11_choices_4 rfl ?_
  refine nr_dtV (st := []) (nk_callS (c_X11_mustBePerson (G := G) hl0 h14 v2) dX11_choices_5 my_X11_mustBePerson st_X11_mustBePerson ml_RX11_105 rfl rfl (Nat.le_of_ble_eq_true rfl) (by decide) (by decide)) (fun _ => rfl) (fun h16 x17 => ?_)
  refine nr_iload_n 3 dX11_choices_8 rfl ?_
  refine nr_iconst (v := 1) dX11_choices_9 (by decide) ?_
  refine nr_sipush (v := 10000) dX11_choices_10 (by decide) ?_
  refine nr_dtV (st := []) (nk_callS (c_X11_mustBeWithin (G := G) hl0 h16 v3 1 10000) dX11_choices_13 my_X11_mustBeWithin st_X11_mustBeWithin ml_RX11_86 rfl rfl (Nat.le_of_ble_eq_true rfl) (by decide) (by decide)) (fun _ => rfl) (fun h18 x19 => ?_)
  refine nr_aload_n 0 dX11_choices_16 rfl ?_
  refine nr_iload_n 1 dX11_choices_17 rfl ?_
  refine nr_iload_n 2 dX11_choices_18 rfl ?_
  refine nr_iload_n 3 dX11_choices_19 rfl ?_
  refine nr_rcv (ks := [18]) (pre := [.inl v3, .inl v2, .inl v1]) (fun a20 hm => ?_)
  refine nr_doR (st := []) (nk_callV (q := (RX11, TX11, 9)) (ci := 11) (c_X11_deedNow (G := G) hl0 h18 a20 v1 v2 v3) dX11_choices_20 (List.mem_singleton.mp hm) rfl rfl my_X11_deedNow im_X11_deedNow se_RX11_X11_deedNow ml_RX11_188 rfl rfl (Nat.le_of_ble_eq_true rfl) (by decide) (by decide)) (fun h21 x22 => ?_)
  refine nr_astore (lv2 := [(4, .inr x22), (0, .inr (some t0)), (1, .inl v1), (2, .inl v2), (3, .inl v3)]) dX11_choices_23 (by decide) rfl ?_
  refine nr_aload_n 1 dX11_choices_25 rfl ?_
  refine nr_getP [18] 1 dX11_choices_26 fk_RX11_19 (fun x23 => ?_)
  refine nr_iload_n 2 dX11_choices_29 rfl ?_
  refine nr_rcv (ks := [15]) (pre := [.inl v1]) (fun a24 hm => ?_)
  refine nr_doV (st := []) (nk_callV (q := (RX7, TX7, 2)) (ci := 8) (c_X7_lookAtRead (G := G) hl0 h21 a24 v1) dX11_choices_30 (List.mem_singleton.mp hm) rfl rfl my_X7_lookAtRead im_X7_lookAtRead se_RX7_X7_lookAtRead ml_RX11_154 rfl rfl (Nat.le_of_ble_eq_true rfl) (by decide) (by decide)) (fun h25 x26 => ?_)
  refine nr_iconst (v := 0) dX11_choices_33 (by decide) ?_
  refine nr_istore (lv2 := [(5, .inl 0), (4, .inr x22), (0, .inr (some t0)), (1, .inl v1), (2, .inl v2), (3, .inl v3)]) dX11_choices_34 (by decide) rfl ?_
  refine nr_iconst (v := 0) dX11_choices_36 (by decide) ?_
  refine nr_istore (lv2 := [(6, .inl 0), (5, .inl 0), (4, .inr x22), (0, .inr (some t0)), (1, .inl v1), (2, .inl v2), (3, .inl v3)]) dX11_choices_37 (by decide) rfl ?_
  exact nk_locals [3, 2, 1, 0] rfl (s_X11_choices_b39 hl0  4096 h25 t0 x22 0 0)
theorem c_X11_choices {G : nk_G} {l : Launch} (hl0 : l.flags = flags0) (h : nk_H) (t0 : Nat) (v1 : Int32) (v2 : Int32) (v3 : Int32) : nk_Con G l yX11_choices cX11_choices 7 (some FieldType.int) 7 132 nk_eIt [.inr (some t0), .inl v1, .inl v2, .inl v3] h (f_X11_choices h t0 v1 v2 v3) :=
  nk_con (ini := false) (by decide) hl0 (Nat.le_of_ble_eq_true rfl) (by decide) (s_X11_choices hl0 h t0 v1 v2 v3)
set_option maxHeartbeats 4000000 in
theorem s_X11_stands {G : nk_G} {l : Launch} (hl0 : l.flags = flags0) (h : nk_H) (t0 : Nat) (v1 : Int32) (v2 : Int32) : nk_Sim G l RX11 cX11_stands 3 (some FieldType.boolean) 8 124 false nk_eIt 0 [(0, .inr (some t0)), (1, .inl v1), (2, .inl v2)] [] h (f_X11_stands  h t0 v1 v2) := by
  unfold f_X11_stands
  refine nr_aload_n 0 dX11_stands_0 rfl ?_
  refine nr_iload_n 1 dX11_stands_1 rfl ?_
  refine nr_iload_n 2 dX11_stands_2 rfl ?_
  refine nr_rcv (ks := [18]) (pre := [.inl v2, .inl v1]) (fun a1 hm => ?_)
  refine nr_dtV (st := []) (nk_callV (q := (RX11, TX11, 9)) (ci := 11) (c_X11_mustBeRecord (G := G) hl0 h a1 v1 v2) dX11_stands_3 (List.mem_singleton.mp hm) rfl rfl my_X11_mustBeRecord im_X11_mustBeRecord se_RX11_X11_mustBeRecord ml_RX11_214 rfl rfl (Nat.le_of_ble_eq_true rfl) (by decide) (by decide)) (fun _ => rfl) (fun h2 x3 => ?_)
  refine nr_aload_n 0 dX11_stands_6 rfl ?_
  refine nr_getP [18] 3 dX11_stands_7 fk_RX11_32 (fun x4 => ?_)
  refine nr_iload_n 1 dX11_stands_10 rfl ?_
  refine nr_aaload 3 dX11_stands_11 (by decide) (fun x5 => ?_)
  refine nr_iload_n 2 dX11_stands_12 rfl ?_
  refine nr_rcv (ks := [9]) (pre := [.inl v2]) (fun a6 hm => ?_)
  refine nr_doR (st := []) (nk_callV (q := (RX1, TX1, 2)) (ci := 2) (c_X1_actOf (G := G) hl0 h2 a6 v2) dX11_stands_13 (List.mem_singleton.mp hm) rfl rfl my_X1_actOf im_X1_actOf se_RX1_X1_actOf ml_RX11_217 rfl rfl (Nat.le_of_ble_eq_true rfl) (by decide) (by decide)) (fun h7 x8 => ?_)
  refine nr_getI [8] 10 dX11_stands_16 fk_RX11_207 (fun x9 => ?_)
  exact nr_zret rfl rfl dX11_stands_19
theorem c_X11_stands {G : nk_G} {l : Launch} (hl0 : l.flags = flags0) (h : nk_H) (t0 : Nat) (v1 : Int32) (v2 : Int32) : nk_Con G l yX11_stands cX11_stands 3 (some FieldType.boolean) 8 124 nk_eIt [.inr (some t0), .inl v1, .inl v2] h (f_X11_stands h t0 v1 v2) :=
  nk_con (ini := false) (by decide) hl0 (Nat.le_of_ble_eq_true rfl) (by decide) (s_X11_stands hl0 h t0 v1 v2)
set_option maxHeartbeats 4000000 in
theorem s_X11_fault {G : nk_G} {l : Launch} (hl0 : l.flags = flags0) (h : nk_H) (t0 : Nat) (v1 : Int32) (v2 : Int32) : nk_Sim G l RX11 cX11_fault 3 (some FieldType.int) 8 153 false nk_eIt 0 [(0, .inr (some t0)), (1, .inl v1), (2, .inl v2)] [] h (f_X11_fault  h t0 v1 v2) := by
  unfold f_X11_fault
  refine nr_aload_n 0 dX11_fault_0 rfl ?_
  refine nr_iload_n 1 dX11_fault_1 rfl ?_
  refine nr_iload_n 2 dX11_fault_2 rfl ?_
  refine nr_rcv (ks := [18]) (pre := [.inl v2, .inl v1]) (fun a1 hm => ?_)
  refine nr_dtV (st := []) (nk_callV (q := (RX11, TX11, 9)) (ci := 11) (c_X11_mustBeRecord (G := G) hl0 h a1 v1 v2) dX11_fault_3 (List.mem_singleton.mp hm) rfl rfl my_X11_mustBeRecord im_X11_mustBeRecord se_RX11_X11_mustBeRecord ml_RX11_214 rfl rfl (Nat.le_of_ble_eq_true rfl) (by decide) (by decide)) (fun _ => rfl) (fun h2 x3 => ?_)
  refine nr_aload_n 0 dX11_fault_6 rfl ?_
  refine nr_aload_n 0 dX11_fault_7 rfl ?_
  refine nr_getP [18] 3 dX11_fault_8 fk_RX11_32 (fun x4 => ?_)
  refine nr_iload_n 1 dX11_fault_11 rfl ?_
  refine nr_aaload 3 dX11_fault_12 (by decide) (fun x5 => ?_)
  refine nr_iload_n 2 dX11_fault_13 rfl ?_
  refine nr_rcv (ks := [9]) (pre := [.inl v2]) (fun a6 hm => ?_)
  refine nr_doR (st := [.inr (some t0)]) (nk_callV (q := (RX1, TX1, 2)) (ci := 2) (c_X1_actOf (G := G) hl0 h2 a6 v2) dX11_fault_14 (List.mem_singleton.mp hm) rfl rfl my_X1_actOf im_X1_actOf se_RX1_X1_actOf ml_RX11_217 rfl rfl (Nat.le_of_ble_eq_true rfl) (by decide) (by decide)) (fun h7 x8 => ?_)
  refine nr_rcv (ks := [18]) (pre := [.inr x8]) (fun a9 hm => ?_)
  refine nr_doI (st := []) (nk_callV (q := (RX11, TX11, 9)) (ci := 11) (c_X11_reasonByMail (G := G) hl0 h7 a9 x8) dX11_fault_17 (List.mem_singleton.mp hm) rfl rfl my_X11_reasonByMail im_X11_reasonByMail se_RX11_X11_reasonByMail ml_RX11_203 rfl rfl (Nat.le_of_ble_eq_true rfl) (by decide) (by decide)) (fun h10 x11 => ?_)
  exact nr_iret rfl rfl dX11_fault_20
theorem c_X11_fault {G : nk_G} {l : Launch} (hl0 : l.flags = flags0) (h : nk_H) (t0 : Nat) (v1 : Int32) (v2 : Int32) : nk_Con G l yX11_fault cX11_fault 3 (some FieldType.int) 8 153 nk_eIt [.inr (some t0), .inl v1, .inl v2] h (f_X11_fault h t0 v1 v2) :=
  nk_con (ini := false) (by decide) hl0 (Nat.le_of_ble_eq_true rfl) (by decide) (s_X11_fault hl0 h t0 v1 v2)
set_option maxHeartbeats 4000000 in
theorem s_X11_standing_c4 {G : nk_G} {l : Launch} (hl0 : l.flags = flags0) {r4 : nk_H → Nat → Int32 → Int32 → Option (nk_H × Int32)} (hr4 : ∀ (h : nk_H) (t0 : Nat) (v1 : Int32) (v2 : Int32), nk_Sim G l RX11 cX11_standing 3 (some FieldType.int) 4 86 false nk_eI 4 [(0, .inr (some t0)), (1, .inl v1), (2, .inl v2)] [] h (r4 h t0 v1 v2)) (h : nk_H) (t0 : Nat) (v1 : Int32) (v2 : Int32)  : nk_Sim G l RX11 cX11_standing 3 (some FieldType.int) 4 86 false nk_eI 4 [(0, .inr (some t0)), (1, .inl v1), (2, .inl v2)] [] h (f_X11_standing_c4  r4 h t0 v1 v2 ) := by
  unfold f_X11_standing_c4
  refine nr_iload_n 2 dX11_standing_4 rfl ?_
  refine nr_bipush (v := 6) dX11_standing_5 (by decide) ?_
  refine nr_icmp_ge (tgt := 28) dX11_standing_7 (by decide) (fun _ => ?_) (fun _ => ?_)
  · refine nr_iload_n 1 dX11_standing_28 rfl ?_
    exact nr_iret rfl rfl dX11_standing_29
  · refine nr_iload_n 1 dX11_standing_10 rfl ?_
    refine nr_aload_n 0 dX11_standing_11 rfl ?_
    refine nr_getP [18] 3 dX11_standing_12 fk_RX11_32 (fun x1 => ?_)
    refine nr_iload_n 2 dX11_standing_15 rfl ?_
    refine nr_aaload 3 dX11_standing_16 (by decide) (fun x2 => ?_)
    refine nr_rcv (ks := [9]) (pre := []) (fun a3 hm => ?_)
    refine nr_doI (st := [.inl v1]) (nk_callV (q := (RX1, TX1, 2)) (ci := 2) (c_X1_countStanding (G := G) hl0 h a3) dX11_standing_17 (List.mem_singleton.mp hm) rfl rfl my_X1_countStanding im_X1_countStanding se_RX1_X1_countStanding ml_RX11_315 rfl rfl (Nat.le_of_ble_eq_true rfl) (by decide) (by decide)) (fun h4 x5 => ?_)
    refine nr_iadd dX11_standing_20 ?_
    refine nr_istore_n (lv2 := [(1, .inl (v1 + x5)), (0, .inr (some t0)), (2, .inl v2)]) dX11_standing_21 (by decide) rfl ?_
    refine nr_iinc (lv2 := [(2, .inl (v2 + 1)), (1, .inl (v1 + x5)), (0, .inr (some t0))]) 2 (v2 + 1) dX11_standing_22 rfl (by rfl) (by decide) rfl ?_
    refine nr_goto (tgt := 4) dX11_standing_25 (by decide) ?_
    exact nk_locals [2, 1, 0] rfl (hr4 h4 t0 (v1 + x5) (v2 + 1))
theorem s_X11_standing_b4 {G : nk_G} {l : Launch} (hl0 : l.flags = flags0)   : ∀ (n : Nat) (h : nk_H) (t0 : Nat) (v1 : Int32) (v2 : Int32), nk_Sim G l RX11 cX11_standing 3 (some FieldType.int) 4 86 false nk_eI 4 [(0, .inr (some t0)), (1, .inl v1), (2, .inl v2)] [] h (f_X11_standing_b4   n h t0 v1 v2)
  | 0, _, _, _, _ => nk_none
  | n + 1, h, t0, v1, v2 => s_X11_standing_c4 hl0 (s_X11_standing_b4 hl0  n) h t0 v1 v2
set_option maxHeartbeats 4000000 in
theorem s_X11_standing {G : nk_G} {l : Launch} (hl0 : l.flags = flags0) (h : nk_H) (t0 : Nat) : nk_Sim G l RX11 cX11_standing 3 (some FieldType.int) 4 86 false nk_eI 0 [(0, .inr (some t0))] [] h (f_X11_standing  h t0) := by
  unfold f_X11_standing
  refine nr_iconst (v := 0) dX11_standing_0 (by decide) ?_
  refine nr_istore_n (lv2 := [(1, .inl 0), (0, .inr (some t0))]) dX11_standing_1 (by decide) rfl ?_
  refine nr_iconst (v := 0) dX11_standing_2 (by decide) ?_
  refine nr_istore_n (lv2 := [(2, .inl 0), (1, .inl 0), (0, .inr (some t0))]) dX11_standing_3 (by decide) rfl ?_
  exact nk_locals [2, 1, 0] rfl (s_X11_standing_b4 hl0  4096 h t0 0 0)
theorem c_X11_standing {G : nk_G} {l : Launch} (hl0 : l.flags = flags0) (h : nk_H) (t0 : Nat) : nk_Con G l yX11_standing cX11_standing 3 (some FieldType.int) 4 86 nk_eI [.inr (some t0)] h (f_X11_standing h t0) :=
  nk_con (ini := false) (by decide) hl0 (Nat.le_of_ble_eq_true rfl) (by decide) (s_X11_standing hl0 h t0)
set_option maxHeartbeats 4000000 in
theorem s_X11_pieceOf {G : nk_G} {l : Launch} (hl0 : l.flags = flags0) (h : nk_H) (t0 : Nat) (v1 : Int32) (v2 : Int32) : nk_Sim G l RX11 cX11_pieceOf 3 (some FieldType.int) 8 124 false nk_eIt 0 [(0, .inr (some t0)), (1, .inl v1), (2, .inl v2)] [] h (f_X11_pieceOf  h t0 v1 v2) := by
  unfold f_X11_pieceOf
  refine nr_aload_n 0 dX11_pieceOf_0 rfl ?_
  refine nr_iload_n 1 dX11_pieceOf_1 rfl ?_
  refine nr_iload_n 2 dX11_pieceOf_2 rfl ?_
  refine nr_rcv (ks := [18]) (pre := [.inl v2, .inl v1]) (fun a1 hm => ?_)
  refine nr_dtV (st := []) (nk_callV (q := (RX11, TX11, 9)) (ci := 11) (c_X11_mustBeRecord (G := G) hl0 h a1 v1 v2) dX11_pieceOf_3 (List.mem_singleton.mp hm) rfl rfl my_X11_mustBeRecord im_X11_mustBeRecord se_RX11_X11_mustBeRecord ml_RX11_214 rfl rfl (Nat.le_of_ble_eq_true rfl) (by decide) (by decide)) (fun _ => rfl) (fun h2 x3 => ?_)
  refine nr_aload_n 0 dX11_pieceOf_6 rfl ?_
  refine nr_getP [18] 3 dX11_pieceOf_7 fk_RX11_32 (fun x4 => ?_)
  refine nr_iload_n 1 dX11_pieceOf_10 rfl ?_
  refine nr_aaload 3 dX11_pieceOf_11 (by decide) (fun x5 => ?_)
  refine nr_iload_n 2 dX11_pieceOf_12 rfl ?_
  refine nr_rcv (ks := [9]) (pre := [.inl v2]) (fun a6 hm => ?_)
  refine nr_doR (st := []) (nk_callV (q := (RX1, TX1, 2)) (ci := 2) (c_X1_actOf (G := G) hl0 h2 a6 v2) dX11_pieceOf_13 (List.mem_singleton.mp hm) rfl rfl my_X1_actOf im_X1_actOf se_RX1_X1_actOf ml_RX11_217 rfl rfl (Nat.le_of_ble_eq_true rfl) (by decide) (by decide)) (fun h7 x8 => ?_)
  refine nr_getI [8] 0 dX11_pieceOf_16 fk_RX11_318 (fun x9 => ?_)
  exact nr_iret rfl rfl dX11_pieceOf_19
theorem c_X11_pieceOf {G : nk_G} {l : Launch} (hl0 : l.flags = flags0) (h : nk_H) (t0 : Nat) (v1 : Int32) (v2 : Int32) : nk_Con G l yX11_pieceOf cX11_pieceOf 3 (some FieldType.int) 8 124 nk_eIt [.inr (some t0), .inl v1, .inl v2] h (f_X11_pieceOf h t0 v1 v2) :=
  nk_con (ini := false) (by decide) hl0 (Nat.le_of_ble_eq_true rfl) (by decide) (s_X11_pieceOf hl0 h t0 v1 v2)
set_option maxHeartbeats 4000000 in
theorem s_X11_part {G : nk_G} {l : Launch} (hl0 : l.flags = flags0) (h : nk_H) (t0 : Nat) (v1 : Int32) (v2 : Int32) (v3 : Int32) : nk_Sim G l RX11 cX11_part 4 (some FieldType.int) 8 124 false nk_eIt 0 [(0, .inr (some t0)), (1, .inl v1), (2, .inl v2), (3, .inl v3)] [] h (f_X11_part  h t0 v1 v2 v3) := by
  unfold f_X11_part
  refine nr_aload_n 0 dX11_part_0 rfl ?_
  refine nr_iload_n 1 dX11_part_1 rfl ?_
  refine nr_iload_n 2 dX11_part_2 rfl ?_
  refine nr_rcv (ks := [18]) (pre := [.inl v2, .inl v1]) (fun a1 hm => ?_)
  refine nr_dtV (st := []) (nk_callV (q := (RX11, TX11, 9)) (ci := 11) (c_X11_mustBeRecord (G := G) hl0 h a1 v1 v2) dX11_part_3 (List.mem_singleton.mp hm) rfl rfl my_X11_mustBeRecord im_X11_mustBeRecord se_RX11_X11_mustBeRecord ml_RX11_214 rfl rfl (Nat.le_of_ble_eq_true rfl) (by decide) (by decide)) (fun _ => rfl) (fun h2 x3 => ?_)
  refine nr_iload_n 3 dX11_part_6 rfl ?_
  refine nr_dtV (st := []) (nk_callS (c_X11_mustBePart (G := G) hl0 h2 v3) dX11_part_7 my_X11_mustBePart st_X11_mustBePart ml_RX11_249 rfl rfl (Nat.le_of_ble_eq_true rfl) (by decide) (by decide)) (fun _ => rfl) (fun h4 x5 => ?_)
  refine nr_aload_n 0 dX11_part_10 rfl ?_
  refine nr_getP [18] 3 dX11_part_11 fk_RX11_32 (fun x6 => ?_)
  refine nr_iload_n 1 dX11_part_14 rfl ?_
  refine nr_aaload 3 dX11_part_15 (by decide) (fun x7 => ?_)
  refine nr_iload_n 2 dX11_part_16 rfl ?_
  refine nr_rcv (ks := [9]) (pre := [.inl v2]) (fun a8 hm => ?_)
  refine nr_doR (st := []) (nk_callV (q := (RX1, TX1, 2)) (ci := 2) (c_X1_actOf (G := G) hl0 h4 a8 v2) dX11_part_17 (List.mem_singleton.mp hm) rfl rfl my_X1_actOf im_X1_actOf se_RX1_X1_actOf ml_RX11_217 rfl rfl (Nat.le_of_ble_eq_true rfl) (by decide) (by decide)) (fun h9 x10 => ?_)
  refine nr_getP [8] 8 dX11_part_20 fk_RX11_221 (fun x11 => ?_)
  refine nr_iload_n 3 dX11_part_23 rfl ?_
  refine nr_iaload dX11_part_24 (fun x12 => ?_)
  exact nr_iret rfl rfl dX11_part_25
theorem c_X11_part {G : nk_G} {l : Launch} (hl0 : l.flags = flags0) (h : nk_H) (t0 : Nat) (v1 : Int32) (v2 : Int32) (v3 : Int32) : nk_Con G l yX11_part cX11_part 4 (some FieldType.int) 8 124 nk_eIt [.inr (some t0), .inl v1, .inl v2, .inl v3] h (f_X11_part h t0 v1 v2 v3) :=
  nk_con (ini := false) (by decide) hl0 (Nat.le_of_ble_eq_true rfl) (by decide) (s_X11_part hl0 h t0 v1 v2 v3)
set_option maxHeartbeats 4000000 in
theorem s_X11_seal {G : nk_G} {l : Launch} (hl0 : l.flags = flags0) (h : nk_H) (t0 : Nat) (v1 : Int32) (v2 : Int32) : nk_Sim G l RX11 cX11_seal 3 (some FieldType.int) 8 124 false nk_eIt 0 [(0, .inr (some t0)), (1, .inl v1), (2, .inl v2)] [] h (f_X11_seal  h t0 v1 v2) := by
  unfold f_X11_seal
  refine nr_aload_n 0 dX11_seal_0 rfl ?_
  refine nr_iload_n 1 dX11_seal_1 rfl ?_
  refine nr_iload_n 2 dX11_seal_2 rfl ?_
  refine nr_rcv (ks := [18]) (pre := [.inl v2, .inl v1]) (fun a1 hm => ?_)
  refine nr_dtV (st := []) (nk_callV (q := (RX11, TX11, 9)) (ci := 11) (c_X11_mustBeRecord (G := G) hl0 h a1 v1 v2) dX11_seal_3 (List.mem_singleton.mp hm) rfl rfl my_X11_mustBeRecord im_X11_mustBeRecord se_RX11_X11_mustBeRecord ml_RX11_214 rfl rfl (Nat.le_of_ble_eq_true rfl) (by decide) (by decide)) (fun _ => rfl) (fun h2 x3 => ?_)
  refine nr_aload_n 0 dX11_seal_6 rfl ?_
  refine nr_getP [18] 3 dX11_seal_7 fk_RX11_32 (fun x4 => ?_)
  refine nr_iload_n 1 dX11_seal_10 rfl ?_
  refine nr_aaload 3 dX11_seal_11 (by decide) (fun x5 => ?_)
  refine nr_iload_n 2 dX11_seal_12 rfl ?_
  refine nr_rcv (ks := [9]) (pre := [.inl v2]) (fun a6 hm => ?_)
  refine nr_doR (st := []) (nk_callV (q := (RX1, TX1, 2)) (ci := 2) (c_X1_actOf (G := G) hl0 h2 a6 v2) dX11_seal_13 (List.mem_singleton.mp hm) rfl rfl my_X1_actOf im_X1_actOf se_RX1_X1_actOf ml_RX11_217 rfl rfl (Nat.le_of_ble_eq_true rfl) (by decide) (by decide)) (fun h7 x8 => ?_)
  refine nr_getI [8] 9 dX11_seal_16 fk_RX11_321 (fun x9 => ?_)
  exact nr_iret rfl rfl dX11_seal_19
theorem c_X11_seal {G : nk_G} {l : Launch} (hl0 : l.flags = flags0) (h : nk_H) (t0 : Nat) (v1 : Int32) (v2 : Int32) : nk_Con G l yX11_seal cX11_seal 3 (some FieldType.int) 8 124 nk_eIt [.inr (some t0), .inl v1, .inl v2] h (f_X11_seal h t0 v1 v2) :=
  nk_con (ini := false) (by decide) hl0 (Nat.le_of_ble_eq_true rfl) (by decide) (s_X11_seal hl0 h t0 v1 v2)
set_option maxHeartbeats 4000000 in
theorem s_X11_broken {G : nk_G} {l : Launch} (hl0 : l.flags = flags0) (h : nk_H) (t0 : Nat) (v1 : Int32) : nk_Sim G l RX11 cX11_broken 2 (some FieldType.int) 7 129 false nk_eIt 0 [(0, .inr (some t0)), (1, .inl v1)] [] h (f_X11_broken  h t0 v1) := by
  unfold f_X11_broken
  refine nr_iload_n 1 dX11_broken_0 rfl ?_
  refine nr_dtV (st := []) (nk_callS (c_X11_mustBeKiosk (G := G) hl0 h v1) dX11_broken_1 my_X11_mustBeKiosk st_X11_mustBeKiosk ml_RX11_99 rfl rfl (Nat.le_of_ble_eq_true rfl) (by decide) (by decide)) (fun _ => rfl) (fun h1 x2 => ?_)
  refine nr_aload_n 0 dX11_broken_4 rfl ?_
  refine nr_getP [18] 3 dX11_broken_5 fk_RX11_32 (fun x3 => ?_)
  refine nr_iload_n 1 dX11_broken_8 rfl ?_
  refine nr_aaload 3 dX11_broken_9 (by decide) (fun x4 => ?_)
  refine nr_rcv (ks := [9]) (pre := []) (fun a5 hm => ?_)
  refine nr_doI (st := []) (nk_callV (q := (RX1, TX1, 2)) (ci := 2) (c_X1_firstBroken (G := G) hl0 h1 a5) dX11_broken_10 (List.mem_singleton.mp hm) rfl rfl my_X1_firstBroken im_X1_firstBroken se_RX1_X1_firstBroken ml_RX11_324 rfl rfl (Nat.le_of_ble_eq_true rfl) (by decide) (by decide)) (fun h6 x7 => ?_)
  exact nr_iret rfl rfl dX11_broken_13
theorem c_X11_broken {G : nk_G} {l : Launch} (hl0 : l.flags = flags0) (h : nk_H) (t0 : Nat) (v1 : Int32) : nk_Con G l yX11_broken cX11_broken 2 (some FieldType.int) 7 129 nk_eIt [.inr (some t0), .inl v1] h (f_X11_broken h t0 v1) :=
  nk_con (ini := false) (by decide) hl0 (Nat.le_of_ble_eq_true rfl) (by decide) (s_X11_broken hl0 h t0 v1)
set_option maxHeartbeats 4000000 in
theorem s_X11_size {G : nk_G} {l : Launch} (hl0 : l.flags = flags0) (h : nk_H) (t0 : Nat) (v1 : Int32) : nk_Sim G l RX11 cX11_size 2 (some FieldType.int) 7 103 false nk_eIt 0 [(0, .inr (some t0)), (1, .inl v1)] [] h (f_X11_size  h t0 v1) := by
  unfold f_X11_size
  refine nr_aload_n 0 dX11_size_0 rfl ?_
  refine nr_iload_n 1 dX11_size_1 rfl ?_
  refine nr_rcv (ks := [18]) (pre := [.inl v1]) (fun a1 hm => ?_)
  refine nr_dtV (st := []) (nk_callV (q := (RX11, TX11, 9)) (ci := 11) (c_X11_mustBeCopy (G := G) hl0 h a1 v1) dX11_size_2 (List.mem_singleton.mp hm) rfl rfl my_X11_mustBeCopy im_X11_mustBeCopy se_RX11_X11_mustBeCopy ml_RX11_327 rfl rfl (Nat.le_of_ble_eq_true rfl) (by decide) (by decide)) (fun _ => rfl) (fun h2 x3 => ?_)
  refine nr_aload_n 0 dX11_size_5 rfl ?_
  refine nr_getP [18] 4 dX11_size_6 fk_RX11_39 (fun x4 => ?_)
  refine nr_iload_n 1 dX11_size_9 rfl ?_
  refine nr_rcv (ks := [7]) (pre := [.inl v1]) (fun a5 hm => ?_)
  refine nr_doR (st := []) (nk_callV (q := (RJx4a65c, TJx4a65c, 3)) (ci := 0) (c_Jx4a65c_get_915e3 (G := G) hl0 h2 a5 v1) dX11_size_10 (List.mem_singleton.mp hm) rfl rfl my_Jx4a65c_get_915e3 im_Jx4a65c_get_915e3 se_RJx4a65c_Jx4a65c_get_915e3 ml_RX11_121 rfl rfl (Nat.le_of_ble_eq_true rfl) (by decide) (by decide)) (fun h6 x7 => ?_)
  refine nr_cast dX11_size_13 cl_RX11_233 ca_Copy ?_
  refine nr_getI [10] 2 dX11_size_16 fk_RX11_330 (fun x9 => ?_)
  exact nr_iret rfl rfl dX11_size_19
theorem c_X11_size {G : nk_G} {l : Launch} (hl0 : l.flags = flags0) (h : nk_H) (t0 : Nat) (v1 : Int32) : nk_Con G l yX11_size cX11_size 2 (some FieldType.int) 7 103 nk_eIt [.inr (some t0), .inl v1] h (f_X11_size h t0 v1) :=
  nk_con (ini := false) (by decide) hl0 (Nat.le_of_ble_eq_true rfl) (by decide) (s_X11_size hl0 h t0 v1)
set_option maxHeartbeats 4000000 in
theorem s_X11_copied_c45 {G : nk_G} {l : Launch} (hl0 : l.flags = flags0)   (h : nk_H)  (s0 : Int32) : nk_Sim G l RX11 cX11_copied 5 (some FieldType.int) 8 125 false nk_eIt 45 [] [.inl s0] h (f_X11_copied_c45   h  s0) := by
  unfold f_X11_copied_c45
  exact nr_iret rfl rfl dX11_copied_45
set_option maxHeartbeats 4000000 in
theorem s_X11_copied {G : nk_G} {l : Launch} (hl0 : l.flags = flags0) (h : nk_H) (t0 : Nat) (v1 : Int32) (v2 : Int32) (v3 : Int32) : nk_Sim G l RX11 cX11_copied 5 (some FieldType.int) 8 125 false nk_eIt 0 [(0, .inr (some t0)), (1, .inl v1), (2, .inl v2), (3, .inl v3)] [] h (f_X11_copied  h t0 v1 v2 v3) := by
  unfold f_X11_copied
  refine nr_aload_n 0 dX11_copied_0 rfl ?_
  refine nr_iload_n 1 dX11_copied_1 rfl ?_
  refine nr_iload_n 2 dX11_copied_2 rfl ?_
  refine nr_rcv (ks := [18]) (pre := [.inl v2, .inl v1]) (fun a1 hm => ?_)
  refine nr_dtV (st := []) (nk_callV (q := (RX11, TX11, 9)) (ci := 11) (c_X11_mustBePlace (G := G) hl0 h a1 v1 v2) dX11_copied_3 (List.mem_singleton.mp hm) rfl rfl my_X11_mustBePlace im_X11_mustBePlace se_RX11_X11_mustBePlace ml_RX11_246 rfl rfl (Nat.le_of_ble_eq_true rfl) (by decide) (by decide)) (fun _ => rfl) (fun h2 x3 => ?_)
  refine nr_iload_n 3 dX11_copied_6 rfl ?_
  refine nr_dtV (st := []) (nk_callS (c_X11_mustBePart (G := G) hl0 h2 v3) dX11_copied_7 my_X11_mustBePart st_X11_mustBePart ml_RX11_249 rfl rfl (Nat.le_of_ble_eq_true rfl) (by decide) (by decide)) (fun _ => rfl) (fun h4 x5 => ?_)
  refine nr_aload_n 0 dX11_copied_10 rfl ?_
  refine nr_getP [18] 4 dX11_copied_11 fk_RX11_39 (fun x6 => ?_)
  refine nr_iload_n 1 dX11_copied_14 rfl ?_
  refine nr_rcv (ks := [7]) (pre := [.inl v1]) (fun a7 hm => ?_)
  refine nr_doR (st := []) (nk_callV (q := (RJx4a65c, TJx4a65c, 3)) (ci := 0) (c_Jx4a65c_get_915e3 (G := G) hl0 h4 a7 v1) dX11_copied_15 (List.mem_singleton.mp hm) rfl rfl my_Jx4a65c_get_915e3 im_Jx4a65c_get_915e3 se_RJx4a65c_Jx4a65c_get_915e3 ml_RX11_121 rfl rfl (Nat.le_of_ble_eq_true rfl) (by decide) (by decide)) (fun h8 x9 => ?_)
  refine nr_cast dX11_copied_18 cl_RX11_233 ca_Copy ?_
  refine nr_astore (lv2 := [(4, .inr x9), (0, .inr (some t0)), (1, .inl v1), (2, .inl v2), (3, .inl v3)]) dX11_copied_21 (by decide) rfl ?_
  refine nr_aload 0 dX11_copied_23 rfl ?_
  refine nr_iload_n 4 dX11_copied_25 rfl ?_
  refine nr_rcv (ks := [10]) (pre := [.inl v3]) (fun a11 hm => ?_)
  refine nr_doI (st := []) (nk_callV (q := (RX2, TX2, 7)) (ci := 3) (c_X2_leavesOut (G := G) hl0 h8 a11 v3) dX11_copied_26 (List.mem_singleton.mp hm) rfl rfl my_X2_leavesOut im_X2_leavesOut se_RX2_X2_leavesOut ml_RX11_252 rfl rfl (Nat.le_of_ble_eq_true rfl) (by decide) (by decide)) (fun h12 x13 => ?_)
  refine nr_if_eq (tgt := 36) dX11_copied_29 (by decide) (fun _ => ?_) (fun _ => ?_)
  · refine nr_aload 0 dX11_copied_36 rfl ?_
    refine nr_getP [10] 4 dX11_copied_38 fk_RX11_257 (fun x14 => ?_)
    refine nr_iload_n 3 dX11_copied_41 rfl ?_
    refine nr_aaload 5 dX11_copied_42 (by decide) (fun x15 => ?_)
    refine nr_iload_n 4 dX11_copied_43 rfl ?_
    refine nr_iaload dX11_copied_44 (fun x16 => ?_)
    exact nk_locals [] rfl (s_X11_copied_c45 hl0  h12 x16)
  · refine nr_iconst (v := (-1)) dX11_copied_32 (by decide) ?_
    refine nr_goto (tgt := 45) dX11_copied_33 (by decide) ?_
    exact nk_locals [] rfl (s_X11_copied_c45 hl0  h12 (-1))
theorem c_X11_copied {G : nk_G} {l : Launch} (hl0 : l.flags = flags0) (h : nk_H) (t0 : Nat) (v1 : Int32) (v2 : Int32) (v3 : Int32) : nk_Con G l yX11_copied cX11_copied 5 (some FieldType.int) 8 125 nk_eIt [.inr (some t0), .inl v1, .inl v2, .inl v3] h (f_X11_copied h t0 v1 v2 v3) :=
  nk_con (ini := false) (by decide) hl0 (Nat.le_of_ble_eq_true rfl) (by decide) (s_X11_copied hl0 h t0 v1 v2 v3)
