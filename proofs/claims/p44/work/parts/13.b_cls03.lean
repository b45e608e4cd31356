set_option maxHeartbeats 4000000 in
theorem s_X11_mustBeWithin_c10 {G : nk_G} {l : Launch} (hl0 : l.flags = flags0)   (h : nk_H)   : nk_Sim G l RX11 cX11_mustBeWithin 3 (none : Option FieldType) 6 82 false nk_eVt 10 [] [] h (f_X11_mustBeWithin_c10   h  ) := by
  unfold f_X11_mustBeWithin_c10
  exact nr_throwW (text := "an argument is out of range") rfl (by decide +kernel) cl_RX11_134 in_java_lang_IllegalArgumentException (by decide +kernel) ta_RX11_138 tg_RX11_134_138 dX11_mustBeWithin_10 dX11_mustBeWithin_13 dX11_mustBeWithin_14 dX11_mustBeWithin_17 dX11_mustBeWithin_20 (by decide) (Nat.le_of_ble_eq_true rfl)
set_option maxHeartbeats 4000000 in
theorem s_X11_mustBeWithin {G : nk_G} {l : Launch} (hl0 : l.flags = flags0) (h : nk_H) (v0 : Int32) (v1 : Int32) (v2 : Int32) : nk_Sim G l RX11 cX11_mustBeWithin 3 (none : Option FieldType) 6 82 false nk_eVt 0 [(0, .inl v0), (1, .inl v1), (2, .inl v2)] [] h (f_X11_mustBeWithin  h v0 v1 v2) := by
  unfold f_X11_mustBeWithin
  refine nr_iload_n 0 dX11_mustBeWithin_0 rfl ?_
  refine nr_iload_n 1 dX11_mustBeWithin_1 rfl ?_
  refine nr_icmp_lt (tgt := 10) dX11_mustBeWithin_2 (by decide) (fun _ => ?_) (fun _ => ?_)
  · exact nk_locals [] rfl (s_X11_mustBeWithin_c10 hl0  h)
  · refine nr_iload_n 0 dX11_mustBeWithin_5 rfl ?_
    refine nr_iload_n 2 dX11_mustBeWithin_6 rfl ?_
    refine nr_icmp_le (tgt := 21) dX11_mustBeWithin_7 (by decide) (fun _ => ?_) (fun _ => ?_)
    · exact nr_vret rfl rfl dX11_mustBeWithin_21
    · exact nk_locals [] rfl (s_X11_mustBeWithin_c10 hl0  h)
theorem c_X11_mustBeWithin {G : nk_G} {l : Launch} (hl0 : l.flags = flags0) (h : nk_H) (v0 : Int32) (v1 : Int32) (v2 : Int32) : nk_Con G l yX11_mustBeWithin cX11_mustBeWithin 3 (none : Option FieldType) 6 82 nk_eVt [.inl v0, .inl v1, .inl v2] h (f_X11_mustBeWithin h v0 v1 v2) :=
  nk_con (ini := false) (by decide) hl0 (Nat.le_of_ble_eq_true rfl) (by decide) (s_X11_mustBeWithin hl0 h v0 v1 v2)
set_option maxHeartbeats 4000000 in
theorem s_X11_pass_c33 {G : nk_G} {l : Launch} (hl0 : l.flags = flags0) {r33 : nk_H → Nat → Int32 → Int32 → Int32 → Option (nk_H × (Int32 ⊕ String))} (hr33 : ∀ (h : nk_H) (t0 : Nat) (v1 : Int32) (v2 : Int32) (v3 : Int32), nk_Sim G l RX11 cX11_pass 4 (some FieldType.int) 7 104 false nk_eIt 33 [(0, .inr (some t0)), (1, .inl v1), (2, .inl v2), (3, .inl v3)] [] h (r33 h t0 v1 v2 v3)) (h : nk_H) (t0 : Nat) (v1 : Int32) (v2 : Int32) (v3 : Int32)  : nk_Sim G l RX11 cX11_pass 4 (some FieldType.int) 7 104 false nk_eIt 33 [(0, .inr (some t0)), (1, .inl v1), (2, .inl v2), (3, .inl v3)] [] h (f_X11_pass_c33  r33 h t0 v1 v2 v3 ) := by
  unfold f_X11_pass_c33
  refine nr_iload_n 3 dX11_pass_33 rfl ?_
  refine nr_iload_n 1 dX11_pass_34 rfl ?_
  refine nr_icmp_ge (tgt := 83) dX11_pass_35 (by decide) (fun _ => ?_) (fun _ => ?_)
  · refine nr_iload_n 2 dX11_pass_83 rfl ?_
    exact nr_iret rfl rfl dX11_pass_84
  · refine nr_aload_n 0 dX11_pass_38 rfl ?_
    refine nr_dup dX11_pass_39 ?_
    refine nr_getI [18] 5 dX11_pass_40 fk_RX11_42 (fun x1 => ?_)
    refine nr_iconst (v := 1) dX11_pass_43 (by decide) ?_
    refine nr_iadd dX11_pass_44 ?_
    refine nr_putI [18] 5 dX11_pass_45 fk_RX11_42 fw_RX11_42_n (fun h2 => ?_)
    refine nr_aload_n 0 dX11_pass_48 rfl ?_
    refine nr_getP [18] 0 dX11_pass_49 fk_RX11_10 (fun x3 => ?_)
    refine nr_aload_n 0 dX11_pass_52 rfl ?_
    refine nr_getI [18] 5 dX11_pass_53 fk_RX11_42 (fun x4 => ?_)
    refine nr_rcv (ks := [14]) (pre := [.inl x4]) (fun a5 hm => ?_)
    refine nr_doV (st := []) (nk_callV (q := (RX6, TX6, 2)) (ci := 7) (c_X6_keep (G := G) hl0 h2 a5 x4) dX11_pass_56 (List.mem_singleton.mp hm) rfl rfl my_X6_keep im_X6_keep se_RX6_X6_keep ml_RX11_92 rfl rfl (Nat.le_of_ble_eq_true rfl) (by decide) (by decide)) (fun h6 x7 => ?_)
    refine nr_iload_n 2 dX11_pass_59 rfl ?_
    refine nr_aload_n 0 dX11_pass_60 rfl ?_
    refine nr_getP [18] 1 dX11_pass_61 fk_RX11_19 (fun x8 => ?_)
    refine nr_aload_n 0 dX11_pass_64 rfl ?_
    refine nr_getP [18] 0 dX11_pass_65 fk_RX11_10 (fun x9 => ?_)
    refine nr_aload_n 0 dX11_pass_68 rfl ?_
    refine nr_getI [18] 5 dX11_pass_69 fk_RX11_42 (fun x10 => ?_)
    refine nr_rcv (ks := [15]) (pre := [.inl x10, .inr x9]) (fun a11 hm => ?_)
    refine nr_doI (st := [.inl v2]) (nk_callV (q := (RX7, TX7, 2)) (ci := 8) (c_X7_spread (G := G) hl0 h6 a11 x9 x10) dX11_pass_72 (List.mem_singleton.mp hm) rfl rfl my_X7_spread im_X7_spread se_RX7_X7_spread ml_RX11_95 rfl rfl (Nat.le_of_ble_eq_true rfl) (by decide) (by decide)) (fun h12 x13 => ?_)
    refine nr_iadd dX11_pass_75 ?_
    refine nr_istore_n (lv2 := [(2, .inl (v2 + x13)), (0, .inr (some t0)), (1, .inl v1), (3, .inl v3)]) dX11_pass_76 (by decide) rfl ?_
    refine nr_iinc (lv2 := [(3, .inl (v3 + 1)), (2, .inl (v2 + x13)), (0, .inr (some t0)), (1, .inl v1)]) 3 (v3 + 1) dX11_pass_77 rfl (by rfl) (by decide) rfl ?_
    refine nr_goto (tgt := 33) dX11_pass_80 (by decide) ?_
    exact nk_locals [2, 3, 1, 0] rfl (hr33 h12 t0 v1 (v2 + x13) (v3 + 1))
theorem s_X11_pass_b33 {G : nk_G} {l : Launch} (hl0 : l.flags = flags0)   : ∀ (n : Nat) (h : nk_H) (t0 : Nat) (v1 : Int32) (v2 : Int32) (v3 : Int32), nk_Sim G l RX11 cX11_pass 4 (some FieldType.int) 7 104 false nk_eIt 33 [(0, .inr (some t0)), (1, .inl v1), (2, .inl v2), (3, .inl v3)] [] h (f_X11_pass_b33   n h t0 v1 v2 v3)
  | 0, _, _, _, _, _ => nk_none
  | n + 1, h, t0, v1, v2, v3 => s_X11_pass_c33 hl0 (s_X11_pass_b33 hl0  n) h t0 v1 v2 v3
set_option maxHeartbeats 4000000 in
theorem s_X11_pass {G : nk_G} {l : Launch} (hl0 : l.flags = flags0) (h : nk_H) (t0 : Nat) (v1 : Int32) : nk_Sim G l RX11 cX11_pass 4 (some FieldType.int) 7 104 false nk_eIt 0 [(0, .inr (some t0)), (1, .inl v1)] [] h (f_X11_pass  h t0 v1) := by
  unfold f_X11_pass
  refine nr_iload_n 1 dX11_pass_0 rfl ?_
  refine nr_iconst (v := 1) dX11_pass_1 (by decide) ?_
  refine nr_bipush (v := 50) dX11_pass_2 (by decide) ?_
  refine nr_dtV (st := []) (nk_callS (c_X11_mustBeWithin (G := G) hl0 h v1 1 50) dX11_pass_4 my_X11_mustBeWithin st_X11_mustBeWithin ml_RX11_86 rfl rfl (Nat.le_of_ble_eq_true rfl) (by decide) (by decide)) (fun _ => rfl) (fun h14 x15 => ?_)
  refine nr_aload_n 0 dX11_pass_7 rfl ?_
  refine nr_getI [18] 5 dX11_pass_8 fk_RX11_42 (fun x16 => ?_)
  refine nr_iload_n 1 dX11_pass_11 rfl ?_
  refine nr_iadd dX11_pass_12 ?_
  refine nr_sipush (v := 400) dX11_pass_13 (by decide) ?_
  refine nr_icmp_le (tgt := 29) dX11_pass_16 (by decide) (fun _ => ?_) (fun _ => ?_)
  · refine nr_iconst (v := 0) dX11_pass_29 (by decide) ?_
    refine nr_istore_n (lv2 := [(2, .inl 0), (0, .inr (some t0)), (1, .inl v1)]) dX11_pass_30 (by decide) rfl ?_
    refine nr_iconst (v := 0) dX11_pass_31 (by decide) ?_
    refine nr_istore_n (lv2 := [(3, .inl 0), (2, .inl 0), (0, .inr (some t0)), (1, .inl v1)]) dX11_pass_32 (by decide) rfl ?_
    exact nk_locals [2, 3, 1, 0] rfl (s_X11_pass_b33 hl0  4096 h14 t0 v1 0 0)
  · exact nr_throw (text := "the hour would be above 400") rfl (by decide +kernel) cl_RX11_70 in_java_lang_IllegalStateException (by decide +kernel) ta_RX11_74 tg_RX11_70_74 dX11_pass_19 dX11_pass_22 dX11_pass_23 dX11_pass_25 dX11_pass_28 (by decide) (Nat.le_of_ble_eq_true rfl)
theorem c_X11_pass {G : nk_G} {l : Launch} (hl0 : l.flags = flags0) (h : nk_H) (t0 : Nat) (v1 : Int32) : nk_Con G l yX11_pass cX11_pass 4 (some FieldType.int) 7 104 nk_eIt [.inr (some t0), .inl v1] h (f_X11_pass h t0 v1) :=
  nk_con (ini := false) (by decide) hl0 (Nat.le_of_ble_eq_true rfl) (by decide) (s_X11_pass hl0 h t0 v1)
set_option maxHeartbeats 4000000 in
theorem s_X11_read {G : nk_G} {l : Launch} (hl0 : l.flags = flags0) (h : nk_H) (t0 : Nat) (v1 : Int32) : nk_Sim G l RX11 cX11_read 2 (some FieldType.int) 7 111 false nk_eIt 0 [(0, .inr (some t0)), (1, .inl v1)] [] h (f_X11_read  h t0 v1) := by
  unfold f_X11_read
  refine nr_iload_n 1 dX11_read_0 rfl ?_
  refine nr_dtV (st := []) (nk_callS (c_X11_mustBeKiosk (G := G) hl0 h v1) dX11_read_1 my_X11_mustBeKiosk st_X11_mustBeKiosk ml_RX11_99 rfl rfl (Nat.le_of_ble_eq_true rfl) (by decide) (by decide)) (fun _ => rfl) (fun h1 x2 => ?_)
  refine nr_aload_n 0 dX11_read_4 rfl ?_
  refine nr_getP [18] 1 dX11_read_5 fk_RX11_19 (fun x3 => ?_)
  refine nr_iload_n 1 dX11_read_8 rfl ?_
  refine nr_rcv (ks := [15]) (pre := [.inl v1]) (fun a4 hm => ?_)
  refine nr_doI (st := []) (nk_callV (q := (RX7, TX7, 2)) (ci := 8) (c_X7_readMail (G := G) hl0 h1 a4 v1) dX11_read_9 (List.mem_singleton.mp hm) rfl rfl my_X7_readMail im_X7_readMail se_RX7_X7_readMail ml_RX11_102 rfl rfl (Nat.le_of_ble_eq_true rfl) (by decide) (by decide)) (fun h5 x6 => ?_)
  exact nr_iret rfl rfl dX11_read_12
theorem c_X11_read {G : nk_G} {l : Launch} (hl0 : l.flags = flags0) (h : nk_H) (t0 : Nat) (v1 : Int32) : nk_Con G l yX11_read cX11_read 2 (some FieldType.int) 7 111 nk_eIt [.inr (some t0), .inl v1] h (f_X11_read h t0 v1) :=
  nk_con (ini := false) (by decide) hl0 (Nat.le_of_ble_eq_true rfl) (by decide) (s_X11_read hl0 h t0 v1)
set_option maxHeartbeats 4000000 in
theorem s_X11_draft {G : nk_G} {l : Launch} (hl0 : l.flags = flags0) (h : nk_H) (t0 : Nat) (v1 : Int32) (v2 : Int32) (v3 : Int32) (v4 : Int32) (v5 : Int32) : nk_Sim G l RX11 cX11_draft 6 (none : Option FieldType) 7 104 false nk_eVt 0 [(0, .inr (some t0)), (1, .inl v1), (2, .inl v2), (3, .inl v3), (4, .inl v4), (5, .inl v5)] [] h (f_X11_draft  h t0 v1 v2 v3 v4 v5) := by
  unfold f_X11_draft
  refine nr_iload_n 1 dX11_draft_0 rfl ?_
  refine nr_iconst (v := 1) dX11_draft_1 (by decide) ?_
  refine nr_bipush (v := 63) dX11_draft_2 (by decide) ?_
  refine nr_dtV (st := []) (nk_callS (c_X11_mustBeWithin (G := G) hl0 h v1 1 63) dX11_draft_4 my_X11_mustBeWithin st_X11_mustBeWithin ml_RX11_86 rfl rfl (Nat.le_of_ble_eq_true rfl) (by decide) (by decide)) (fun _ => rfl) (fun h1 x2 => ?_)
  refine nr_iload_n 2 dX11_draft_7 rfl ?_
  refine nr_iconst (v := 1) dX11_draft_8 (by decide) ?_
  refine nr_sipush (v := 10000) dX11_draft_9 (by decide) ?_
  refine nr_dtV (st := []) (nk_callS (c_X11_mustBeWithin (G := G) hl0 h1 v2 1 10000) dX11_draft_12 my_X11_mustBeWithin st_X11_mustBeWithin ml_RX11_86 rfl rfl (Nat.le_of_ble_eq_true rfl) (by decide) (by decide)) (fun _ => rfl) (fun h3 x4 => ?_)
  refine nr_iload_n 3 dX11_draft_15 rfl ?_
  refine nr_iconst (v := 1) dX11_draft_16 (by decide) ?_
  refine nr_ldc (v := 100000) dX11_draft_17 kc_RX11_48 ?_
  refine nr_dtV (st := []) (nk_callS (c_X11_mustBeWithin (G := G) hl0 h3 v3 1 100000) dX11_draft_19 my_X11_mustBeWithin st_X11_mustBeWithin ml_RX11_86 rfl rfl (Nat.le_of_ble_eq_true rfl) (by decide) (by decide)) (fun _ => rfl) (fun h5 x6 => ?_)
  refine nr_iload 4 dX11_draft_22 rfl ?_
  refine nr_iconst (v := 0) dX11_draft_24 (by decide) ?_
  refine nr_sipush (v := 400) dX11_draft_25 (by decide) ?_
  refine nr_dtV (st := []) (nk_callS (c_X11_mustBeWithin (G := G) hl0 h5 v4 0 400) dX11_draft_28 my_X11_mustBeWithin st_X11_mustBeWithin ml_RX11_86 rfl rfl (Nat.le_of_ble_eq_true rfl) (by decide) (by decide)) (fun _ => rfl) (fun h7 x8 => ?_)
  refine nr_iload 5 dX11_draft_31 rfl ?_
  refine nr_iconst (v := 0) dX11_draft_33 (by decide) ?_
  refine nr_iconst (v := 3) dX11_draft_34 (by decide) ?_
  refine nr_dtV (st := []) (nk_callS (c_X11_mustBeWithin (G := G) hl0 h7 v5 0 3) dX11_draft_35 my_X11_mustBeWithin st_X11_mustBeWithin ml_RX11_86 rfl rfl (Nat.le_of_ble_eq_true rfl) (by decide) (by decide)) (fun _ => rfl) (fun h9 x10 => ?_)
  refine nr_aload_n 0 dX11_draft_38 rfl ?_
  refine nr_newb (q := (RX5, TX5, 5)) 6 rfl dX11_draft_39 cl_RX11_46 ins_RX5 in_RX5 rfl (fun h11 => ?_)
  refine nr_dup dX11_draft_42 ?_
  refine nr_iload_n 1 dX11_draft_43 rfl ?_
  refine nr_iload_n 2 dX11_draft_44 rfl ?_
  refine nr_iload_n 3 dX11_draft_45 rfl ?_
  refine nr_iload 4 dX11_draft_46 rfl ?_
  refine nr_iload 5 dX11_draft_48 rfl ?_
  refine nr_doV (st := [.inr (some (nk_N h9)), .inr (some t0)]) (nk_callI (c_X5_init (G := G) hl0 h11 (nk_N h9) v1 v2 v3 v4 v5) dX11_draft_50 my_X5_init rfl im_X5_init ml_RX11_49 rfl rfl (Nat.le_of_ble_eq_true rfl) (by decide) (by decide)) (fun h12 x13 => ?_)
  refine nr_putP [18] 6 dX11_draft_53 fk_RX11_52 fw_RX11_52_n (fun h14 => ?_)
  exact nr_vret rfl rfl dX11_draft_56
theorem c_X11_draft {G : nk_G} {l : Launch} (hl0 : l.flags = flags0) (h : nk_H) (t0 : Nat) (v1 : Int32) (v2 : Int32) (v3 : Int32) (v4 : Int32) (v5 : Int32) : nk_Con G l yX11_draft cX11_draft 6 (none : Option FieldType) 7 104 nk_eVt [.inr (some t0), .inl v1, .inl v2, .inl v3, .inl v4, .inl v5] h (f_X11_draft h t0 v1 v2 v3 v4 v5) :=
  nk_con (ini := false) (by decide) hl0 (Nat.le_of_ble_eq_true rfl) (by decide) (s_X11_draft hl0 h t0 v1 v2 v3 v4 v5)
set_option maxHeartbeats 4000000 in
theorem s_X11_mustBePerson_c10 {G : nk_G} {l : Launch} (hl0 : l.flags = flags0)   (h : nk_H)   : nk_Sim G l RX11 cX11_mustBePerson 1 (none : Option FieldType) 6 82 false nk_eVt 10 [] [] h (f_X11_mustBePerson_c10   h  ) := by
  unfold f_X11_mustBePerson_c10
  exact nr_throwW (text := "no such person") rfl (by decide +kernel) cl_RX11_361 in_java_lang_IndexOutOfBoundsException (by decide +kernel) ta_RX11_365 tg_RX11_361_365 dX11_mustBePerson_10 dX11_mustBePerson_13 dX11_mustBePerson_14 dX11_mustBePerson_17 dX11_mustBePerson_20 (by decide) (Nat.le_of_ble_eq_true rfl)
set_option maxHeartbeats 4000000 in
theorem s_X11_mustBePerson {G : nk_G} {l : Launch} (hl0 : l.flags = flags0) (h : nk_H) (v0 : Int32) : nk_Sim G l RX11 cX11_mustBePerson 1 (none : Option FieldType) 6 82 false nk_eVt 0 [(0, .inl v0)] [] h (f_X11_mustBePerson  h v0) := by
  unfold f_X11_mustBePerson
  refine nr_iload_n 0 dX11_mustBePerson_0 rfl ?_
  refine nr_if_lt (tgt := 10) dX11_mustBePerson_1 (by decide) (fun _ => ?_) (fun _ => ?_)
  · exact nk_locals [] rfl (s_X11_mustBePerson_c10 hl0  h)
  · refine nr_iload_n 0 dX11_mustBePerson_4 rfl ?_
    refine nr_bipush (v := 10) dX11_mustBePerson_5 (by decide) ?_
    refine nr_icmp_lt (tgt := 21) dX11_mustBePerson_7 (by decide) (fun _ => ?_) (fun _ => ?_)
    · exact nr_vret rfl rfl dX11_mustBePerson_21
    · exact nk_locals [] rfl (s_X11_mustBePerson_c10 hl0  h)
theorem c_X11_mustBePerson {G : nk_G} {l : Launch} (hl0 : l.flags = flags0) (h : nk_H) (v0 : Int32) : nk_Con G l yX11_mustBePerson cX11_mustBePerson 1 (none : Option FieldType) 6 82 nk_eVt [.inl v0] h (f_X11_mustBePerson h v0) :=
  nk_con (ini := false) (by decide) hl0 (Nat.le_of_ble_eq_true rfl) (by decide) (s_X11_mustBePerson hl0 h v0)
set_option maxHeartbeats 4000000 in
theorem s_X11_mustBeOtherPerson {G : nk_G} {l : Launch} (hl0 : l.flags = flags0) (h : nk_H) (v0 : Int32) (v1 : Int32) : nk_Sim G l RX11 cX11_mustBeOtherPerson 2 (none : Option FieldType) 6 82 false nk_eVt 0 [(0, .inl v0), (1, .inl v1)] [] h (f_X11_mustBeOtherPerson  h v0 v1) := by
  unfold f_X11_mustBeOtherPerson
  refine nr_iload_n 0 dX11_mustBeOtherPerson_0 rfl ?_
  refine nr_iload_n 1 dX11_mustBeOtherPerson_1 rfl ?_
  refine nr_icmp_ne (tgt := 16) dX11_mustBeOtherPerson_2 (by decide) (fun _ => ?_) (fun _ => ?_)
  · exact nr_throwW (text := "giver and holder are the same") rfl (by decide +kernel) cl_RX11_134 in_java_lang_IllegalArgumentException (by decide +kernel) ta_RX11_138 tg_RX11_134_138 dX11_mustBeOtherPerson_5 dX11_mustBeOtherPerson_8 dX11_mustBeOtherPerson_9 dX11_mustBeOtherPerson_12 dX11_mustBeOtherPerson_15 (by decide) (Nat.le_of_ble_eq_true rfl)
  · exact nr_vret rfl rfl dX11_mustBeOtherPerson_16
theorem c_X11_mustBeOtherPerson {G : nk_G} {l : Launch} (hl0 : l.flags = flags0) (h : nk_H) (v0 : Int32) (v1 : Int32) : nk_Con G l yX11_mustBeOtherPerson cX11_mustBeOtherPerson 2 (none : Option FieldType) 6 82 nk_eVt [.inl v0, .inl v1] h (f_X11_mustBeOtherPerson h v0 v1) :=
  nk_con (ini := false) (by decide) hl0 (Nat.le_of_ble_eq_true rfl) (by decide) (s_X11_mustBeOtherPerson hl0 h v0 v1)
set_option maxHeartbeats 4000000 in
theorem s_X11_mustHaveRoomForNews {G : nk_G} {l : Launch} (hl0 : l.flags = flags0) (h : nk_H) (t0 : Nat) : nk_Sim G l RX11 cX11_mustHaveRoomForNews 1 (none : Option FieldType) 6 82 false nk_eVt 0 [(0, .inr (some t0))] [] h (f_X11_mustHaveRoomForNews  h t0) := by
  unfold f_X11_mustHaveRoomForNews
  refine nr_aload_n 0 dX11_mustHaveRoomForNews_0 rfl ?_
  refine nr_getP [18] 1 dX11_mustHaveRoomForNews_1 fk_RX11_19 (fun x1 => ?_)
  refine nr_rcv (ks := [15]) (pre := []) (fun a2 hm => ?_)
  refine nr_doI (st := []) (nk_callV (q := (RX7, TX7, 2)) (ci := 8) (c_X7_count (G := G) hl0 h a2) dX11_mustHaveRoomForNews_4 (List.mem_singleton.mp hm) rfl rfl my_X7_count im_X7_count se_RX7_X7_count ml_RX11_260 rfl rfl (Nat.le_of_ble_eq_true rfl) (by decide) (by decide)) (fun h3 x4 => ?_)
  refine nr_sipush (v := 160) dX11_mustHaveRoomForNews_7 (by decide) ?_
  refine nr_icmp_lt (tgt := 24) dX11_mustHaveRoomForNews_10 (by decide) (fun _ => ?_) (fun _ => ?_)
  · exact nr_vret rfl rfl dX11_mustHaveRoomForNews_24
  · exact nr_throwW (text := "there are 160 pieces of news") rfl (by decide +kernel) cl_RX11_70 in_java_lang_IllegalStateException (by decide +kernel) ta_RX11_74 tg_RX11_70_74 dX11_mustHaveRoomForNews_13 dX11_mustHaveRoomForNews_16 dX11_mustHaveRoomForNews_17 dX11_mustHaveRoomForNews_20 dX11_mustHaveRoomForNews_23 (by decide) (Nat.le_of_ble_eq_true rfl)
theorem c_X11_mustHaveRoomForNews {G : nk_G} {l : Launch} (hl0 : l.flags = flags0) (h : nk_H) (t0 : Nat) : nk_Con G l yX11_mustHaveRoomForNews cX11_mustHaveRoomForNews 1 (none : Option FieldType) 6 82 nk_eVt [.inr (some t0)] h (f_X11_mustHaveRoomForNews h t0) :=
  nk_con (ini := false) (by decide) hl0 (Nat.le_of_ble_eq_true rfl) (by decide) (s_X11_mustHaveRoomForNews hl0 h t0)
set_option maxHeartbeats 4000000 in
theorem s_X11_mustHaveRoomForPower {G : nk_G} {l : Launch} (hl0 : l.flags = flags0) (h : nk_H) (t0 : Nat) : nk_Sim G l RX11 cX11_mustHaveRoomForPower 1 (none : Option FieldType) 7 102 false nk_eVt 0 [(0, .inr (some t0))] [] h (f_X11_mustHaveRoomForPower  h t0) := by
  unfold f_X11_mustHaveRoomForPower
  refine nr_aload_n 0 dX11_mustHaveRoomForPower_0 rfl ?_
  refine nr_getP [18] 2 dX11_mustHaveRoomForPower_1 fk_RX11_26 (fun x1 => ?_)
  refine nr_rcv (ks := [7]) (pre := []) (fun a2 hm => ?_)
  refine nr_doI (st := []) (nk_callV (q := (RJx4a65c, TJx4a65c, 3)) (ci := 0) (c_Jx4a65c_size_8abf5 (G := G) hl0 h a2) dX11_mustHaveRoomForPower_4 (List.mem_singleton.mp hm) rfl rfl my_Jx4a65c_size_8abf5 im_Jx4a65c_size_8abf5 se_RJx4a65c_Jx4a65c_size_8abf5 ml_RX11_227 rfl rfl (Nat.le_of_ble_eq_true rfl) (by decide) (by decide)) (fun h3 x4 => ?_)
  refine nr_bipush (v := 40) dX11_mustHaveRoomForPower_7 (by decide) ?_
  refine nr_icmp_lt (tgt := 23) dX11_mustHaveRoomForPower_9 (by decide) (fun _ => ?_) (fun _ => ?_)
  · refine nr_aload_n 0 dX11_mustHaveRoomForPower_23 rfl ?_
    refine nr_rcv (ks := [18]) (pre := []) (fun a5 hm => ?_)
    refine nr_dtV (st := []) (nk_callV (q := (RX11, TX11, 9)) (ci := 11) (c_X11_mustHaveRoomForNews (G := G) hl0 h3 a5) dX11_mustHaveRoomForPower_24 (List.mem_singleton.mp hm) rfl rfl my_X11_mustHaveRoomForNews im_X11_mustHaveRoomForNews se_RX11_X11_mustHaveRoomForNews ml_RX11_151 rfl rfl (Nat.le_of_ble_eq_true rfl) (by decide) (by decide)) (fun _ => rfl) (fun h6 x7 => ?_)
    exact nr_vret rfl rfl dX11_mustHaveRoomForPower_27
  · exact nr_throwW (text := "there are 40 powers") rfl (by decide +kernel) cl_RX11_70 in_java_lang_IllegalStateException (by decide +kernel) ta_RX11_74 tg_RX11_70_74 dX11_mustHaveRoomForPower_12 dX11_mustHaveRoomForPower_15 dX11_mustHaveRoomForPower_16 dX11_mustHaveRoomForPower_19 dX11_mustHaveRoomForPower_22 (by decide) (Nat.le_of_ble_eq_true rfl)
theorem c_X11_mustHaveRoomForPower {G : nk_G} {l : Launch} (hl0 : l.flags = flags0) (h : nk_H) (t0 : Nat) : nk_Con G l yX11_mustHaveRoomForPower cX11_mustHaveRoomForPower 1 (none : Option FieldType) 7 102 nk_eVt [.inr (some t0)] h (f_X11_mustHaveRoomForPower h t0) :=
  nk_con (ini := false) (by decide) hl0 (Nat.le_of_ble_eq_true rfl) (by decide) (s_X11_mustHaveRoomForPower hl0 h t0)
set_option maxHeartbeats 4000000 in
theorem s_X11_makePower {G : nk_G} {l : Launch} (hl0 : l.flags = flags0) (h : nk_H) (t0 : Nat) (v1 : Int32) (v2 : Option Nat) (v3 : Int32) (v4 : Int32) : nk_Sim G l RX11 cX11_makePower 6 (some FieldType.int) 8 186 false nk_eI 0 [(0, .inr (some t0)), (1, .inl v1), (2, .inr v2), (3, .inl v3), (4, .inl v4)] [] h (f_X11_makePower  h t0 v1 v2 v3 v4) := by
  unfold f_X11_makePower
  refine nr_newb (q := (RX9, TX9, 15)) 9 rfl dX11_makePower_0 cl_RX11_125 ins_RX9 in_RX9 rfl (fun h1 => ?_)
  refine nr_dup dX11_makePower_3 ?_
  refine nr_aload_n 0 dX11_makePower_4 rfl ?_
  refine nr_getP [18] 2 dX11_makePower_5 fk_RX11_26 (fun x2 => ?_)
  refine nr_rcv (ks := [7]) (pre := []) (fun a3 hm => ?_)
  refine nr_doI (st := [.inr (some (nk_N h)), .inr (some (nk_N h))]) (nk_callV (q := (RJx4a65c, TJx4a65c, 3)) (ci := 0) (c_Jx4a65c_size_8abf5 (G := G) hl0 h1 a3) dX11_makePower_8 (List.mem_singleton.mp hm) rfl rfl my_Jx4a65c_size_8abf5 im_Jx4a65c_size_8abf5 se_RJx4a65c_Jx4a65c_size_8abf5 ml_RX11_227 rfl rfl (Nat.le_of_ble_eq_true rfl) (by decide) (by decide)) (fun h4 x5 => ?_)
  refine nr_aload_n 2 dX11_makePower_11 rfl ?_
  refine nr_iload_n 3 dX11_makePower_12 rfl ?_
  refine nr_iload 4 dX11_makePower_13 rfl ?_
  refine nr_aload_n 0 dX11_makePower_15 rfl ?_
  refine nr_getP [18] 6 dX11_makePower_16 fk_RX11_52 (fun x6 => ?_)
  refine nr_aload_n 0 dX11_makePower_19 rfl ?_
  refine nr_getI [18] 5 dX11_makePower_20 fk_RX11_42 (fun x7 => ?_)
  refine nr_doV (st := [.inr (some (nk_N h))]) (nk_callI (c_X9_init (G := G) hl0 h4 (nk_N h) x5 v2 v3 v4 x6 x7) dX11_makePower_23 my_X9_init rfl im_X9_init ml_RX11_339 rfl rfl (Nat.le_of_ble_eq_true rfl) (by decide) (by decide)) (fun h8 x9 => ?_)
  refine nr_astore (lv2 := [(5, .inr (some (nk_N h))), (0, .inr (some t0)), (1, .inl v1), (2, .inr v2), (3, .inl v3), (4, .inl v4)]) dX11_makePower_26 (by decide) rfl ?_
  refine nr_aload_n 1 dX11_makePower_28 rfl ?_
  refine nr_getP [18] 2 dX11_makePower_29 fk_RX11_26 (fun x10 => ?_)
  refine nr_aload 0 dX11_makePower_32 rfl ?_
  refine nr_rcv (ks := [7]) (pre := [.inr (some (nk_N h))]) (fun a11 hm => ?_)
  refine nr_doI (st := []) (nk_callV (q := (RJx4a65c, TJx4a65c, 3)) (ci := 0) (c_Jx4a65c_add_9ea2d (G := G) hl0 h8 a11 (some (nk_N h))) dX11_makePower_34 (List.mem_singleton.mp hm) rfl rfl my_Jx4a65c_add_9ea2d im_Jx4a65c_add_9ea2d se_RJx4a65c_Jx4a65c_add_9ea2d ml_RX11_242 rfl rfl (Nat.le_of_ble_eq_true rfl) (by decide) (by decide)) (fun h12 x13 => ?_)
  refine nr_pop dX11_makePower_37 ?_
  refine nr_aload_n 1 dX11_makePower_38 rfl ?_
  refine nr_getP [18] 1 dX11_makePower_39 fk_RX11_19 (fun x14 => ?_)
  refine nr_aload 0 dX11_makePower_42 rfl ?_
  refine nr_iload_n 2 dX11_makePower_44 rfl ?_
  refine nr_aload_n 1 dX11_makePower_45 rfl ?_
  refine nr_getI [18] 5 dX11_makePower_46 fk_RX11_42 (fun x15 => ?_)
  refine nr_rcv (ks := [15]) (pre := [.inl x15, .inl v1, .inr (some (nk_N h))]) (fun a16 hm => ?_)
  refine nr_doI (st := []) (nk_callV (q := (RX7, TX7, 2)) (ci := 8) (c_X7_publish (G := G) hl0 h12 a16 (some (nk_N h)) v1 x15) dX11_makePower_49 (List.mem_singleton.mp hm) rfl rfl my_X7_publish im_X7_publish se_RX7_X7_publish ml_RX11_171 rfl rfl (Nat.le_of_ble_eq_true rfl) (by decide) (by decide)) (fun h17 x18 => ?_)
  refine nr_pop dX11_makePower_52 ?_
  refine nr_aload 0 dX11_makePower_53 rfl ?_
  refine nr_getI [16] 6 dX11_makePower_55 fk_RX11_300 (fun x19 => ?_)
  exact nr_iret rfl rfl dX11_makePower_58
theorem c_X11_makePower {G : nk_G} {l : Launch} (hl0 : l.flags = flags0) (h : nk_H) (t0 : Nat) (v1 : Int32) (v2 : Option Nat) (v3 : Int32) (v4 : Int32) : nk_Con G l yX11_makePower cX11_makePower 6 (some FieldType.int) 8 186 nk_eI [.inr (some t0), .inl v1, .inr v2, .inl v3, .inl v4] h (f_X11_makePower h t0 v1 v2 v3 v4) :=
  nk_con (ini := false) (by decide) hl0 (Nat.le_of_ble_eq_true rfl) (by decide) (s_X11_makePower hl0 h t0 v1 v2 v3 v4)
set_option maxHeartbeats 4000000 in
theorem s_X11_grant {G : nk_G} {l : Launch} (hl0 : l.flags = flags0) (h : nk_H) (t0 : Nat) (v1 : Int32) (v2 : Int32) (v3 : Int32) : nk_Sim G l RX11 cX11_grant 4 (some FieldType.int) 9 211 false nk_eIt 0 [(0, .inr (some t0)), (1, .inl v1), (2, .inl v2), (3, .inl v3)] [] h (f_X11_grant  h t0 v1 v2 v3) := by
  unfold f_X11_grant
  refine nr_iload_n 1 dX11_grant_0 rfl ?_
  refine nr_dtV (st := []) (nk_callS (c_X11_mustBeKiosk (G := G) hl0 h v1) dX11_grant_1 my_X11_mustBeKiosk st_X11_mustBeKiosk ml_RX11_99 rfl rfl (Nat.le_of_ble_eq_true rfl) (by decide) (by decide)) (fun _ => rfl) (fun h1 x2 => ?_)
  refine nr_iload_n 2 dX11_grant_4 rfl ?_
  refine nr_dtV (st := []) (nk_callS (c_X11_mustBePerson (G := G) hl0 h1 v2) dX11_grant_5 my_X11_mustBePerson st_X11_mustBePerson ml_RX11_105 rfl rfl (Nat.le_of_ble_eq_true rfl) (by decide) (by decide)) (fun _ => rfl) (fun h3 x4 => ?_)
  refine nr_iload_n 3 dX11_grant_8 rfl ?_
  refine nr_dtV (st := []) (nk_callS (c_X11_mustBePerson (G := G) hl0 h3 v3) dX11_grant_9 my_X11_mustBePerson st_X11_mustBePerson ml_RX11_105 rfl rfl (Nat.le_of_ble_eq_true rfl) (by decide) (by decide)) (fun _ => rfl) (fun h5 x6 => ?_)
  refine nr_iload_n 2 dX11_grant_12 rfl ?_
  refine nr_iload_n 3 dX11_grant_13 rfl ?_
  refine nr_dtV (st := []) (nk_callS (c_X11_mustBeOtherPerson (G := G) hl0 h5 v2 v3) dX11_grant_14 my_X11_mustBeOtherPerson st_X11_mustBeOtherPerson ml_RX11_108 rfl rfl (Nat.le_of_ble_eq_true rfl) (by decide) (by decide)) (fun _ => rfl) (fun h7 x8 => ?_)
  refine nr_aload_n 0 dX11_grant_17 rfl ?_
  refine nr_rcv (ks := [18]) (pre := []) (fun a9 hm => ?_)
  refine nr_dtV (st := []) (nk_callV (q := (RX11, TX11, 9)) (ci := 11) (c_X11_mustHaveRoomForPower (G := G) hl0 h7 a9) dX11_grant_18 (List.mem_singleton.mp hm) rfl rfl my_X11_mustHaveRoomForPower im_X11_mustHaveRoomForPower se_RX11_X11_mustHaveRoomForPower ml_RX11_111 rfl rfl (Nat.le_of_ble_eq_true rfl) (by decide) (by decide)) (fun _ => rfl) (fun h10 x11 => ?_)
  refine nr_aload_n 0 dX11_grant_21 rfl ?_
  refine nr_iload_n 1 dX11_grant_22 rfl ?_
  refine nr_null dX11_grant_23 ?_
  refine nr_iload_n 2 dX11_grant_24 rfl ?_
  refine nr_iload_n 3 dX11_grant_25 rfl ?_
  refine nr_rcv (ks := [18]) (pre := [.inl v3, .inl v2, .inr none, .inl v1]) (fun a12 hm => ?_)
  refine nr_doI (st := []) (nk_callV (q := (RX11, TX11, 9)) (ci := 11) (c_X11_makePower (G := G) hl0 h10 a12 v1 none v2 v3) dX11_grant_26 (List.mem_singleton.mp hm) rfl rfl my_X11_makePower im_X11_makePower se_RX11_X11_makePower ml_RX11_114 rfl rfl (Nat.le_of_ble_eq_true rfl) (by decide) (by decide)) (fun h13 x14 => ?_)
  exact nr_iret rfl rfl dX11_grant_29
theorem c_X11_grant {G : nk_G} {l : Launch} (hl0 : l.flags = flags0) (h : nk_H) (t0 : Nat) (v1 : Int32) (v2 : Int32) (v3 : Int32) : nk_Con G l yX11_grant cX11_grant 4 (some FieldType.int) 9 211 nk_eIt [.inr (some t0), .inl v1, .inl v2, .inl v3] h (f_X11_grant h t0 v1 v2 v3) :=
  nk_con (ini := false) (by decide) hl0 (Nat.le_of_ble_eq_true rfl) (by decide) (s_X11_grant hl0 h t0 v1 v2 v3)
set_option maxHeartbeats 4000000 in
theorem s_X11_mustBePower_c15 {G : nk_G} {l : Launch} (hl0 : l.flags = flags0)   (h : nk_H)   : nk_Sim G l RX11 cX11_mustBePower 2 (none : Option FieldType) 6 82 false nk_eVt 15 [] [] h (f_X11_mustBePower_c15   h  ) := by
  unfold f_X11_mustBePower_c15
  exact nr_throwW (text := "no such power") rfl (by decide +kernel) cl_RX11_361 in_java_lang_IndexOutOfBoundsException (by decide +kernel) ta_RX11_365 tg_RX11_361_365 dX11_mustBePower_15 dX11_mustBePower_18 dX11_mustBePower_19 dX11_mustBePower_22 dX11_mustBePower_25 (by decide) (Nat.le_of_ble_eq_true rfl)
set_option maxHeartbeats 4000000 in
theorem s_X11_mustBePower {G : nk_G} {l : Launch} (hl0 : l.flags = flags0) (h : nk_H) (t0 : Nat) (v1 : Int32) : nk_Sim G l RX11 cX11_mustBePower 2 (none : Option FieldType) 6 82 false nk_eVt 0 [(0, .inr (some t0)), (1, .inl v1)] [] h (f_X11_mustBePower  h t0 v1) := by
  unfold f_X11_mustBePower
  refine nr_iload_n 1 dX11_mustBePower_0 rfl ?_
  refine nr_if_lt (tgt := 15) dX11_mustBePower_1 (by decide) (fun _ => ?_) (fun _ => ?_)
  · exact nk_locals [] rfl (s_X11_mustBePower_c15 hl0  h)
  · refine nr_iload_n 1 dX11_mustBePower_4 rfl ?_
    refine nr_aload_n 0 dX11_mustBePower_5 rfl ?_
    refine nr_getP [18] 2 dX11_mustBePower_6 fk_RX11_26 (fun x1 => ?_)
    refine nr_rcv (ks := [7]) (pre := []) (fun a2 hm => ?_)
    refine nr_doI (st := [.inl v1]) (nk_callV (q := (RJx4a65c, TJx4a65c, 3)) (ci := 0) (c_Jx4a65c_size_8abf5 (G := G) hl0 h a2) dX11_mustBePower_9 (List.mem_singleton.mp hm) rfl rfl my_Jx4a65c_size_8abf5 im_Jx4a65c_size_8abf5 se_RJx4a65c_Jx4a65c_size_8abf5 ml_RX11_227 rfl rfl (Nat.le_of_ble_eq_true rfl) (by decide) (by decide)) (fun h3 x4 => ?_)
    refine nr_icmp_lt (tgt := 26) dX11_mustBePower_12 (by decide) (fun _ => ?_) (fun _ => ?_)
    · exact nr_vret rfl rfl dX11_mustBePower_26
    · exact nk_locals [] rfl (s_X11_mustBePower_c15 hl0  h3)
theorem c_X11_mustBePower {G : nk_G} {l : Launch} (hl0 : l.flags = flags0) (h : nk_H) (t0 : Nat) (v1 : Int32) : nk_Con G l yX11_mustBePower cX11_mustBePower 2 (none : Option FieldType) 6 82 nk_eVt [.inr (some t0), .inl v1] h (f_X11_mustBePower h t0 v1) :=
  nk_con (ini := false) (by decide) hl0 (Nat.le_of_ble_eq_true rfl) (by decide) (s_X11_mustBePower hl0 h t0 v1)
set_option maxHeartbeats 4000000 in
theorem s_X11_isGoodAt_c46 {G : nk_G} {l : Launch} (hl0 : l.flags = flags0)   (h : nk_H)  (s0 : Int32) : nk_Sim G l RX11 cX11_isGoodAt 3 (some FieldType.boolean) 5 108 false nk_eI 46 [] [.inl s0] h (f_X11_isGoodAt_c46   h  s0) := by
  unfold f_X11_isGoodAt_c46
  exact nr_zret rfl rfl dX11_isGoodAt_46
set_option maxHeartbeats 4000000 in
theorem s_X11_isGoodAt_c45 {G : nk_G} {l : Launch} (hl0 : l.flags = flags0)   (h : nk_H)   : nk_Sim G l RX11 cX11_isGoodAt 3 (some FieldType.boolean) 5 108 false nk_eI 45 [] [] h (f_X11_isGoodAt_c45   h  ) := by
  unfold f_X11_isGoodAt_c45
  refine nr_iconst (v := 0) dX11_isGoodAt_45 (by decide) ?_
  exact s_X11_isGoodAt_c46 hl0  h 0
set_option maxHeartbeats 4000000 in
theorem s_X11_isGoodAt {G : nk_G} {l : Launch} (hl0 : l.flags = flags0) (h : nk_H) (t0 : Nat) (v1 : Int32) (v2 : Option Nat) : nk_Sim G l RX11 cX11_isGoodAt 3 (some FieldType.boolean) 5 108 false nk_eI 0 [(0, .inr (some t0)), (1, .inl v1), (2, .inr v2)] [] h (f_X11_isGoodAt  h t0 v1 v2) := by
  unfold f_X11_isGoodAt
  refine nr_aload_n 0 dX11_isGoodAt_0 rfl ?_
  refine nr_getP [18] 1 dX11_isGoodAt_1 fk_RX11_19 (fun x1 => ?_)
  refine nr_iload_n 1 dX11_isGoodAt_4 rfl ?_
  refine nr_rcv (ks := [15]) (pre := [.inl v1]) (fun a2 hm => ?_)
  refine nr_doV (st := []) (nk_callV (q := (RX7, TX7, 2)) (ci := 8) (c_X7_lookAtRead (G := G) hl0 h a2 v1) dX11_isGoodAt_5 (List.mem_singleton.mp hm) rfl rfl my_X7_lookAtRead im_X7_lookAtRead se_RX7_X7_lookAtRead ml_RX11_154 rfl rfl (Nat.le_of_ble_eq_true rfl) (by decide) (by decide)) (fun h3 x4 => ?_)
  refine nr_aload_n 0 dX11_isGoodAt_8 rfl ?_
  refine nr_getP [18] 1 dX11_isGoodAt_9 fk_RX11_19 (fun x5 => ?_)
  refine nr_aload_n 2 dX11_isGoodAt_12 rfl ?_
  refine nr_rcv (ks := [15]) (pre := [.inr v2]) (fun a6 hm => ?_)
  refine nr_doI (st := []) (nk_callV (q := (RX7, TX7, 2)) (ci := 8) (c_X7_knows (G := G) hl0 h3 a6 v2) dX11_isGoodAt_13 (List.mem_singleton.mp hm) rfl rfl my_X7_knows im_X7_knows se_RX7_X7_knows ml_RX11_157 rfl rfl (Nat.le_of_ble_eq_true rfl) (by decide) (by decide)) (fun h7 x8 => ?_)
  refine nr_if_eq (tgt := 45) dX11_isGoodAt_16 (by decide) (fun _ => ?_) (fun _ => ?_)
  · exact nk_locals [] rfl (s_X11_isGoodAt_c45 hl0  h7)
  · refine nr_aload_n 0 dX11_isGoodAt_19 rfl ?_
    refine nr_getP [18] 1 dX11_isGoodAt_20 fk_RX11_19 (fun x9 => ?_)
    refine nr_aload_n 2 dX11_isGoodAt_23 rfl ?_
    refine nr_rcv (ks := [15]) (pre := [.inr v2]) (fun a10 hm => ?_)
    refine nr_doI (st := []) (nk_callV (q := (RX7, TX7, 2)) (ci := 8) (c_X7_revokes (G := G) hl0 h7 a10 v2) dX11_isGoodAt_24 (List.mem_singleton.mp hm) rfl rfl my_X7_revokes im_X7_revokes se_RX7_X7_revokes ml_RX11_161 rfl rfl (Nat.le_of_ble_eq_true rfl) (by decide) (by decide)) (fun h11 x12 => ?_)
    refine nr_if_ne (tgt := 45) dX11_isGoodAt_27 (by decide) (fun _ => ?_) (fun _ => ?_)
    · refine nr_aload_n 2 dX11_isGoodAt_30 rfl ?_
      refine nr_aload_n 0 dX11_isGoodAt_31 rfl ?_
      refine nr_getI [18] 5 dX11_isGoodAt_32 fk_RX11_42 (fun x13 => ?_)
      refine nr_rcv (ks := [16]) (pre := [.inl x13]) (fun a14 hm => ?_)
      refine nr_doI (st := []) (nk_callV (q := (RX9, TX9, 15)) (ci := 9) (c_X9_isOver (G := G) hl0 h11 a14 x13) dX11_isGoodAt_35 (List.mem_singleton.mp hm) rfl rfl my_X9_isOver im_X9_isOver se_RX9_X9_isOver ml_RX11_347 rfl rfl (Nat.le_of_ble_eq_true rfl) (by decide) (by decide)) (fun h15 x16 => ?_)
      refine nr_if_ne (tgt := 45) dX11_isGoodAt_38 (by decide) (fun _ => ?_) (fun _ => ?_)
      · refine nr_iconst (v := 1) dX11_isGoodAt_41 (by decide) ?_
        refine nr_goto (tgt := 46) dX11_isGoodAt_42 (by decide) ?_
        exact nk_locals [] rfl (s_X11_isGoodAt_c46 hl0  h15 1)
      · exact nk_locals [] rfl (s_X11_isGoodAt_c45 hl0  h15)
    · exact nk_locals [] rfl (s_X11_isGoodAt_c45 hl0  h11)
theorem c_X11_isGoodAt {G : nk_G} {l : Launch} (hl0 : l.flags = flags0) (h : nk_H) (t0 : Nat) (v1 : Int32) (v2 : Option Nat) : nk_Con G l yX11_isGoodAt cX11_isGoodAt 3 (some FieldType.boolean) 5 108 nk_eI [.inr (some t0), .inl v1, .inr v2] h (f_X11_isGoodAt h t0 v1 v2) :=
  nk_con (ini := false) (by decide) hl0 (Nat.le_of_ble_eq_true rfl) (by decide) (s_X11_isGoodAt hl0 h t0 v1 v2)
set_option maxHeartbeats 4000000 in
theorem s_X11_passOn {G : nk_G} {l : Launch} (hl0 : l.flags = flags0) (h : nk_H) (t0 : Nat) (v1 : Int32) (v2 : Int32) (v3 : Int32) : nk_Sim G l RX11 cX11_passOn 5 (some FieldType.int) 9 211 false nk_eIt 0 [(0, .inr (some t0)), (1, .inl v1), (2, .inl v2), (3, .inl v3)] [] h (f_X11_passOn  h t0 v1 v2 v3) := by
  unfold f_X11_passOn
  refine nr_iload_n 1 dX11_passOn_0 rfl ?_
  refine nr_dtV (st := []) (nk_callS (c_X11_mustBeKiosk (G := G) hl0 h v1) dX11_passOn_1 my_X11_mustBeKiosk st_X11_mustBeKiosk ml_RX11_99 rfl rfl (Nat.le_of_ble_eq_true rfl) (by decide) (by decide)) (fun _ => rfl) (fun h1 x2 => ?_)
  refine nr_aload_n 0 dX11_passOn_4 rfl ?_
  refine nr_iload_n 2 dX11_passOn_5 rfl ?_
  refine nr_rcv (ks := [18]) (pre := [.inl v2]) (fun a3 hm => ?_)
  refine nr_dtV (st := []) (nk_callV (q := (RX11, TX11, 9)) (ci := 11) (c_X11_mustBePower (G := G) hl0 h1 a3 v2) dX11_passOn_6 (List.mem_singleton.mp hm) rfl rfl my_X11_mustBePower im_X11_mustBePower se_RX11_X11_mustBePower ml_RX11_118 rfl rfl (Nat.le_of_ble_eq_true rfl) (by decide) (by decide)) (fun _ => rfl) (fun h4 x5 => ?_)
  refine nr_iload_n 3 dX11_passOn_9 rfl ?_
  refine nr_dtV (st := []) (nk_callS (c_X11_mustBePerson (G := G) hl0 h4 v3) dX11_passOn_10 my_X11_mustBePerson st_X11_mustBePerson ml_RX11_105 rfl rfl (Nat.le_of_ble_eq_true rfl) (by decide) (by decide)) (fun _ => rfl) (fun h6 x7 => ?_)
  refine nr_aload_n 0 dX11_passOn_13 rfl ?_
  refine nr_getP [18] 2 dX11_passOn_14 fk_RX11_26 (fun x8 => ?_)
  refine nr_iload_n 2 dX11_passOn_17 rfl ?_
  refine nr_rcv (ks := [7]) (pre := [.inl v2]) (fun a9 hm => ?_)
  refine nr_doR (st := []) (nk_callV (q := (RJx4a65c, TJx4a65c, 3)) (ci := 0) (c_Jx4a65c_get_915e3 (G := G) hl0 h6 a9 v2) dX11_passOn_18 (List.mem_singleton.mp hm) rfl rfl my_Jx4a65c_get_915e3 im_Jx4a65c_get_915e3 se_RJx4a65c_Jx4a65c_get_915e3 ml_RX11_121 rfl rfl (Nat.le_of_ble_eq_true rfl) (by decide) (by decide)) (fun h10 x11 => ?_)
  refine nr_cast dX11_passOn_21 cl_RX11_125 ca_Power ?_
  refine nr_astore (lv2 := [(4, .inr x11), (0, .inr (some t0)), (1, .inl v1), (2, .inl v2), (3, .inl v3)]) dX11_passOn_24 (by decide) rfl ?_
  refine nr_aload 0 dX11_passOn_26 rfl ?_
  refine nr_getI [16] 9 dX11_passOn_28 fk_RX11_127 (fun x13 => ?_)
  refine nr_iload_n 4 dX11_passOn_31 rfl ?_
  refine nr_dtV (st := []) (nk_callS (c_X11_mustBeOtherPerson (G := G) hl0 h10 x13 v3) dX11_passOn_32 my_X11_mustBeOtherPerson st_X11_mustBeOtherPerson ml_RX11_108 rfl rfl (Nat.le_of_ble_eq_true rfl) (by decide) (by decide)) (fun _ => rfl) (fun h14 x15 => ?_)
  refine nr_aload 0 dX11_passOn_35 rfl ?_
  refine nr_aload_n 1 dX11_passOn_37 rfl ?_
  refine nr_getP [18] 6 dX11_passOn_38 fk_RX11_52 (fun x16 => ?_)
  refine nr_aload_n 1 dX11_passOn_41 rfl ?_
  refine nr_getI [18] 5 dX11_passOn_42 fk_RX11_42 (fun x17 => ?_)
  refine nr_rcv (ks := [16]) (pre := [.inl x17, .inr x16]) (fun a18 hm => ?_)
  refine nr_doI (st := []) (nk_callV (q := (RX9, TX9, 15)) (ci := 9) (c_X9_covers (G := G) hl0 h14 a18 x16 x17) dX11_passOn_45 (List.mem_singleton.mp hm) rfl rfl my_X9_covers im_X9_covers se_RX9_X9_covers ml_RX11_130 rfl rfl (Nat.le_of_ble_eq_true rfl) (by decide) (by decide)) (fun h19 x20 => ?_)
  refine nr_if_ne (tgt := 61) dX11_passOn_48 (by decide) (fun _ => ?_) (fun _ => ?_)
  · exact nr_throw (text := "the draft is not within the source") rfl (by decide +kernel) cl_RX11_134 in_java_lang_IllegalArgumentException (by decide +kernel) ta_RX11_138 tg_RX11_134_138 dX11_passOn_51 dX11_passOn_54 dX11_passOn_55 dX11_passOn_57 dX11_passOn_60 (by decide) (Nat.le_of_ble_eq_true rfl)
  · refine nr_aload_n 1 dX11_passOn_61 rfl ?_
    refine nr_rcv (ks := [18]) (pre := []) (fun a21 hm => ?_)
    refine nr_dtV (st := []) (nk_callV (q := (RX11, TX11, 9)) (ci := 11) (c_X11_mustHaveRoomForPower (G := G) hl0 h19 a21) dX11_passOn_62 (List.mem_singleton.mp hm) rfl rfl my_X11_mustHaveRoomForPower im_X11_mustHaveRoomForPower se_RX11_X11_mustHaveRoomForPower ml_RX11_111 rfl rfl (Nat.le_of_ble_eq_true rfl) (by decide) (by decide)) (fun _ => rfl) (fun h22 x23 => ?_)
    refine nr_aload_n 1 dX11_passOn_65 rfl ?_
    refine nr_iload_n 2 dX11_passOn_66 rfl ?_
    refine nr_aload 0 dX11_passOn_67 rfl ?_
    refine nr_rcv (ks := [18]) (pre := [.inr x11, .inl v1]) (fun a24 hm => ?_)
    refine nr_doI (st := []) (nk_callV (q := (RX11, TX11, 9)) (ci := 11) (c_X11_isGoodAt (G := G) hl0 h22 a24 v1 x11) dX11_passOn_69 (List.mem_singleton.mp hm) rfl rfl my_X11_isGoodAt im_X11_isGoodAt se_RX11_X11_isGoodAt ml_RX11_139 rfl rfl (Nat.le_of_ble_eq_true rfl) (by decide) (by decide)) (fun h25 x26 => ?_)
    refine nr_if_ne (tgt := 85) dX11_passOn_72 (by decide) (fun _ => ?_) (fun _ => ?_)
    · exact nr_throw (text := "the source is not good here") rfl (by decide +kernel) cl_RX11_70 in_java_lang_IllegalStateException (by decide +kernel) ta_RX11_74 tg_RX11_70_74 dX11_passOn_75 dX11_passOn_78 dX11_passOn_79 dX11_passOn_81 dX11_passOn_84 (by decide) (Nat.le_of_ble_eq_true rfl)
    · refine nr_aload_n 1 dX11_passOn_85 rfl ?_
      refine nr_iload_n 2 dX11_passOn_86 rfl ?_
      refine nr_aload 0 dX11_passOn_87 rfl ?_
      refine nr_aload 0 dX11_passOn_89 rfl ?_
      refine nr_getI [16] 9 dX11_passOn_91 fk_RX11_127 (fun x27 => ?_)
      refine nr_iload_n 4 dX11_passOn_94 rfl ?_
      refine nr_rcv (ks := [18]) (pre := [.inl v3, .inl x27, .inr x11, .inl v1]) (fun a28 hm => ?_)
      refine nr_doI (st := []) (nk_callV (q := (RX11, TX11, 9)) (ci := 11) (c_X11_makePower (G := G) hl0 h25 a28 v1 x11 x27 v3) dX11_passOn_95 (List.mem_singleton.mp hm) rfl rfl my_X11_makePower im_X11_makePower se_RX11_X11_makePower ml_RX11_114 rfl rfl (Nat.le_of_ble_eq_true rfl) (by decide) (by decide)) (fun h29 x30 => ?_)
      exact nr_iret rfl rfl dX11_passOn_98
theorem c_X11_passOn {G : nk_G} {l : Launch} (hl0 : l.flags = flags0) (h : nk_H) (t0 : Nat) (v1 : Int32) (v2 : Int32) (v3 : Int32) : nk_Con G l yX11_passOn cX11_passOn 5 (some FieldType.int) 9 211 nk_eIt [.inr (some t0), .inl v1, .inl v2, .inl v3] h (f_X11_passOn h t0 v1 v2 v3) :=
  nk_con (ini := false) (by decide) hl0 (Nat.le_of_ble_eq_true rfl) (by decide) (s_X11_passOn hl0 h t0 v1 v2 v3)
set_option maxHeartbeats 4000000 in
theorem s_X11_revoke_c81 {G : nk_G} {l : Launch} (hl0 : l.flags = flags0)   (h : nk_H)   : nk_Sim G l RX11 cX11_revoke 5 (some FieldType.int) 8 186 false nk_eIt 81 [] [] h (f_X11_revoke_c81   h  ) := by
  unfold f_X11_revoke_c81
  exact nr_throw (text := "the power is not known here, or is revoked") rfl (by decide +kernel) cl_RX11_70 in_java_lang_IllegalStateException (by decide +kernel) ta_RX11_74 tg_RX11_70_74 dX11_revoke_81 dX11_revoke_84 dX11_revoke_85 dX11_revoke_87 dX11_revoke_90 (by decide) (Nat.le_of_ble_eq_true rfl)
set_option maxHeartbeats 4000000 in
theorem s_X11_revoke {G : nk_G} {l : Launch} (hl0 : l.flags = flags0) (h : nk_H) (t0 : Nat) (v1 : Int32) (v2 : Int32) (v3 : Int32) : nk_Sim G l RX11 cX11_revoke 5 (some FieldType.int) 8 186 false nk_eIt 0 [(0, .inr (some t0)), (1, .inl v1), (2, .inl v2), (3, .inl v3)] [] h (f_X11_revoke  h t0 v1 v2 v3) := by
  unfold f_X11_revoke
  refine nr_iload_n 1 dX11_revoke_0 rfl ?_
  refine nr_dtV (st := []) (nk_callS (c_X11_mustBeKiosk (G := G) hl0 h v1) dX11_revoke_1 my_X11_mustBeKiosk st_X11_mustBeKiosk ml_RX11_99 rfl rfl (Nat.le_of_ble_eq_true rfl) (by decide) (by decide)) (fun _ => rfl) (fun h1 x2 => ?_)
  refine nr_iload_n 2 dX11_revoke_4 rfl ?_
  refine nr_dtV (st := []) (nk_callS (c_X11_mustBePerson (G := G) hl0 h1 v2) dX11_revoke_5 my_X11_mustBePerson st_X11_mustBePerson ml_RX11_105 rfl rfl (Nat.le_of_ble_eq_true rfl) (by decide) (by decide)) (fun _ => rfl) (fun h3 x4 => ?_)
  refine nr_aload_n 0 dX11_revoke_8 rfl ?_
  refine nr_iload_n 3 dX11_revoke_9 rfl ?_
  refine nr_rcv (ks := [18]) (pre := [.inl v3]) (fun a5 hm => ?_)
  refine nr_dtV (st := []) (nk_callV (q := (RX11, TX11, 9)) (ci := 11) (c_X11_mustBePower (G := G) hl0 h3 a5 v3) dX11_revoke_10 (List.mem_singleton.mp hm) rfl rfl my_X11_mustBePower im_X11_mustBePower se_RX11_X11_mustBePower ml_RX11_118 rfl rfl (Nat.le_of_ble_eq_true rfl) (by decide) (by decide)) (fun _ => rfl) (fun h6 x7 => ?_)
  refine nr_aload_n 0 dX11_revoke_13 rfl ?_
  refine nr_getP [18] 2 dX11_revoke_14 fk_RX11_26 (fun x8 => ?_)
  refine nr_iload_n 3 dX11_revoke_17 rfl ?_
  refine nr_rcv (ks := [7]) (pre := [.inl v3]) (fun a9 hm => ?_)
  refine nr_doR (st := []) (nk_callV (q := (RJx4a65c, TJx4a65c, 3)) (ci := 0) (c_Jx4a65c_get_915e3 (G := G) hl0 h6 a9 v3) dX11_revoke_18 (List.mem_singleton.mp hm) rfl rfl my_Jx4a65c_get_915e3 im_Jx4a65c_get_915e3 se_RJx4a65c_Jx4a65c_get_915e3 ml_RX11_121 rfl rfl (Nat.le_of_ble_eq_true rfl) (by decide) (by decide)) (fun h10 x11 => ?_)
  refine nr_cast dX11_revoke_21 cl_RX11_125 ca_Power ?_
  refine nr_astore (lv2 := [(4, .inr x11), (0, .inr (some t0)), (1, .inl v1), (2, .inl v2), (3, .inl v3)]) dX11_revoke_24 (by decide) rfl ?_
  refine nr_aload 0 dX11_revoke_26 rfl ?_
  refine nr_iload_n 3 dX11_revoke_28 rfl ?_
  refine nr_rcv (ks := [16]) (pre := [.inl v2]) (fun a13 hm => ?_)
  refine nr_doI (st := []) (nk_callV (q := (RX9, TX9, 15)) (ci := 9) (c_X9_hasGiver (G := G) hl0 h10 a13 v2) dX11_revoke_29 (List.mem_singleton.mp hm) rfl rfl my_X9_hasGiver im_X9_hasGiver se_RX9_X9_hasGiver ml_RX11_145 rfl rfl (Nat.le_of_ble_eq_true rfl) (by decide) (by decide)) (fun h14 x15 => ?_)
  refine nr_if_ne (tgt := 45) dX11_revoke_32 (by decide) (fun _ => ?_) (fun _ => ?_)
  · exact nr_throw (text := "the person is the giver of no power of its line") rfl (by decide +kernel) cl_RX11_134 in_java_lang_IllegalArgumentException (by decide +kernel) ta_RX11_138 tg_RX11_134_138 dX11_revoke_35 dX11_revoke_38 dX11_revoke_39 dX11_revoke_41 dX11_revoke_44 (by decide) (Nat.le_of_ble_eq_true rfl)
  · refine nr_aload_n 1 dX11_revoke_45 rfl ?_
    refine nr_rcv (ks := [18]) (pre := []) (fun a16 hm => ?_)
    refine nr_dtV (st := []) (nk_callV (q := (RX11, TX11, 9)) (ci := 11) (c_X11_mustHaveRoomForNews (G := G) hl0 h14 a16) dX11_revoke_46 (List.mem_singleton.mp hm) rfl rfl my_X11_mustHaveRoomForNews im_X11_mustHaveRoomForNews se_RX11_X11_mustHaveRoomForNews ml_RX11_151 rfl rfl (Nat.le_of_ble_eq_true rfl) (by decide) (by decide)) (fun _ => rfl) (fun h17 x18 => ?_)
    refine nr_aload_n 1 dX11_revoke_49 rfl ?_
    refine nr_getP [18] 1 dX11_revoke_50 fk_RX11_19 (fun x19 => ?_)
    refine nr_iload_n 2 dX11_revoke_53 rfl ?_
    refine nr_rcv (ks := [15]) (pre := [.inl v1]) (fun a20 hm => ?_)
    refine nr_doV (st := []) (nk_callV (q := (RX7, TX7, 2)) (ci := 8) (c_X7_lookAtRead (G := G) hl0 h17 a20 v1) dX11_revoke_54 (List.mem_singleton.mp hm) rfl rfl my_X7_lookAtRead im_X7_lookAtRead se_RX7_X7_lookAtRead ml_RX11_154 rfl rfl (Nat.le_of_ble_eq_true rfl) (by decide) (by decide)) (fun h21 x22 => ?_)
    refine nr_aload_n 1 dX11_revoke_57 rfl ?_
    refine nr_getP [18] 1 dX11_revoke_58 fk_RX11_19 (fun x23 => ?_)
    refine nr_aload 0 dX11_revoke_61 rfl ?_
    refine nr_rcv (ks := [15]) (pre := [.inr x11]) (fun a24 hm => ?_)
    refine nr_doI (st := []) (nk_callV (q := (RX7, TX7, 2)) (ci := 8) (c_X7_knows (G := G) hl0 h21 a24 x11) dX11_revoke_63 (List.mem_singleton.mp hm) rfl rfl my_X7_knows im_X7_knows se_RX7_X7_knows ml_RX11_157 rfl rfl (Nat.le_of_ble_eq_true rfl) (by decide) (by decide)) (fun h25 x26 => ?_)
    refine nr_if_eq (tgt := 81) dX11_revoke_66 (by decide) (fun _ => ?_) (fun _ => ?_)
    · exact nk_locals [] rfl (s_X11_revoke_c81 hl0  h25)
    · refine nr_aload_n 1 dX11_revoke_69 rfl ?_
      refine nr_getP [18] 1 dX11_revoke_70 fk_RX11_19 (fun x27 => ?_)
      refine nr_aload 0 dX11_revoke_73 rfl ?_
      refine nr_rcv (ks := [15]) (pre := [.inr x11]) (fun a28 hm => ?_)
      refine nr_doI (st := []) (nk_callV (q := (RX7, TX7, 2)) (ci := 8) (c_X7_revokes (G := G) hl0 h25 a28 x11) dX11_revoke_75 (List.mem_singleton.mp hm) rfl rfl my_X7_revokes im_X7_revokes se_RX7_X7_revokes ml_RX11_161 rfl rfl (Nat.le_of_ble_eq_true rfl) (by decide) (by decide)) (fun h29 x30 => ?_)
      refine nr_if_eq (tgt := 91) dX11_revoke_78 (by decide) (fun _ => ?_) (fun _ => ?_)
      · refine nr_aload_n 1 dX11_revoke_91 rfl ?_
        refine nr_getP [18] 1 dX11_revoke_92 fk_RX11_19 (fun x31 => ?_)
        refine nr_newb (q := (RX10, TX10, 7)) 10 rfl dX11_revoke_95 cl_RX11_166 ins_RX10 in_RX10 rfl (fun h32 => ?_)
        refine nr_dup dX11_revoke_98 ?_
        refine nr_aload 0 dX11_revoke_99 rfl ?_
        refine nr_doV (st := [.inr (some (nk_N h29)), .inr x31]) (nk_callI (c_X10_init (G := G) hl0 h32 (nk_N h29) x11) dX11_revoke_101 my_X10_init rfl im_X10_init ml_RX11_168 rfl rfl (Nat.le_of_ble_eq_true rfl) (by decide) (by decide)) (fun h33 x34 => ?_)
        refine nr_iload_n 2 dX11_revoke_104 rfl ?_
        refine nr_aload_n 1 dX11_revoke_105 rfl ?_
        refine nr_getI [18] 5 dX11_revoke_106 fk_RX11_42 (fun x35 => ?_)
        refine nr_rcv (ks := [15]) (pre := [.inl x35, .inl v1, .inr (some (nk_N h29))]) (fun a36 hm => ?_)
        refine nr_doI (st := []) (nk_callV (q := (RX7, TX7, 2)) (ci := 8) (c_X7_publish (G := G) hl0 h33 a36 (some (nk_N h29)) v1 x35) dX11_revoke_109 (List.mem_singleton.mp hm) rfl rfl my_X7_publish im_X7_publish se_RX7_X7_publish ml_RX11_171 rfl rfl (Nat.le_of_ble_eq_true rfl) (by decide) (by decide)) (fun h37 x38 => ?_)
        exact nr_iret rfl rfl dX11_revoke_112
      · exact nk_locals [] rfl (s_X11_revoke_c81 hl0  h29)
theorem c_X11_revoke {G : nk_G} {l : Launch} (hl0 : l.flags = flags0) (h : nk_H) (t0 : Nat) (v1 : Int32) (v2 : Int32) (v3 : Int32) : nk_Con G l yX11_revoke cX11_revoke 5 (some FieldType.int) 8 186 nk_eIt [.inr (some t0), .inl v1, .inl v2, .inl v3] h (f_X11_revoke h t0 v1 v2 v3) :=
  nk_con (ini := false) (by decide) hl0 (Nat.le_of_ble_eq_true rfl) (by decide) (s_X11_revoke hl0 h t0 v1 v2 v3)
set_option maxHeartbeats 4000000 in
theorem s_X11_depute {G : nk_G} {l : Launch} (hl0 : l.flags = flags0) (h : nk_H) (t0 : Nat) (v1 : Int32) (v2 : Int32) (v3 : Int32) : nk_Sim G l RX11 cX11_depute 6 (some FieldType.int) 8 186 false nk_eIt 0 [(0, .inr (some t0)), (1, .inl v1), (2, .inl v2), (3, .inl v3)] [] h (f_X11_depute  h t0 v1 v2 v3) := by
  unfold f_X11_depute
  refine nr_iload_n 1 dX11_depute_0 rfl ?_
  refine nr_dtV (st := []) (nk_callS (c_X11_mustBeKiosk (G := G) hl0 h v1) dX11_depute_1 my_X11_mustBeKiosk st_X11_mustBeKiosk ml_RX11_99 rfl rfl (Nat.le_of_ble_eq_true rfl) (by decide) (by decide)) (fun _ => rfl) (fun h1 x2 => ?_)
  refine nr_iload_n 2 dX11_depute_4 rfl ?_
  refine nr_iconst (v := 0) dX11_depute_5 (by decide) ?_
  refine nr_bipush (v := 100) dX11_depute_6 (by decide) ?_
  refine nr_dtV (st := []) (nk_callS (c_X11_mustBeWithin (G := G) hl0 h1 v2 0 100) dX11_depute_8 my_X11_mustBeWithin st_X11_mustBeWithin ml_RX11_86 rfl rfl (Nat.le_of_ble_eq_true rfl) (by decide) (by decide)) (fun _ => rfl) (fun h3 x4 => ?_)
  refine nr_iload_n 3 dX11_depute_11 rfl ?_
  refine nr_iconst (v := 0) dX11_depute_12 (by decide) ?_
  refine nr_bipush (v := 100) dX11_depute_13 (by decide) ?_
  refine nr_dtV (st := []) (nk_callS (c_X11_mustBeWithin (G := G) hl0 h3 v3 0 100) dX11_depute_15 my_X11_mustBeWithin st_X11_mustBeWithin ml_RX11_86 rfl rfl (Nat.le_of_ble_eq_true rfl) (by decide) (by decide)) (fun _ => rfl) (fun h5 x6 => ?_)
  refine nr_aload_n 0 dX11_depute_18 rfl ?_
  refine nr_rcv (ks := [18]) (pre := []) (fun a7 hm => ?_)
  refine nr_dtV (st := []) (nk_callV (q := (RX11, TX11, 9)) (ci := 11) (c_X11_mustHaveRoomForNews (G := G) hl0 h5 a7) dX11_depute_19 (List.mem_singleton.mp hm) rfl rfl my_X11_mustHaveRoomForNews im_X11_mustHaveRoomForNews se_RX11_X11_mustHaveRoomForNews ml_RX11_151 rfl rfl (Nat.le_of_ble_eq_true rfl) (by decide) (by decide)) (fun _ => rfl) (fun h8 x9 => ?_)
  refine nr_aload_n 0 dX11_depute_22 rfl ?_
  refine nr_getI [18] 5 dX11_depute_23 fk_RX11_42 (fun x10 => ?_)
  refine nr_iload_n 2 dX11_depute_26 rfl ?_
  refine nr_iadd dX11_depute_27 ?_
  refine nr_istore (lv2 := [(4, .inl (x10 + v2)), (0, .inr (some t0)), (1, .inl v1), (2, .inl v2), (3, .inl v3)]) dX11_depute_28 (by decide) rfl ?_
  refine nr_iload 0 dX11_depute_30 rfl ?_
  refine nr_iload_n 4 dX11_depute_32 rfl ?_
  refine nr_iadd dX11_depute_33 ?_
  refine nr_istore (lv2 := [(5, .inl ((x10 + v2) + v3)), (4, .inl (x10 + v2)), (0, .inr (some t0)), (1, .inl v1), (2, .inl v2), (3, .inl v3)]) dX11_depute_34 (by decide) rfl ?_
  refine nr_aload_n 2 dX11_depute_36 rfl ?_
  refine nr_getP [18] 1 dX11_depute_37 fk_RX11_19 (fun x11 => ?_)
  refine nr_rcv (ks := [15]) (pre := []) (fun a12 hm => ?_)
  refine nr_doV (st := []) (nk_callV (q := (RX7, TX7, 2)) (ci := 8) (c_X7_lookAtAll (G := G) hl0 h8 a12) dX11_depute_40 (List.mem_singleton.mp hm) rfl rfl my_X7_lookAtAll im_X7_lookAtAll se_RX7_X7_lookAtAll ml_RX11_175 rfl rfl (Nat.le_of_ble_eq_true rfl) (by decide) (by decide)) (fun h13 x14 => ?_)
  refine nr_aload_n 2 dX11_depute_43 rfl ?_
  refine nr_getP [18] 1 dX11_depute_44 fk_RX11_19 (fun x15 => ?_)
  refine nr_iload_n 3 dX11_depute_47 rfl ?_
  refine nr_iload 1 dX11_depute_48 rfl ?_
  refine nr_iload 0 dX11_depute_50 rfl ?_
  refine nr_rcv (ks := [15]) (pre := [.inl ((x10 + v2) + v3), .inl (x10 + v2), .inl v1]) (fun a16 hm => ?_)
  refine nr_doI (st := []) (nk_callV (q := (RX7, TX7, 2)) (ci := 8) (c_X7_deputes (G := G) hl0 h13 a16 v1 (x10 + v2) ((x10 + v2) + v3)) dX11_depute_52 (List.mem_singleton.mp hm) rfl rfl my_X7_deputes im_X7_deputes se_RX7_X7_deputes ml_RX11_178 rfl rfl (Nat.le_of_ble_eq_true rfl) (by decide) (by decide)) (fun h17 x18 => ?_)
  refine nr_if_eq (tgt := 68) dX11_depute_55 (by decide) (fun _ => ?_) (fun _ => ?_)
  · refine nr_aload_n 2 dX11_depute_68 rfl ?_
    refine nr_getP [18] 1 dX11_depute_69 fk_RX11_19 (fun x19 => ?_)
    refine nr_newb (q := (RX4, TX4, 9)) 5 rfl dX11_depute_72 cl_RX11_184 ins_RX4 in_RX4 rfl (fun h20 => ?_)
    refine nr_dup dX11_depute_75 ?_
    refine nr_iload_n 3 dX11_depute_76 rfl ?_
    refine nr_iload 1 dX11_depute_77 rfl ?_
    refine nr_iload 0 dX11_depute_79 rfl ?_
    refine nr_doV (st := [.inr (some (nk_N h17)), .inr x19]) (nk_callI (c_X4_init (G := G) hl0 h20 (nk_N h17) v1 (x10 + v2) ((x10 + v2) + v3)) dX11_depute_81 my_X4_init rfl im_X4_init ml_RX11_186 rfl rfl (Nat.le_of_ble_eq_true rfl) (by decide) (by decide)) (fun h21 x22 => ?_)
    refine nr_iconst (v := 0) dX11_depute_84 (by decide) ?_
    refine nr_aload_n 2 dX11_depute_85 rfl ?_
    refine nr_getI [18] 5 dX11_depute_86 fk_RX11_42 (fun x23 => ?_)
    refine nr_rcv (ks := [15]) (pre := [.inl x23, .inl 0, .inr (some (nk_N h17))]) (fun a24 hm => ?_)
    refine nr_doI (st := []) (nk_callV (q := (RX7, TX7, 2)) (ci := 8) (c_X7_publish (G := G) hl0 h21 a24 (some (nk_N h17)) 0 x23) dX11_depute_89 (List.mem_singleton.mp hm) rfl rfl my_X7_publish im_X7_publish se_RX7_X7_publish ml_RX11_171 rfl rfl (Nat.le_of_ble_eq_true rfl) (by decide) (by decide)) (fun h25 x26 => ?_)
    exact nr_iret rfl rfl dX11_depute_92
  · exact nr_throw (text := "a deputation for the kiosk has an hour in common with it") rfl (by decide +kernel) cl_RX11_70 in_java_lang_IllegalStateException (by decide +kernel) ta_RX11_74 tg_RX11_70_74 dX11_depute_58 dX11_depute_61 dX11_depute_62 dX11_depute_64 dX11_depute_67 (by decide) (Nat.le_of_ble_eq_true rfl)
theorem c_X11_depute {G : nk_G} {l : Launch} (hl0 : l.flags = flags0) (h : nk_H) (t0 : Nat) (v1 : Int32) (v2 : Int32) (v3 : Int32) : nk_Con G l yX11_depute cX11_depute 6 (some FieldType.int) 8 186 nk_eIt [.inr (some t0), .inl v1, .inl v2, .inl v3] h (f_X11_depute h t0 v1 v2 v3) :=
  nk_con (ini := false) (by decide) hl0 (Nat.le_of_ble_eq_true rfl) (by decide) (s_X11_depute hl0 h t0 v1 v2 v3)
set_option maxHeartbeats 4000000 in
theorem s_X11_prepare {G : nk_G} {l : Launch} (hl0 : l.flags = flags0) (h : nk_H) (t0 : Nat) (v1 : Int32) (v2 : Int32) : nk_Sim G l RX11 cX11_prepare 3 (none : Option FieldType) 7 104 false nk_eVt 0 [(0, .inr (some t0)), (1, .inl v1), (2, .inl v2)] [] h (f_X11_prepare  h t0 v1 v2) := by
  unfold f_X11_prepare
  refine nr_iload_n 1 dX11_prepare_0 rfl ?_
  refine nr_iconst (v := 0) dX11_prepare_1 (by decide) ?_
  refine nr_iconst (v := 1) dX11_prepare_2 (by decide) ?_
  refine nr_dtV (st := []) (nk_callS (c_X11_mustBeWithin (G := G) hl0 h v1 0 1) dX11_prepare_3 my_X11_mustBeWithin st_X11_mustBeWithin ml_RX11_86 rfl rfl (Nat.le_of_ble_eq_true rfl) (by decide) (by decide)) (fun _ => rfl) (fun h1 x2 => ?_)
  refine nr_iload_n 2 dX11_prepare_6 rfl ?_
  refine nr_iconst (v := 0) dX11_prepare_7 (by decide) ?_
  refine nr_iconst (v := 5) dX11_prepare_8 (by decide) ?_
  refine nr_dtV (st := []) (nk_callS (c_X11_mustBeWithin (G := G) hl0 h1 v2 0 5) dX11_prepare_9 my_X11_mustBeWithin st_X11_mustBeWithin ml_RX11_86 rfl rfl (Nat.le_of_ble_eq_true rfl) (by decide) (by decide)) (fun _ => rfl) (fun h3 x4 => ?_)
  refine nr_aload_n 0 dX11_prepare_12 rfl ?_
  refine nr_iload_n 1 dX11_prepare_13 rfl ?_
  refine nr_putI [18] 7 dX11_prepare_14 fk_RX11_56 fw_RX11_56_n (fun h5 => ?_)
  refine nr_aload_n 0 dX11_prepare_17 rfl ?_
  refine nr_iload_n 2 dX11_prepare_18 rfl ?_
  refine nr_putI [18] 8 dX11_prepare_19 fk_RX11_59 fw_RX11_59_n (fun h6 => ?_)
  exact nr_vret rfl rfl dX11_prepare_22
theorem c_X11_prepare {G : nk_G} {l : Launch} (hl0 : l.flags = flags0) (h : nk_H) (t0 : Nat) (v1 : Int32) (v2 : Int32) : nk_Con G l yX11_prepare cX11_prepare 3 (none : Option FieldType) 7 104 nk_eVt [.inr (some t0), .inl v1, .inl v2] h (f_X11_prepare h t0 v1 v2) :=
  nk_con (ini := false) (by decide) hl0 (Nat.le_of_ble_eq_true rfl) (by decide) (s_X11_prepare hl0 h t0 v1 v2)
set_option maxHeartbeats 4000000 in
theorem s_X11_deedNow {G : nk_G} {l : Launch} (hl0 : l.flags = flags0) (h : nk_H) (t0 : Nat) (v1 : Int32) (v2 : Int32) (v3 : Int32) : nk_Sim G l RX11 cX11_deedNow 4 (some (FieldType.object "NotaryKiosk$Deed")) 2 38 false nk_eR 0 [(0, .inr (some t0)), (1, .inl v1), (2, .inl v2), (3, .inl v3)] [] h (f_X11_deedNow  h t0 v1 v2 v3) := by
  unfold f_X11_deedNow
  refine nr_newb (q := (RX3, TX3, 6)) 4 rfl dX11_deedNow_0 cl_RX11_342 ins_RX3 in_RX3 rfl (fun h1 => ?_)
  refine nr_dup dX11_deedNow_3 ?_
  refine nr_iload_n 1 dX11_deedNow_4 rfl ?_
  refine nr_aload_n 0 dX11_deedNow_5 rfl ?_
  refine nr_getI [18] 5 dX11_deedNow_6 fk_RX11_42 (fun x2 => ?_)
  refine nr_iload_n 2 dX11_deedNow_9 rfl ?_
  refine nr_aload_n 0 dX11_deedNow_10 rfl ?_
  refine nr_getI [18] 8 dX11_deedNow_11 fk_RX11_59 (fun x3 => ?_)
  refine nr_iload_n 3 dX11_deedNow_14 rfl ?_
  refine nr_aload_n 0 dX11_deedNow_15 rfl ?_
  refine nr_getI [18] 7 dX11_deedNow_16 fk_RX11_56 (fun x4 => ?_)
  refine nr_doV (st := [.inr (some (nk_N h))]) (nk_callI (c_X3_init (G := G) hl0 h1 (nk_N h) v1 x2 v2 x3 v3 x4) dX11_deedNow_19 my_X3_init rfl im_X3_init ml_RX11_344 rfl rfl (Nat.le_of_ble_eq_true rfl) (by decide) (by decide)) (fun h5 x6 => ?_)
  exact nr_aret rfl rfl (Or.inl ⟨_, rfl⟩) dX11_deedNow_22
theorem c_X11_deedNow {G : nk_G} {l : Launch} (hl0 : l.flags = flags0) (h : nk_H) (t0 : Nat) (v1 : Int32) (v2 : Int32) (v3 : Int32) : nk_Con G l yX11_deedNow cX11_deedNow 4 (some (FieldType.object "NotaryKiosk$Deed")) 2 38 nk_eR [.inr (some t0), .inl v1, .inl v2, .inl v3] h (f_X11_deedNow h t0 v1 v2 v3) :=
  nk_con (ini := false) (by decide) hl0 (Nat.le_of_ble_eq_true rfl) (by decide) (s_X11_deedNow hl0 h t0 v1 v2 v3)
set_option maxHeartbeats 4000000 in
theorem s_X11_reasonByMail {G : nk_G} {l : Launch} (hl0 : l.flags = flags0) (h : nk_H) (t0 : Nat) (v1 : Option Nat) : nk_Sim G l RX11 cX11_reasonByMail 2 (some FieldType.int) 6 132 false nk_eI 0 [(0, .inr (some t0)), (1, .inr v1)] [] h (f_X11_reasonByMail  h t0 v1) := by
  unfold f_X11_reasonByMail
  refine nr_aload_n 0 dX11_reasonByMail_0 rfl ?_
  refine nr_getP [18] 1 dX11_reasonByMail_1 fk_RX11_19 (fun x1 => ?_)
  refine nr_aload_n 1 dX11_reasonByMail_4 rfl ?_
  refine nr_rcv (ks := [15]) (pre := [.inr v1]) (fun a2 hm => ?_)
  refine nr_doV (st := []) (nk_callV (q := (RX7, TX7, 2)) (ci := 8) (c_X7_lookAtReadable (G := G) hl0 h a2 v1) dX11_reasonByMail_5 (List.mem_singleton.mp hm) rfl rfl my_X7_lookAtReadable im_X7_lookAtReadable se_RX7_X7_lookAtReadable ml_RX11_350 rfl rfl (Nat.le_of_ble_eq_true rfl) (by decide) (by decide)) (fun h3 x4 => ?_)
  refine nr_aload_n 0 dX11_reasonByMail_8 rfl ?_
  refine nr_getP [18] 1 dX11_reasonByMail_9 fk_RX11_19 (fun x5 => ?_)
  refine nr_aload_n 1 dX11_reasonByMail_12 rfl ?_
  refine nr_getP [8] 6 dX11_reasonByMail_13 fk_RX11_354 (fun x6 => ?_)
  refine nr_aload_n 1 dX11_reasonByMail_16 rfl ?_
  refine nr_getP [8] 7 dX11_reasonByMail_17 fk_RX11_357 (fun x7 => ?_)
  refine nr_rcv (ks := [15]) (pre := [.inr x7, .inr x6]) (fun a8 hm => ?_)
  refine nr_doI (st := []) (nk_callV (q := (RX7, TX7, 2)) (ci := 8) (c_X7_reasonAgainst (G := G) hl0 h3 a8 x6 x7) dX11_reasonByMail_20 (List.mem_singleton.mp hm) rfl rfl my_X7_reasonAgainst im_X7_reasonAgainst se_RX7_X7_reasonAgainst ml_RX11_192 rfl rfl (Nat.le_of_ble_eq_true rfl) (by decide) (by decide)) (fun h9 x10 => ?_)
  exact nr_iret rfl rfl dX11_reasonByMail_23
theorem c_X11_reasonByMail {G : nk_G} {l : Launch} (hl0 : l.flags = flags0) (h : nk_H) (t0 : Nat) (v1 : Option Nat) : nk_Con G l yX11_reasonByMail cX11_reasonByMail 2 (some FieldType.int) 6 132 nk_eI [.inr (some t0), .inr v1] h (f_X11_reasonByMail h t0 v1) :=
  nk_con (ini := false) (by decide) hl0 (Nat.le_of_ble_eq_true rfl) (by decide) (s_X11_reasonByMail hl0 h t0 v1)
set_option maxHeartbeats 4000000 in
theorem s_X11_act_c125 {G : nk_G} {l : Launch} (hl0 : l.flags = flags0)   (h : nk_H) (t0 : Nat) (v1 : Int32) (v7 : Option Nat) (s0 : Int32) (s1 : Option Nat) : nk_Sim G l RX11 cX11_act 8 (some FieldType.int) 8 186 false nk_eIt 125 [(0, .inr (some t0)), (1, .inl v1), (7, .inr v7)] [.inl s0, .inr s1] h (f_X11_act_c125   h t0 v1 v7 s0 s1) := by
  unfold f_X11_act_c125
  refine nr_putZ [8] 10 dX11_act_125 fk_RX11_207 fz_RX11_207_n (fun h1 => ?_)
  refine nr_aload_n 0 dX11_act_128 rfl ?_
  refine nr_getP [18] 3 dX11_act_129 fk_RX11_32 (fun x2 => ?_)
  refine nr_iload_n 1 dX11_act_132 rfl ?_
  refine nr_aaload 3 dX11_act_133 (by decide) (fun x3 => ?_)
  refine nr_aload 2 dX11_act_134 rfl ?_
  refine nr_rcv (ks := [9]) (pre := [.inr v7]) (fun a4 hm => ?_)
  refine nr_doI (st := []) (nk_callV (q := (RX1, TX1, 2)) (ci := 2) (c_X1_enter (G := G) hl0 h1 a4 v7) dX11_act_136 (List.mem_singleton.mp hm) rfl rfl my_X1_enter im_X1_enter se_RX1_X1_enter ml_RX11_211 rfl rfl (Nat.le_of_ble_eq_true rfl) (by decide) (by decide)) (fun h5 x6 => ?_)
  exact nr_iret rfl rfl dX11_act_139
set_option maxHeartbeats 4000000 in
theorem s_X11_act {G : nk_G} {l : Launch} (hl0 : l.flags = flags0) (h : nk_H) (t0 : Nat) (v1 : Int32) (v2 : Int32) (v3 : Int32) (v4 : Int32) : nk_Sim G l RX11 cX11_act 8 (some FieldType.int) 8 186 false nk_eIt 0 [(0, .inr (some t0)), (1, .inl v1), (2, .inl v2), (3, .inl v3), (4, .inl v4)] [] h (f_X11_act  h t0 v1 v2 v3 v4) := by
  unfold f_X11_act
  refine nr_iload_n 1 dX11_act_0 rfl ?_
  refine nr_dtV (st := []) (nk_callS (c_X11_mustBeKiosk (G := G) hl0 h v1) dX11_act_1 my_X11_mustBeKiosk st_X11_mustBeKiosk ml_RX11_99 rfl rfl (Nat.le_of_ble_eq_true rfl) (by decide) (by decide)) (fun _ => rfl) (fun h7 x8 => ?_)
  refine nr_iload_n 2 dX11_act_4 rfl ?_
  refine nr_dtV (st := []) (nk_callS (c_X11_mustBePerson (G := G) hl0 h7 v2) dX11_act_5 my_X11_mustBePerson st_X11_mustBePerson ml_RX11_105 rfl rfl (Nat.le_of_ble_eq_true rfl) (by decide) (by decide)) (fun _ => rfl) (fun h9 x10 => ?_)
  refine nr_aload_n 0 dX11_act_8 rfl ?_
  refine nr_iload_n 3 dX11_act_9 rfl ?_
  refine nr_rcv (ks := [18]) (pre := [.inl v3]) (fun a11 hm => ?_)
  refine nr_dtV (st := []) (nk_callV (q := (RX11, TX11, 9)) (ci := 11) (c_X11_mustBePower (G := G) hl0 h9 a11 v3) dX11_act_10 (List.mem_singleton.mp hm) rfl rfl my_X11_mustBePower im_X11_mustBePower se_RX11_X11_mustBePower ml_RX11_118 rfl rfl (Nat.le_of_ble_eq_true rfl) (by decide) (by decide)) (fun _ => rfl) (fun h12 x13 => ?_)
  refine nr_iload 4 dX11_act_13 rfl ?_
  refine nr_iconst (v := 1) dX11_act_15 (by decide) ?_
  refine nr_sipush (v := 10000) dX11_act_16 (by decide) ?_
  refine nr_dtV (st := []) (nk_callS (c_X11_mustBeWithin (G := G) hl0 h12 v4 1 10000) dX11_act_19 my_X11_mustBeWithin st_X11_mustBeWithin ml_RX11_86 rfl rfl (Nat.le_of_ble_eq_true rfl) (by decide) (by decide)) (fun _ => rfl) (fun h14 x15 => ?_)
  refine nr_aload_n 0 dX11_act_22 rfl ?_
  refine nr_rcv (ks := [18]) (pre := []) (fun a16 hm => ?_)
  refine nr_dtV (st := []) (nk_callV (q := (RX11, TX11, 9)) (ci := 11) (c_X11_mustHaveRoomForNews (G := G) hl0 h14 a16) dX11_act_23 (List.mem_singleton.mp hm) rfl rfl my_X11_mustHaveRoomForNews im_X11_mustHaveRoomForNews se_RX11_X11_mustHaveRoomForNews ml_RX11_151 rfl rfl (Nat.le_of_ble_eq_true rfl) (by decide) (by decide)) (fun _ => rfl) (fun h17 x18 => ?_)
  refine nr_aload_n 0 dX11_act_26 rfl ?_
  refine nr_getP [18] 2 dX11_act_27 fk_RX11_26 (fun x19 => ?_)
  refine nr_iload_n 3 dX11_act_30 rfl ?_
  refine nr_rcv (ks := [7]) (pre := [.inl v3]) (fun a20 hm => ?_)
  refine nr_doR (st := []) (nk_callV (q := (RJx4a65c, TJx4a65c, 3)) (ci := 0) (c_Jx4a65c_get_915e3 (G := G) hl0 h17 a20 v3) dX11_act_31 (List.mem_singleton.mp hm) rfl rfl my_Jx4a65c_get_915e3 im_Jx4a65c_get_915e3 se_RJx4a65c_Jx4a65c_get_915e3 ml_RX11_121 rfl rfl (Nat.le_of_ble_eq_true rfl) (by decide) (by decide)) (fun h21 x22 => ?_)
  refine nr_cast dX11_act_34 cl_RX11_125 ca_Power ?_
  refine nr_astore (lv2 := [(5, .inr x22), (0, .inr (some t0)), (1, .inl v1), (2, .inl v2), (3, .inl v3), (4, .inl v4)]) dX11_act_37 (by decide) rfl ?_
  refine nr_aload_n 1 dX11_act_39 rfl ?_
  refine nr_iload_n 2 dX11_act_40 rfl ?_
  refine nr_iload_n 3 dX11_act_41 rfl ?_
  refine nr_iload 5 dX11_act_42 rfl ?_
  refine nr_rcv (ks := [18]) (pre := [.inl v4, .inl v2, .inl v1]) (fun a24 hm => ?_)
  refine nr_doR (st := []) (nk_callV (q := (RX11, TX11, 9)) (ci := 11) (c_X11_deedNow (G := G) hl0 h21 a24 v1 v2 v4) dX11_act_44 (List.mem_singleton.mp hm) rfl rfl my_X11_deedNow im_X11_deedNow se_RX11_X11_deedNow ml_RX11_188 rfl rfl (Nat.le_of_ble_eq_true rfl) (by decide) (by decide)) (fun h25 x26 => ?_)
  refine nr_astore (lv2 := [(6, .inr x26), (5, .inr x22), (0, .inr (some t0)), (1, .inl v1), (2, .inl v2), (3, .inl v3), (4, .inl v4)]) dX11_act_47 (by decide) rfl ?_
  refine nr_aload_n 2 dX11_act_49 rfl ?_
  refine nr_getP [18] 1 dX11_act_50 fk_RX11_19 (fun x27 => ?_)
  refine nr_iload_n 3 dX11_act_53 rfl ?_
  refine nr_rcv (ks := [15]) (pre := [.inl v1]) (fun a28 hm => ?_)
  refine nr_doV (st := []) (nk_callV (q := (RX7, TX7, 2)) (ci := 8) (c_X7_lookAtRead (G := G) hl0 h25 a28 v1) dX11_act_54 (List.mem_singleton.mp hm) rfl rfl my_X7_lookAtRead im_X7_lookAtRead se_RX7_X7_lookAtRead ml_RX11_154 rfl rfl (Nat.le_of_ble_eq_true rfl) (by decide) (by decide)) (fun h29 x30 => ?_)
  refine nr_aload_n 2 dX11_act_57 rfl ?_
  refine nr_getP [18] 1 dX11_act_58 fk_RX11_19 (fun x31 => ?_)
  refine nr_aload 1 dX11_act_61 rfl ?_
  refine nr_aload 0 dX11_act_63 rfl ?_
  refine nr_rcv (ks := [15]) (pre := [.inr x26, .inr x22]) (fun a32 hm => ?_)
  refine nr_doI (st := []) (nk_callV (q := (RX7, TX7, 2)) (ci := 8) (c_X7_reasonAgainst (G := G) hl0 h29 a32 x22 x26) dX11_act_65 (List.mem_singleton.mp hm) rfl rfl my_X7_reasonAgainst im_X7_reasonAgainst se_RX7_X7_reasonAgainst ml_RX11_192 rfl rfl (Nat.le_of_ble_eq_true rfl) (by decide) (by decide)) (fun h33 x34 => ?_)
  refine nr_if_eq (tgt := 81) dX11_act_68 (by decide) (fun _ => ?_) (fun _ => ?_)
  · refine nr_newb (q := (RX0, TX0, 11)) 1 rfl dX11_act_81 cl_RX11_198 ins_RX0 in_RX0 rfl (fun h35 => ?_)
    refine nr_dup dX11_act_84 ?_
    refine nr_aload 1 dX11_act_85 rfl ?_
    refine nr_aload 0 dX11_act_87 rfl ?_
    refine nr_doV (st := [.inr (some (nk_N h33))]) (nk_callI (c_X0_init (G := G) hl0 h35 (nk_N h33) x22 x26) dX11_act_89 my_X0_init rfl im_X0_init ml_RX11_200 rfl rfl (Nat.le_of_ble_eq_true rfl) (by decide) (by decide)) (fun h36 x37 => ?_)
    refine nr_astore (lv2 := [(7, .inr (some (nk_N h33))), (6, .inr x26), (5, .inr x22), (0, .inr (some t0)), (1, .inl v1), (2, .inl v2), (3, .inl v3), (4, .inl v4)]) dX11_act_92 (by decide) rfl ?_
    refine nr_aload_n 3 dX11_act_94 rfl ?_
    refine nr_getP [18] 1 dX11_act_95 fk_RX11_19 (fun x38 => ?_)
    refine nr_aload 0 dX11_act_98 rfl ?_
    refine nr_iload_n 4 dX11_act_100 rfl ?_
    refine nr_aload_n 3 dX11_act_101 rfl ?_
    refine nr_getI [18] 5 dX11_act_102 fk_RX11_42 (fun x39 => ?_)
    refine nr_rcv (ks := [15]) (pre := [.inl x39, .inl v1, .inr (some (nk_N h33))]) (fun a40 hm => ?_)
    refine nr_doI (st := []) (nk_callV (q := (RX7, TX7, 2)) (ci := 8) (c_X7_publish (G := G) hl0 h36 a40 (some (nk_N h33)) v1 x39) dX11_act_105 (List.mem_singleton.mp hm) rfl rfl my_X7_publish im_X7_publish se_RX7_X7_publish ml_RX11_171 rfl rfl (Nat.le_of_ble_eq_true rfl) (by decide) (by decide)) (fun h41 x42 => ?_)
    refine nr_pop dX11_act_108 ?_
    refine nr_aload 0 dX11_act_109 rfl ?_
    refine nr_aload_n 3 dX11_act_111 rfl ?_
    refine nr_aload 0 dX11_act_112 rfl ?_
    refine nr_rcv (ks := [18]) (pre := [.inr (some (nk_N h33))]) (fun a43 hm => ?_)
    refine nr_doI (st := [.inr (some (nk_N h33))]) (nk_callV (q := (RX11, TX11, 9)) (ci := 11) (c_X11_reasonByMail (G := G) hl0 h41 a43 (some (nk_N h33))) dX11_act_114 (List.mem_singleton.mp hm) rfl rfl my_X11_reasonByMail im_X11_reasonByMail se_RX11_X11_reasonByMail ml_RX11_203 rfl rfl (Nat.le_of_ble_eq_true rfl) (by decide) (by decide)) (fun h44 x45 => ?_)
    refine nr_if_ne (tgt := 124) dX11_act_117 (by decide) (fun _ => ?_) (fun _ => ?_)
    · refine nr_iconst (v := 1) dX11_act_120 (by decide) ?_
      refine nr_goto (tgt := 125) dX11_act_121 (by decide) ?_
      exact nk_locals [3, 4, 0] rfl (s_X11_act_c125 hl0  h44 t0 v1 (some (nk_N h33)) 1 (some (nk_N h33)))
    · refine nr_iconst (v := 0) dX11_act_124 (by decide) ?_
      exact nk_locals [3, 4, 0] rfl (s_X11_act_c125 hl0  h44 t0 v1 (some (nk_N h33)) 0 (some (nk_N h33)))
  · exact nr_throw (text := "there is a reason against it") rfl (by decide +kernel) cl_RX11_70 in_java_lang_IllegalStateException (by decide +kernel) ta_RX11_74 tg_RX11_70_74 dX11_act_71 dX11_act_74 dX11_act_75 dX11_act_77 dX11_act_80 (by decide) (Nat.le_of_ble_eq_true rfl)
theorem c_X11_act {G : nk_G} {l : Launch} (hl0 : l.flags = flags0) (h : nk_H) (t0 : Nat) (v1 : Int32) (v2 : Int32) (v3 : Int32) (v4 : Int32) : nk_Con G l yX11_act cX11_act 8 (some FieldType.int) 8 186 nk_eIt [.inr (some t0), .inl v1, .inl v2, .inl v3, .inl v4] h (f_X11_act h t0 v1 v2 v3 v4) :=
  nk_con (ini := false) (by decide) hl0 (Nat.le_of_ble_eq_true rfl) (by decide) (s_X11_act hl0 h t0 v1 v2 v3 v4)
set_option maxHeartbeats 4000000 in
theorem s_X11_mustBeRecord_c21 {G : nk_G} {l : Launch} (hl0 : l.flags = flags0)   (h : nk_H)   : nk_Sim G l RX11 cX11_mustBeRecord 3 (none : Option FieldType) 7 102 false nk_eVt 21 [] [] h (f_X11_mustBeRecord_c21   h  ) := by
  unfold f_X11_mustBeRecord_c21
  exact nr_throwW (text := "no such record") rfl (by decide +kernel) cl_RX11_361 in_java_lang_IndexOutOfBoundsException (by decide +kernel) ta_RX11_365 tg_RX11_361_365 dX11_mustBeRecord_21 dX11_mustBeRecord_24 dX11_mustBeRecord_25 dX11_mustBeRecord_28 dX11_mustBeRecord_31 (by decide) (Nat.le_of_ble_eq_true rfl)
set_option maxHeartbeats 4000000 in
theorem s_X11_mustBeRecord {G : nk_G} {l : Launch} (hl0 : l.flags = flags0) (h : nk_H) (t0 : Nat) (v1 : Int32) (v2 : Int32) : nk_Sim G l RX11 cX11_mustBeRecord 3 (none : Option FieldType) 7 102 false nk_eVt 0 [(0, .inr (some t0)), (1, .inl v1), (2, .inl v2)] [] h (f_X11_mustBeRecord  h t0 v1 v2) := by
  unfold f_X11_mustBeRecord
  refine nr_iload_n 1 dX11_mustBeRecord_0 rfl ?_
  refine nr_dtV (st := []) (nk_callS (c_X11_mustBeKiosk (G := G) hl0 h v1) dX11_mustBeRecord_1 my_X11_mustBeKiosk st_X11_mustBeKiosk ml_RX11_99 rfl rfl (Nat.le_of_ble_eq_true rfl) (by decide) (by decide)) (fun _ => rfl) (fun h1 x2 => ?_)
  refine nr_iload_n 2 dX11_mustBeRecord_4 rfl ?_
  refine nr_if_lt (tgt := 21) dX11_mustBeRecord_5 (by decide) (fun _ => ?_) (fun _ => ?_)
  · exact nk_locals [] rfl (s_X11_mustBeRecord_c21 hl0  h1)
  · refine nr_iload_n 2 dX11_mustBeRecord_8 rfl ?_
    refine nr_aload_n 0 dX11_mustBeRecord_9 rfl ?_
    refine nr_getP [18] 3 dX11_mustBeRecord_10 fk_RX11_32 (fun x3 => ?_)
    refine nr_iload_n 1 dX11_mustBeRecord_13 rfl ?_
    refine nr_aaload 3 dX11_mustBeRecord_14 (by decide) (fun x4 => ?_)
    refine nr_rcv (ks := [9]) (pre := []) (fun a5 hm => ?_)
    refine nr_doI (st := [.inl v2]) (nk_callV (q := (RX1, TX1, 2)) (ci := 2) (c_X1_count (G := G) hl0 h1 a5) dX11_mustBeRecord_15 (List.mem_singleton.mp hm) rfl rfl my_X1_count im_X1_count se_RX1_X1_count ml_RX11_263 rfl rfl (Nat.le_of_ble_eq_true rfl) (by decide) (by decide)) (fun h6 x7 => ?_)
    refine nr_icmp_lt (tgt := 32) dX11_mustBeRecord_18 (by decide) (fun _ => ?_) (fun _ => ?_)
    · exact nr_vret rfl rfl dX11_mustBeRecord_32
    · exact nk_locals [] rfl (s_X11_mustBeRecord_c21 hl0  h6)
theorem c_X11_mustBeRecord {G : nk_G} {l : Launch} (hl0 : l.flags = flags0) (h : nk_H) (t0 : Nat) (v1 : Int32) (v2 : Int32) : nk_Con G l yX11_mustBeRecord cX11_mustBeRecord 3 (none : Option FieldType) 7 102 nk_eVt [.inr (some t0), .inl v1, .inl v2] h (f_X11_mustBeRecord h t0 v1 v2) :=
  nk_con (ini := false) (by decide) hl0 (Nat.le_of_ble_eq_true rfl) (by decide) (s_X11_mustBeRecord hl0 h t0 v1 v2)
set_option maxHeartbeats 4000000 in
theorem s_X11_tamper {G : nk_G} {l : Launch} (hl0 : l.flags = flags0) (h : nk_H) (t0 : Nat) (v1 : Int32) (v2 : Int32) (v3 : Int32) : nk_Sim G l RX11 cX11_tamper 6 (some FieldType.int) 8 124 false nk_eIt 0 [(0, .inr (some t0)), (1, .inl v1), (2, .inl v2), (3, .inl v3)] [] h (f_X11_tamper  h t0 v1 v2 v3) := by
  unfold f_X11_tamper
  refine nr_aload_n 0 dX11_tamper_0 rfl ?_
  refine nr_iload_n 1 dX11_tamper_1 rfl ?_
  refine nr_iload_n 2 dX11_tamper_2 rfl ?_
  refine nr_rcv (ks := [18]) (pre := [.inl v2, .inl v1]) (fun a1 hm => ?_)
  refine nr_dtV (st := []) (nk_callV (q := (RX11, TX11, 9)) (ci := 11) (c_X11_mustBeRecord (G := G) hl0 h a1 v1 v2) dX11_tamper_3 (List.mem_singleton.mp hm) rfl rfl my_X11_mustBeRecord im_X11_mustBeRecord se_RX11_X11_mustBeRecord ml_RX11_214 rfl rfl (Nat.le_of_ble_eq_true rfl) (by decide) (by decide)) (fun _ => rfl) (fun h2 x3 => ?_)
  refine nr_iload_n 3 dX11_tamper_6 rfl ?_
  refine nr_iconst (v := 1) dX11_tamper_7 (by decide) ?_
  refine nr_sipush (v := 10000) dX11_tamper_8 (by decide) ?_
  refine nr_dtV (st := []) (nk_callS (c_X11_mustBeWithin (G := G) hl0 h2 v3 1 10000) dX11_tamper_11 my_X11_mustBeWithin st_X11_mustBeWithin ml_RX11_86 rfl rfl (Nat.le_of_ble_eq_true rfl) (by decide) (by decide)) (fun _ => rfl) (fun h4 x5 => ?_)
  refine nr_aload_n 0 dX11_tamper_14 rfl ?_
  refine nr_getP [18] 3 dX11_tamper_15 fk_RX11_32 (fun x6 => ?_)
  refine nr_iload_n 1 dX11_tamper_18 rfl ?_
  refine nr_aaload 3 dX11_tamper_19 (by decide) (fun x7 => ?_)
  refine nr_iload_n 2 dX11_tamper_20 rfl ?_
  refine nr_rcv (ks := [9]) (pre := [.inl v2]) (fun a8 hm => ?_)
  refine nr_doR (st := []) (nk_callV (q := (RX1, TX1, 2)) (ci := 2) (c_X1_actOf (G := G) hl0 h4 a8 v2) dX11_tamper_21 (List.mem_singleton.mp hm) rfl rfl my_X1_actOf im_X1_actOf se_RX1_X1_actOf ml_RX11_217 rfl rfl (Nat.le_of_ble_eq_true rfl) (by decide) (by decide)) (fun h9 x10 => ?_)
  refine nr_astore (lv2 := [(4, .inr x10), (0, .inr (some t0)), (1, .inl v1), (2, .inl v2), (3, .inl v3)]) dX11_tamper_24 (by decide) rfl ?_
  refine nr_aload 0 dX11_tamper_26 rfl ?_
  refine nr_getP [8] 8 dX11_tamper_28 fk_RX11_221 (fun x11 => ?_)
  refine nr_iconst (v := 3) dX11_tamper_31 (by decide) ?_
  refine nr_iaload dX11_tamper_32 (fun x12 => ?_)
  refine nr_istore (lv2 := [(5, .inl x12), (4, .inr x10), (0, .inr (some t0)), (1, .inl v1), (2, .inl v2), (3, .inl v3)]) dX11_tamper_33 (by decide) rfl ?_
  refine nr_aload 1 dX11_tamper_35 rfl ?_
  refine nr_getP [8] 8 dX11_tamper_37 fk_RX11_221 (fun x13 => ?_)
  refine nr_iconst (v := 3) dX11_tamper_40 (by decide) ?_
  refine nr_iload_n 5 dX11_tamper_41 rfl ?_
  refine nr_iastore dX11_tamper_42 (fun h14 => ?_)
  refine nr_iload 0 dX11_tamper_43 rfl ?_
  exact nr_iret rfl rfl dX11_tamper_45
theorem c_X11_tamper {G : nk_G} {l : Launch} (hl0 : l.flags = flags0) (h : nk_H) (t0 : Nat) (v1 : Int32) (v2 : Int32) (v3 : Int32) : nk_Con G l yX11_tamper cX11_tamper 6 (some FieldType.int) 8 124 nk_eIt [.inr (some t0), .inl v1, .inl v2, .inl v3] h (f_X11_tamper h t0 v1 v2 v3) :=
  nk_con (ini := false) (by decide) hl0 (Nat.le_of_ble_eq_true rfl) (by decide) (s_X11_tamper hl0 h t0 v1 v2 v3)
set_option maxHeartbeats 4000000 in
theorem s_X11_copy {G : nk_G} {l : Launch} (hl0 : l.flags = flags0) (h : nk_H) (t0 : Nat) (v1 : Int32) (v2 : Int32) (v3 : Int32) (v4 : Int32) : nk_Sim G l RX11 cX11_copy 6 (some FieldType.int) 8 163 false nk_eIt 0 [(0, .inr (some t0)), (1, .inl v1), (2, .inl v2), (3, .inl v3), (4, .inl v4)] [] h (f_X11_copy  h t0 v1 v2 v3 v4) := by
  unfold f_X11_copy
  refine nr_aload_n 0 dX11_copy_0 rfl ?_
  refine nr_iload_n 1 dX11_copy_1 rfl ?_
  refine nr_iload_n 2 dX11_copy_2 rfl ?_
  refine nr_rcv (ks := [18]) (pre := [.inl v2, .inl v1]) (fun a1 hm => ?_)
  refine nr_dtV (st := []) (nk_callV (q := (RX11, TX11, 9)) (ci := 11) (c_X11_mustBeRecord (G := G) hl0 h a1 v1 v2) dX11_copy_3 (List.mem_singleton.mp hm) rfl rfl my_X11_mustBeRecord im_X11_mustBeRecord se_RX11_X11_mustBeRecord ml_RX11_214 rfl rfl (Nat.le_of_ble_eq_true rfl) (by decide) (by decide)) (fun _ => rfl) (fun h2 x3 => ?_)
  refine nr_aload_n 0 dX11_copy_6 rfl ?_
  refine nr_iload_n 1 dX11_copy_7 rfl ?_
  refine nr_iload_n 3 dX11_copy_8 rfl ?_
  refine nr_rcv (ks := [18]) (pre := [.inl v3, .inl v1]) (fun a4 hm => ?_)
  refine nr_dtV (st := []) (nk_callV (q := (RX11, TX11, 9)) (ci := 11) (c_X11_mustBeRecord (G := G) hl0 h2 a4 v1 v3) dX11_copy_9 (List.mem_singleton.mp hm) rfl rfl my_X11_mustBeRecord im_X11_mustBeRecord se_RX11_X11_mustBeRecord ml_RX11_214 rfl rfl (Nat.le_of_ble_eq_true rfl) (by decide) (by decide)) (fun _ => rfl) (fun h5 x6 => ?_)
  refine nr_iload 4 dX11_copy_12 rfl ?_
  refine nr_iconst (v := 0) dX11_copy_14 (by decide) ?_
  refine nr_bipush (v := 63) dX11_copy_15 (by decide) ?_
  refine nr_dtV (st := []) (nk_callS (c_X11_mustBeWithin (G := G) hl0 h5 v4 0 63) dX11_copy_17 my_X11_mustBeWithin st_X11_mustBeWithin ml_RX11_86 rfl rfl (Nat.le_of_ble_eq_true rfl) (by decide) (by decide)) (fun _ => rfl) (fun h7 x8 => ?_)
  refine nr_iload_n 3 dX11_copy_20 rfl ?_
  refine nr_iload_n 2 dX11_copy_21 rfl ?_
  refine nr_icmp_ge (tgt := 35) dX11_copy_22 (by decide) (fun _ => ?_) (fun _ => ?_)
  · refine nr_aload_n 0 dX11_copy_35 rfl ?_
    refine nr_getP [18] 4 dX11_copy_36 fk_RX11_39 (fun x9 => ?_)
    refine nr_rcv (ks := [7]) (pre := []) (fun a10 hm => ?_)
    refine nr_doI (st := []) (nk_callV (q := (RJx4a65c, TJx4a65c, 3)) (ci := 0) (c_Jx4a65c_size_8abf5 (G := G) hl0 h7 a10) dX11_copy_39 (List.mem_singleton.mp hm) rfl rfl my_Jx4a65c_size_8abf5 im_Jx4a65c_size_8abf5 se_RJx4a65c_Jx4a65c_size_8abf5 ml_RX11_227 rfl rfl (Nat.le_of_ble_eq_true rfl) (by decide) (by decide)) (fun h11 x12 => ?_)
    refine nr_bipush (v := 12) dX11_copy_42 (by decide) ?_
    refine nr_icmp_lt (tgt := 57) dX11_copy_44 (by decide) (fun _ => ?_) (fun _ => ?_)
    · refine nr_newb (q := (RX2, TX2, 7)) 3 rfl dX11_copy_57 cl_RX11_233 ins_RX2 in_RX2 rfl (fun h13 => ?_)
      refine nr_dup dX11_copy_60 ?_
      refine nr_iload_n 1 dX11_copy_61 rfl ?_
      refine nr_iload_n 2 dX11_copy_62 rfl ?_
      refine nr_iload_n 3 dX11_copy_63 rfl ?_
      refine nr_iload_n 2 dX11_copy_64 rfl ?_
      refine nr_isub dX11_copy_65 ?_
      refine nr_iconst (v := 1) dX11_copy_66 (by decide) ?_
      refine nr_iadd dX11_copy_67 ?_
      refine nr_iload 4 dX11_copy_68 rfl ?_
      refine nr_doV (st := [.inr (some (nk_N h11))]) (nk_callI (c_X2_init (G := G) hl0 h13 (nk_N h11) v1 v2 ((v3 - v2) + 1) v4) dX11_copy_70 my_X2_init rfl im_X2_init ml_RX11_235 rfl rfl (Nat.le_of_ble_eq_true rfl) (by decide) (by decide)) (fun h14 x15 => ?_)
      refine nr_astore (lv2 := [(5, .inr (some (nk_N h11))), (0, .inr (some t0)), (1, .inl v1), (2, .inl v2), (3, .inl v3), (4, .inl v4)]) dX11_copy_73 (by decide) rfl ?_
      refine nr_aload 0 dX11_copy_75 rfl ?_
      refine nr_aload_n 1 dX11_copy_77 rfl ?_
      refine nr_getP [18] 3 dX11_copy_78 fk_RX11_32 (fun x16 => ?_)
      refine nr_iload_n 2 dX11_copy_81 rfl ?_
      refine nr_aaload 3 dX11_copy_82 (by decide) (fun x17 => ?_)
      refine nr_rcv (ks := [10]) (pre := [.inr x17]) (fun a18 hm => ?_)
      refine nr_doV (st := []) (nk_callV (q := (RX2, TX2, 7)) (ci := 3) (c_X2_takeFrom (G := G) hl0 h14 a18 x17) dX11_copy_83 (List.mem_singleton.mp hm) rfl rfl my_X2_takeFrom im_X2_takeFrom se_RX2_X2_takeFrom ml_RX11_238 rfl rfl (Nat.le_of_ble_eq_true rfl) (by decide) (by decide)) (fun h19 x20 => ?_)
      refine nr_aload_n 1 dX11_copy_86 rfl ?_
      refine nr_getP [18] 4 dX11_copy_87 fk_RX11_39 (fun x21 => ?_)
      refine nr_aload 0 dX11_copy_90 rfl ?_
      refine nr_rcv (ks := [7]) (pre := [.inr (some (nk_N h11))]) (fun a22 hm => ?_)
      refine nr_doI (st := []) (nk_callV (q := (RJx4a65c, TJx4a65c, 3)) (ci := 0) (c_Jx4a65c_add_9ea2d (G := G) hl0 h19 a22 (some (nk_N h11))) dX11_copy_92 (List.mem_singleton.mp hm) rfl rfl my_Jx4a65c_add_9ea2d im_Jx4a65c_add_9ea2d se_RJx4a65c_Jx4a65c_add_9ea2d ml_RX11_242 rfl rfl (Nat.le_of_ble_eq_true rfl) (by decide) (by decide)) (fun h23 x24 => ?_)
      refine nr_pop dX11_copy_95 ?_
      refine nr_aload_n 1 dX11_copy_96 rfl ?_
      refine nr_getP [18] 4 dX11_copy_97 fk_RX11_39 (fun x25 => ?_)
      refine nr_rcv (ks := [7]) (pre := []) (fun a26 hm => ?_)
      refine nr_doI (st := []) (nk_callV (q := (RJx4a65c, TJx4a65c, 3)) (ci := 0) (c_Jx4a65c_size_8abf5 (G := G) hl0 h23 a26) dX11_copy_100 (List.mem_singleton.mp hm) rfl rfl my_Jx4a65c_size_8abf5 im_Jx4a65c_size_8abf5 se_RJx4a65c_Jx4a65c_size_8abf5 ml_RX11_227 rfl rfl (Nat.le_of_ble_eq_true rfl) (by decide) (by decide)) (fun h27 x28 => ?_)
      refine nr_iconst (v := 1) dX11_copy_103 (by decide) ?_
      refine nr_isub dX11_copy_104 ?_
      exact nr_iret rfl rfl dX11_copy_105
    · exact nr_throw (text := "there are 12 copies") rfl (by decide +kernel) cl_RX11_70 in_java_lang_IllegalStateException (by decide +kernel) ta_RX11_74 tg_RX11_70_74 dX11_copy_47 dX11_copy_50 dX11_copy_51 dX11_copy_53 dX11_copy_56 (by decide) (Nat.le_of_ble_eq_true rfl)
  · exact nr_throw (text := "last is ahead of first") rfl (by decide +kernel) cl_RX11_134 in_java_lang_IllegalArgumentException (by decide +kernel) ta_RX11_138 tg_RX11_134_138 dX11_copy_25 dX11_copy_28 dX11_copy_29 dX11_copy_31 dX11_copy_34 (by decide) (Nat.le_of_ble_eq_true rfl)
theorem c_X11_copy {G : nk_G} {l : Launch} (hl0 : l.flags = flags0) (h : nk_H) (t0 : Nat) (v1 : Int32) (v2 : Int32) (v3 : Int32) (v4 : Int32) : nk_Con G l yX11_copy cX11_copy 6 (some FieldType.int) 8 163 nk_eIt [.inr (some t0), .inl v1, .inl v2, .inl v3, .inl v4] h (f_X11_copy h t0 v1 v2 v3 v4) :=
  nk_con (ini := false) (by decide) hl0 (Nat.le_of_ble_eq_true rfl) (by decide) (s_X11_copy hl0 h t0 v1 v2 v3 v4)
