set_option maxHeartbeats 4000000 in
theorem s_L_join {G : nk_G} {l : Launch} (hl0 : l.flags = flags0) (h : nk_H) (v0 : Option Nat) (v1 : Int32) (v2 : Int32) (v3 : Option Nat) : nk_Sim G l RL cL_join 5 (some FieldType.int) 9 145 false nk_eI 0 [(0, .inr v0), (1, .inl v1), (2, .inl v2), (3, .inr v3)] [] h (f_L_join  h v0 v1 v2 v3) := by
  unfold f_L_join
  refine nr_aload_n 3 dL_join_0 rfl ?_
  refine nr_iconst (v := 0) dL_join_1 (by decide) ?_
  refine nr_aload_n 0 dL_join_2 rfl ?_
  refine nr_iload_n 1 dL_join_3 rfl ?_
  refine nr_iload_n 2 dL_join_4 rfl ?_
  refine nr_rcv (ks := [18]) (pre := [.inl v2, .inl v1]) (fun a1 hm => ?_)
  refine nr_tryI hs_L_join (st := [.inl 0, .inr v3]) (nk_callV (q := (RX11, TX11, 9)) (ci := 11) (c_X11_join (G := G) hl0 h a1 v1 v2) dL_join_5 (List.mem_singleton.mp hm) rfl rfl my_X11_join im_X11_join se_RX11_X11_join ml_RL_7 rfl rfl (Nat.le_of_ble_eq_true rfl) (by decide) (by decide)) rfl (List.mem_of_getElem? (i := 0) rfl) ⟨⟨by decide, by decide, by decide, cl_RL_13, by decide +kernel, Or.inl ⟨_, dL_join_13, by decide, dL_join_15, dL_join_16⟩⟩, ⟨by decide, by decide, by decide, cl_RL_15, by decide +kernel, Or.inl ⟨_, dL_join_17, by decide, dL_join_19, dL_join_20⟩⟩, ⟨by decide, by decide, by decide, cl_RL_17, by decide +kernel, Or.inl ⟨_, dL_join_21, by decide, dL_join_23, dL_join_24⟩⟩, trivial⟩ (fun h2 x3 => ?_)
  refine nr_i2last dL_join_8 dL_join_9 (fun h4 => ?_)
  refine nr_goto (tgt := 25) dL_join_10 (by decide) ?_
  refine nr_iconst (v := 0) dL_join_25 (by decide) ?_
  exact nr_iret rfl rfl dL_join_26
theorem c_L_join {G : nk_G} {l : Launch} (hl0 : l.flags = flags0) (h : nk_H) (v0 : Option Nat) (v1 : Int32) (v2 : Int32) (v3 : Option Nat) : nk_ConW G l yL_join cL_join 5 (some FieldType.int) [(0, 10, 13, 13), (0, 10, 17, 15), (0, 10, 21, 17)] 9 145 nk_eI [.inr v0, .inl v1, .inl v2, .inr v3] h (f_L_join h v0 v1 v2 v3) :=
  nk_conW (ini := false) (by decide) hl0 (Nat.le_of_ble_eq_true rfl) (by decide) rfl (by decide +kernel) (s_L_join hl0 h v0 v1 v2 v3)
set_option maxHeartbeats 4000000 in
theorem s_L_cut {G : nk_G} {l : Launch} (hl0 : l.flags = flags0) (h : nk_H) (v0 : Option Nat) (v1 : Int32) (v2 : Int32) (v3 : Option Nat) : nk_Sim G l RL cL_cut 5 (some FieldType.int) 9 145 false nk_eI 0 [(0, .inr v0), (1, .inl v1), (2, .inl v2), (3, .inr v3)] [] h (f_L_cut  h v0 v1 v2 v3) := by
  unfold f_L_cut
  refine nr_aload_n 3 dL_cut_0 rfl ?_
  refine nr_iconst (v := 0) dL_cut_1 (by decide) ?_
  refine nr_aload_n 0 dL_cut_2 rfl ?_
  refine nr_iload_n 1 dL_cut_3 rfl ?_
  refine nr_iload_n 2 dL_cut_4 rfl ?_
  refine nr_rcv (ks := [18]) (pre := [.inl v2, .inl v1]) (fun a1 hm => ?_)
  refine nr_tryI hs_L_cut (st := [.inl 0, .inr v3]) (nk_callV (q := (RX11, TX11, 9)) (ci := 11) (c_X11_cut (G := G) hl0 h a1 v1 v2) dL_cut_5 (List.mem_singleton.mp hm) rfl rfl my_X11_cut im_X11_cut se_RX11_X11_cut ml_RL_19 rfl rfl (Nat.le_of_ble_eq_true rfl) (by decide) (by decide)) rfl (List.mem_of_getElem? (i := 1) rfl) ⟨⟨by decide, by decide, by decide, cl_RL_13, by decide +kernel, Or.inl ⟨_, dL_cut_13, by decide, dL_cut_15, dL_cut_16⟩⟩, ⟨by decide, by decide, by decide, cl_RL_15, by decide +kernel, Or.inl ⟨_, dL_cut_17, by decide, dL_cut_19, dL_cut_20⟩⟩, ⟨by decide, by decide, by decide, cl_RL_17, by decide +kernel, Or.inl ⟨_, dL_cut_21, by decide, dL_cut_23, dL_cut_24⟩⟩, trivial⟩ (fun h2 x3 => ?_)
  refine nr_i2last dL_cut_8 dL_cut_9 (fun h4 => ?_)
  refine nr_goto (tgt := 25) dL_cut_10 (by decide) ?_
  refine nr_iconst (v := 0) dL_cut_25 (by decide) ?_
  exact nr_iret rfl rfl dL_cut_26
theorem c_L_cut {G : nk_G} {l : Launch} (hl0 : l.flags = flags0) (h : nk_H) (v0 : Option Nat) (v1 : Int32) (v2 : Int32) (v3 : Option Nat) : nk_ConW G l yL_cut cL_cut 5 (some FieldType.int) [(0, 10, 13, 13), (0, 10, 17, 15), (0, 10, 21, 17)] 9 145 nk_eI [.inr v0, .inl v1, .inl v2, .inr v3] h (f_L_cut h v0 v1 v2 v3) :=
  nk_conW (ini := false) (by decide) hl0 (Nat.le_of_ble_eq_true rfl) (by decide) rfl (by decide +kernel) (s_L_cut hl0 h v0 v1 v2 v3)
set_option maxHeartbeats 4000000 in
theorem s_L_pass {G : nk_G} {l : Launch} (hl0 : l.flags = flags0) (h : nk_H) (v0 : Option Nat) (v1 : Int32) (v2 : Option Nat) : nk_Sim G l RL cL_pass 4 (some FieldType.int) 8 127 false nk_eI 0 [(0, .inr v0), (1, .inl v1), (2, .inr v2)] [] h (f_L_pass  h v0 v1 v2) := by
  unfold f_L_pass
  refine nr_aload_n 2 dL_pass_0 rfl ?_
  refine nr_iconst (v := 0) dL_pass_1 (by decide) ?_
  refine nr_aload_n 0 dL_pass_2 rfl ?_
  refine nr_iload_n 1 dL_pass_3 rfl ?_
  refine nr_rcv (ks := [18]) (pre := [.inl v1]) (fun a1 hm => ?_)
  refine nr_tryI hs_L_pass (st := [.inl 0, .inr v2]) (nk_callV (q := (RX11, TX11, 9)) (ci := 11) (c_X11_pass (G := G) hl0 h a1 v1) dL_pass_4 (List.mem_singleton.mp hm) rfl rfl my_X11_pass im_X11_pass se_RX11_X11_pass ml_RL_22 rfl rfl (Nat.le_of_ble_eq_true rfl) (by decide) (by decide)) rfl (List.mem_of_getElem? (i := 2) rfl) ⟨⟨by decide, by decide, by decide, cl_RL_15, by decide +kernel, Or.inr ⟨_, dL_pass_12, by decide, dL_pass_13, dL_pass_14⟩⟩, ⟨by decide, by decide, by decide, cl_RL_17, by decide +kernel, Or.inr ⟨_, dL_pass_15, by decide, dL_pass_16, dL_pass_17⟩⟩, trivial⟩ (fun h2 x3 => ?_)
  refine nr_i2last dL_pass_7 dL_pass_8 (fun h4 => ?_)
  refine nr_goto (tgt := 18) dL_pass_9 (by decide) ?_
  refine nr_iconst (v := 0) dL_pass_18 (by decide) ?_
  exact nr_iret rfl rfl dL_pass_19
theorem c_L_pass {G : nk_G} {l : Launch} (hl0 : l.flags = flags0) (h : nk_H) (v0 : Option Nat) (v1 : Int32) (v2 : Option Nat) : nk_ConW G l yL_pass cL_pass 4 (some FieldType.int) [(0, 9, 12, 15), (0, 9, 15, 17)] 8 127 nk_eI [.inr v0, .inl v1, .inr v2] h (f_L_pass h v0 v1 v2) :=
  nk_conW (ini := false) (by decide) hl0 (Nat.le_of_ble_eq_true rfl) (by decide) rfl (by decide +kernel) (s_L_pass hl0 h v0 v1 v2)
set_option maxHeartbeats 4000000 in
theorem s_L_read {G : nk_G} {l : Launch} (hl0 : l.flags = flags0) (h : nk_H) (v0 : Option Nat) (v1 : Int32) (v2 : Option Nat) : nk_Sim G l RL cL_read 4 (some FieldType.int) 8 132 false nk_eI 0 [(0, .inr v0), (1, .inl v1), (2, .inr v2)] [] h (f_L_read  h v0 v1 v2) := by
  unfold f_L_read
  refine nr_aload_n 2 dL_read_0 rfl ?_
  refine nr_iconst (v := 0) dL_read_1 (by decide) ?_
  refine nr_aload_n 0 dL_read_2 rfl ?_
  refine nr_iload_n 1 dL_read_3 rfl ?_
  refine nr_rcv (ks := [18]) (pre := [.inl v1]) (fun a1 hm => ?_)
  refine nr_tryI hs_L_read (st := [.inl 0, .inr v2]) (nk_callV (q := (RX11, TX11, 9)) (ci := 11) (c_X11_read (G := G) hl0 h a1 v1) dL_read_4 (List.mem_singleton.mp hm) rfl rfl my_X11_read im_X11_read se_RX11_X11_read ml_RL_26 rfl rfl (Nat.le_of_ble_eq_true rfl) (by decide) (by decide)) rfl (List.mem_of_getElem? (i := 3) rfl) ⟨⟨by decide, by decide, by decide, cl_RL_13, by decide +kernel, Or.inr ⟨_, dL_read_12, by decide, dL_read_13, dL_read_14⟩⟩, trivial⟩ (fun h2 x3 => ?_)
  refine nr_i2last dL_read_7 dL_read_8 (fun h4 => ?_)
  refine nr_goto (tgt := 15) dL_read_9 (by decide) ?_
  refine nr_iconst (v := 0) dL_read_15 (by decide) ?_
  exact nr_iret rfl rfl dL_read_16
theorem c_L_read {G : nk_G} {l : Launch} (hl0 : l.flags = flags0) (h : nk_H) (v0 : Option Nat) (v1 : Int32) (v2 : Option Nat) : nk_ConW G l yL_read cL_read 4 (some FieldType.int) [(0, 9, 12, 13)] 8 132 nk_eI [.inr v0, .inl v1, .inr v2] h (f_L_read h v0 v1 v2) :=
  nk_conW (ini := false) (by decide) hl0 (Nat.le_of_ble_eq_true rfl) (by decide) rfl (by decide +kernel) (s_L_read hl0 h v0 v1 v2)
set_option maxHeartbeats 4000000 in
theorem s_L_draft {G : nk_G} {l : Launch} (hl0 : l.flags = flags0) (h : nk_H) (v0 : Option Nat) (v1 : Int32) (v2 : Int32) (v3 : Int32) (v4 : Int32) (v5 : Int32) : nk_Sim G l RL cL_draft 7 (some FieldType.int) 8 129 false nk_eI 0 [(0, .inr v0), (1, .inl v1), (2, .inl v2), (3, .inl v3), (4, .inl v4), (5, .inl v5)] [] h (f_L_draft  h v0 v1 v2 v3 v4 v5) := by
  unfold f_L_draft
  refine nr_aload_n 0 dL_draft_0 rfl ?_
  refine nr_iload_n 1 dL_draft_1 rfl ?_
  refine nr_iload_n 2 dL_draft_2 rfl ?_
  refine nr_iload_n 3 dL_draft_3 rfl ?_
  refine nr_iload 4 dL_draft_4 rfl ?_
  refine nr_iload 5 dL_draft_6 rfl ?_
  refine nr_rcv (ks := [18]) (pre := [.inl v5, .inl v4, .inl v3, .inl v2, .inl v1]) (fun a1 hm => ?_)
  refine nr_tryV hs_L_draft (st := []) (nk_callV (q := (RX11, TX11, 9)) (ci := 11) (c_X11_draft (G := G) hl0 h a1 v1 v2 v3 v4 v5) dL_draft_8 (List.mem_singleton.mp hm) rfl rfl my_X11_draft im_X11_draft se_RX11_X11_draft ml_RL_29 rfl rfl (Nat.le_of_ble_eq_true rfl) (by decide) (by decide)) rfl (List.mem_of_getElem? (i := 4) rfl) ⟨⟨by decide, by decide, by decide, cl_RL_15, by decide +kernel, Or.inl ⟨_, dL_draft_14, by decide, dL_draft_16, dL_draft_17⟩⟩, trivial⟩ (fun h2 => ?_)
  refine nr_goto (tgt := 18) dL_draft_11 (by decide) ?_
  refine nr_iconst (v := 0) dL_draft_18 (by decide) ?_
  exact nr_iret rfl rfl dL_draft_19
theorem c_L_draft {G : nk_G} {l : Launch} (hl0 : l.flags = flags0) (h : nk_H) (v0 : Option Nat) (v1 : Int32) (v2 : Int32) (v3 : Int32) (v4 : Int32) (v5 : Int32) : nk_ConW G l yL_draft cL_draft 7 (some FieldType.int) [(0, 11, 14, 15)] 8 129 nk_eI [.inr v0, .inl v1, .inl v2, .inl v3, .inl v4, .inl v5] h (f_L_draft h v0 v1 v2 v3 v4 v5) :=
  nk_conW (ini := false) (by decide) hl0 (Nat.le_of_ble_eq_true rfl) (by decide) rfl (by decide +kernel) (s_L_draft hl0 h v0 v1 v2 v3 v4 v5)
set_option maxHeartbeats 4000000 in
theorem s_L_grant {G : nk_G} {l : Launch} (hl0 : l.flags = flags0) (h : nk_H) (v0 : Option Nat) (v1 : Int32) (v2 : Int32) (v3 : Int32) (v4 : Option Nat) : nk_Sim G l RL cL_grant 6 (some FieldType.int) 10 234 false nk_eI 0 [(0, .inr v0), (1, .inl v1), (2, .inl v2), (3, .inl v3), (4, .inr v4)] [] h (f_L_grant  h v0 v1 v2 v3 v4) := by
  unfold f_L_grant
  refine nr_aload 4 dL_grant_0 rfl ?_
  refine nr_iconst (v := 0) dL_grant_2 (by decide) ?_
  refine nr_aload_n 0 dL_grant_3 rfl ?_
  refine nr_iload_n 1 dL_grant_4 rfl ?_
  refine nr_iload_n 2 dL_grant_5 rfl ?_
  refine nr_iload_n 3 dL_grant_6 rfl ?_
  refine nr_rcv (ks := [18]) (pre := [.inl v3, .inl v2, .inl v1]) (fun a1 hm => ?_)
  refine nr_tryI hs_L_grant (st := [.inl 0, .inr v4]) (nk_callV (q := (RX11, TX11, 9)) (ci := 11) (c_X11_grant (G := G) hl0 h a1 v1 v2 v3) dL_grant_7 (List.mem_singleton.mp hm) rfl rfl my_X11_grant im_X11_grant se_RX11_X11_grant ml_RL_33 rfl rfl (Nat.le_of_ble_eq_true rfl) (by decide) (by decide)) rfl (List.mem_of_getElem? (i := 5) rfl) ⟨⟨by decide, by decide, by decide, cl_RL_13, by decide +kernel, Or.inl ⟨_, dL_grant_15, by decide, dL_grant_17, dL_grant_18⟩⟩, ⟨by decide, by decide, by decide, cl_RL_15, by decide +kernel, Or.inl ⟨_, dL_grant_19, by decide, dL_grant_21, dL_grant_22⟩⟩, ⟨by decide, by decide, by decide, cl_RL_17, by decide +kernel, Or.inl ⟨_, dL_grant_23, by decide, dL_grant_25, dL_grant_26⟩⟩, trivial⟩ (fun h2 x3 => ?_)
  refine nr_i2last dL_grant_10 dL_grant_11 (fun h4 => ?_)
  refine nr_goto (tgt := 27) dL_grant_12 (by decide) ?_
  refine nr_iconst (v := 0) dL_grant_27 (by decide) ?_
  exact nr_iret rfl rfl dL_grant_28
theorem c_L_grant {G : nk_G} {l : Launch} (hl0 : l.flags = flags0) (h : nk_H) (v0 : Option Nat) (v1 : Int32) (v2 : Int32) (v3 : Int32) (v4 : Option Nat) : nk_ConW G l yL_grant cL_grant 6 (some FieldType.int) [(0, 12, 15, 13), (0, 12, 19, 15), (0, 12, 23, 17)] 10 234 nk_eI [.inr v0, .inl v1, .inl v2, .inl v3, .inr v4] h (f_L_grant h v0 v1 v2 v3 v4) :=
  nk_conW (ini := false) (by decide) hl0 (Nat.le_of_ble_eq_true rfl) (by decide) rfl (by decide +kernel) (s_L_grant hl0 h v0 v1 v2 v3 v4)
set_option maxHeartbeats 4000000 in
theorem s_L_passOn {G : nk_G} {l : Launch} (hl0 : l.flags = flags0) (h : nk_H) (v0 : Option Nat) (v1 : Int32) (v2 : Int32) (v3 : Int32) (v4 : Option Nat) : nk_Sim G l RL cL_passOn 6 (some FieldType.int) 10 235 false nk_eI 0 [(0, .inr v0), (1, .inl v1), (2, .inl v2), (3, .inl v3), (4, .inr v4)] [] h (f_L_passOn  h v0 v1 v2 v3 v4) := by
  unfold f_L_passOn
  refine nr_aload 4 dL_passOn_0 rfl ?_
  refine nr_iconst (v := 0) dL_passOn_2 (by decide) ?_
  refine nr_aload_n 0 dL_passOn_3 rfl ?_
  refine nr_iload_n 1 dL_passOn_4 rfl ?_
  refine nr_iload_n 2 dL_passOn_5 rfl ?_
  refine nr_iload_n 3 dL_passOn_6 rfl ?_
  refine nr_rcv (ks := [18]) (pre := [.inl v3, .inl v2, .inl v1]) (fun a1 hm => ?_)
  refine nr_tryI hs_L_passOn (st := [.inl 0, .inr v4]) (nk_callV (q := (RX11, TX11, 9)) (ci := 11) (c_X11_passOn (G := G) hl0 h a1 v1 v2 v3) dL_passOn_7 (List.mem_singleton.mp hm) rfl rfl my_X11_passOn im_X11_passOn se_RX11_X11_passOn ml_RL_37 rfl rfl (Nat.le_of_ble_eq_true rfl) (by decide) (by decide)) rfl (List.mem_of_getElem? (i := 6) rfl) ⟨⟨by decide, by decide, by decide, cl_RL_13, by decide +kernel, Or.inl ⟨_, dL_passOn_15, by decide, dL_passOn_17, dL_passOn_18⟩⟩, ⟨by decide, by decide, by decide, cl_RL_15, by decide +kernel, Or.inl ⟨_, dL_passOn_19, by decide, dL_passOn_21, dL_passOn_22⟩⟩, ⟨by decide, by decide, by decide, cl_RL_17, by decide +kernel, Or.inl ⟨_, dL_passOn_23, by decide, dL_passOn_25, dL_passOn_26⟩⟩, trivial⟩ (fun h2 x3 => ?_)
  refine nr_i2last dL_passOn_10 dL_passOn_11 (fun h4 => ?_)
  refine nr_goto (tgt := 27) dL_passOn_12 (by decide) ?_
  refine nr_iconst (v := 0) dL_passOn_27 (by decide) ?_
  exact nr_iret rfl rfl dL_passOn_28
theorem c_L_passOn {G : nk_G} {l : Launch} (hl0 : l.flags = flags0) (h : nk_H) (v0 : Option Nat) (v1 : Int32) (v2 : Int32) (v3 : Int32) (v4 : Option Nat) : nk_ConW G l yL_passOn cL_passOn 6 (some FieldType.int) [(0, 12, 15, 13), (0, 12, 19, 15), (0, 12, 23, 17)] 10 235 nk_eI [.inr v0, .inl v1, .inl v2, .inl v3, .inr v4] h (f_L_passOn h v0 v1 v2 v3 v4) :=
  nk_conW (ini := false) (by decide) hl0 (Nat.le_of_ble_eq_true rfl) (by decide) rfl (by decide +kernel) (s_L_passOn hl0 h v0 v1 v2 v3 v4)
set_option maxHeartbeats 4000000 in
theorem s_L_revoke {G : nk_G} {l : Launch} (hl0 : l.flags = flags0) (h : nk_H) (v0 : Option Nat) (v1 : Int32) (v2 : Int32) (v3 : Int32) (v4 : Option Nat) : nk_Sim G l RL cL_revoke 6 (some FieldType.int) 9 210 false nk_eI 0 [(0, .inr v0), (1, .inl v1), (2, .inl v2), (3, .inl v3), (4, .inr v4)] [] h (f_L_revoke  h v0 v1 v2 v3 v4) := by
  unfold f_L_revoke
  refine nr_aload 4 dL_revoke_0 rfl ?_
  refine nr_iconst (v := 0) dL_revoke_2 (by decide) ?_
  refine nr_aload_n 0 dL_revoke_3 rfl ?_
  refine nr_iload_n 1 dL_revoke_4 rfl ?_
  refine nr_iload_n 2 dL_revoke_5 rfl ?_
  refine nr_iload_n 3 dL_revoke_6 rfl ?_
  refine nr_rcv (ks := [18]) (pre := [.inl v3, .inl v2, .inl v1]) (fun a1 hm => ?_)
  refine nr_tryI hs_L_revoke (st := [.inl 0, .inr v4]) (nk_callV (q := (RX11, TX11, 9)) (ci := 11) (c_X11_revoke (G := G) hl0 h a1 v1 v2 v3) dL_revoke_7 (List.mem_singleton.mp hm) rfl rfl my_X11_revoke im_X11_revoke se_RX11_X11_revoke ml_RL_40 rfl rfl (Nat.le_of_ble_eq_true rfl) (by decide) (by decide)) rfl (List.mem_of_getElem? (i := 7) rfl) ⟨⟨by decide, by decide, by decide, cl_RL_13, by decide +kernel, Or.inl ⟨_, dL_revoke_15, by decide, dL_revoke_17, dL_revoke_18⟩⟩, ⟨by decide, by decide, by decide, cl_RL_15, by decide +kernel, Or.inl ⟨_, dL_revoke_19, by decide, dL_revoke_21, dL_revoke_22⟩⟩, ⟨by decide, by decide, by decide, cl_RL_17, by decide +kernel, Or.inl ⟨_, dL_revoke_23, by decide, dL_revoke_25, dL_revoke_26⟩⟩, trivial⟩ (fun h2 x3 => ?_)
  refine nr_i2last dL_revoke_10 dL_revoke_11 (fun h4 => ?_)
  refine nr_goto (tgt := 27) dL_revoke_12 (by decide) ?_
  refine nr_iconst (v := 0) dL_revoke_27 (by decide) ?_
  exact nr_iret rfl rfl dL_revoke_28
theorem c_L_revoke {G : nk_G} {l : Launch} (hl0 : l.flags = flags0) (h : nk_H) (v0 : Option Nat) (v1 : Int32) (v2 : Int32) (v3 : Int32) (v4 : Option Nat) : nk_ConW G l yL_revoke cL_revoke 6 (some FieldType.int) [(0, 12, 15, 13), (0, 12, 19, 15), (0, 12, 23, 17)] 9 210 nk_eI [.inr v0, .inl v1, .inl v2, .inl v3, .inr v4] h (f_L_revoke h v0 v1 v2 v3 v4) :=
  nk_conW (ini := false) (by decide) hl0 (Nat.le_of_ble_eq_true rfl) (by decide) rfl (by decide +kernel) (s_L_revoke hl0 h v0 v1 v2 v3 v4)
set_option maxHeartbeats 4000000 in
theorem s_L_depute {G : nk_G} {l : Launch} (hl0 : l.flags = flags0) (h : nk_H) (v0 : Option Nat) (v1 : Int32) (v2 : Int32) (v3 : Int32) (v4 : Option Nat) : nk_Sim G l RL cL_depute 6 (some FieldType.int) 9 211 false nk_eI 0 [(0, .inr v0), (1, .inl v1), (2, .inl v2), (3, .inl v3), (4, .inr v4)] [] h (f_L_depute  h v0 v1 v2 v3 v4) := by
  unfold f_L_depute
  refine nr_aload 4 dL_depute_0 rfl ?_
  refine nr_iconst (v := 0) dL_depute_2 (by decide) ?_
  refine nr_aload_n 0 dL_depute_3 rfl ?_
  refine nr_iload_n 1 dL_depute_4 rfl ?_
  refine nr_iload_n 2 dL_depute_5 rfl ?_
  refine nr_iload_n 3 dL_depute_6 rfl ?_
  refine nr_rcv (ks := [18]) (pre := [.inl v3, .inl v2, .inl v1]) (fun a1 hm => ?_)
  refine nr_tryI hs_L_depute (st := [.inl 0, .inr v4]) (nk_callV (q := (RX11, TX11, 9)) (ci := 11) (c_X11_depute (G := G) hl0 h a1 v1 v2 v3) dL_depute_7 (List.mem_singleton.mp hm) rfl rfl my_X11_depute im_X11_depute se_RX11_X11_depute ml_RL_43 rfl rfl (Nat.le_of_ble_eq_true rfl) (by decide) (by decide)) rfl (List.mem_of_getElem? (i := 8) rfl) ⟨⟨by decide, by decide, by decide, cl_RL_13, by decide +kernel, Or.inl ⟨_, dL_depute_15, by decide, dL_depute_17, dL_depute_18⟩⟩, ⟨by decide, by decide, by decide, cl_RL_15, by decide +kernel, Or.inl ⟨_, dL_depute_19, by decide, dL_depute_21, dL_depute_22⟩⟩, ⟨by decide, by decide, by decide, cl_RL_17, by decide +kernel, Or.inl ⟨_, dL_depute_23, by decide, dL_depute_25, dL_depute_26⟩⟩, trivial⟩ (fun h2 x3 => ?_)
  refine nr_i2last dL_depute_10 dL_depute_11 (fun h4 => ?_)
  refine nr_goto (tgt := 27) dL_depute_12 (by decide) ?_
  refine nr_iconst (v := 0) dL_depute_27 (by decide) ?_
  exact nr_iret rfl rfl dL_depute_28
theorem c_L_depute {G : nk_G} {l : Launch} (hl0 : l.flags = flags0) (h : nk_H) (v0 : Option Nat) (v1 : Int32) (v2 : Int32) (v3 : Int32) (v4 : Option Nat) : nk_ConW G l yL_depute cL_depute 6 (some FieldType.int) [(0, 12, 15, 13), (0, 12, 19, 15), (0, 12, 23, 17)] 9 211 nk_eI [.inr v0, .inl v1, .inl v2, .inl v3, .inr v4] h (f_L_depute h v0 v1 v2 v3 v4) :=
  nk_conW (ini := false) (by decide) hl0 (Nat.le_of_ble_eq_true rfl) (by decide) rfl (by decide +kernel) (s_L_depute hl0 h v0 v1 v2 v3 v4)
set_option maxHeartbeats 4000000 in
theorem s_L_prepare {G : nk_G} {l : Launch} (hl0 : l.flags = flags0) (h : nk_H) (v0 : Option Nat) (v1 : Int32) (v2 : Int32) : nk_Sim G l RL cL_prepare 4 (some FieldType.int) 8 126 false nk_eI 0 [(0, .inr v0), (1, .inl v1), (2, .inl v2)] [] h (f_L_prepare  h v0 v1 v2) := by
  unfold f_L_prepare
  refine nr_aload_n 0 dL_prepare_0 rfl ?_
  refine nr_iload_n 1 dL_prepare_1 rfl ?_
  refine nr_iload_n 2 dL_prepare_2 rfl ?_
  refine nr_rcv (ks := [18]) (pre := [.inl v2, .inl v1]) (fun a1 hm => ?_)
  refine nr_tryV hs_L_prepare (st := []) (nk_callV (q := (RX11, TX11, 9)) (ci := 11) (c_X11_prepare (G := G) hl0 h a1 v1 v2) dL_prepare_3 (List.mem_singleton.mp hm) rfl rfl my_X11_prepare im_X11_prepare se_RX11_X11_prepare ml_RL_46 rfl rfl (Nat.le_of_ble_eq_true rfl) (by decide) (by decide)) rfl (List.mem_of_getElem? (i := 9) rfl) ⟨⟨by decide, by decide, by decide, cl_RL_15, by decide +kernel, Or.inr ⟨_, dL_prepare_9, by decide, dL_prepare_10, dL_prepare_11⟩⟩, trivial⟩ (fun h2 => ?_)
  refine nr_goto (tgt := 12) dL_prepare_6 (by decide) ?_
  refine nr_iconst (v := 0) dL_prepare_12 (by decide) ?_
  exact nr_iret rfl rfl dL_prepare_13
theorem c_L_prepare {G : nk_G} {l : Launch} (hl0 : l.flags = flags0) (h : nk_H) (v0 : Option Nat) (v1 : Int32) (v2 : Int32) : nk_ConW G l yL_prepare cL_prepare 4 (some FieldType.int) [(0, 6, 9, 15)] 8 126 nk_eI [.inr v0, .inl v1, .inl v2] h (f_L_prepare h v0 v1 v2) :=
  nk_conW (ini := false) (by decide) hl0 (Nat.le_of_ble_eq_true rfl) (by decide) rfl (by decide +kernel) (s_L_prepare hl0 h v0 v1 v2)
set_option maxHeartbeats 4000000 in
theorem s_L_act {G : nk_G} {l : Launch} (hl0 : l.flags = flags0) (h : nk_H) (v0 : Option Nat) (v1 : Int32) (v2 : Int32) (v3 : Int32) (v4 : Int32) (v5 : Option Nat) : nk_Sim G l RL cL_act 7 (some FieldType.int) 9 213 false nk_eI 0 [(0, .inr v0), (1, .inl v1), (2, .inl v2), (3, .inl v3), (4, .inl v4), (5, .inr v5)] [] h (f_L_act  h v0 v1 v2 v3 v4 v5) := by
  unfold f_L_act
  refine nr_aload 5 dL_act_0 rfl ?_
  refine nr_iconst (v := 0) dL_act_2 (by decide) ?_
  refine nr_aload_n 0 dL_act_3 rfl ?_
  refine nr_iload_n 1 dL_act_4 rfl ?_
  refine nr_iload_n 2 dL_act_5 rfl ?_
  refine nr_iload_n 3 dL_act_6 rfl ?_
  refine nr_iload 4 dL_act_7 rfl ?_
  refine nr_rcv (ks := [18]) (pre := [.inl v4, .inl v3, .inl v2, .inl v1]) (fun a1 hm => ?_)
  refine nr_tryI hs_L_act (st := [.inl 0, .inr v5]) (nk_callV (q := (RX11, TX11, 9)) (ci := 11) (c_X11_act (G := G) hl0 h a1 v1 v2 v3 v4) dL_act_9 (List.mem_singleton.mp hm) rfl rfl my_X11_act im_X11_act se_RX11_X11_act ml_RL_50 rfl rfl (Nat.le_of_ble_eq_true rfl) (by decide) (by decide)) rfl (List.mem_of_getElem? (i := 10) rfl) ⟨⟨by decide, by decide, by decide, cl_RL_13, by decide +kernel, Or.inl ⟨_, dL_act_17, by decide, dL_act_19, dL_act_20⟩⟩, ⟨by decide, by decide, by decide, cl_RL_15, by decide +kernel, Or.inl ⟨_, dL_act_21, by decide, dL_act_23, dL_act_24⟩⟩, ⟨by decide, by decide, by decide, cl_RL_17, by decide +kernel, Or.inl ⟨_, dL_act_25, by decide, dL_act_27, dL_act_28⟩⟩, trivial⟩ (fun h2 x3 => ?_)
  refine nr_i2last dL_act_12 dL_act_13 (fun h4 => ?_)
  refine nr_goto (tgt := 29) dL_act_14 (by decide) ?_
  refine nr_iconst (v := 0) dL_act_29 (by decide) ?_
  exact nr_iret rfl rfl dL_act_30
theorem c_L_act {G : nk_G} {l : Launch} (hl0 : l.flags = flags0) (h : nk_H) (v0 : Option Nat) (v1 : Int32) (v2 : Int32) (v3 : Int32) (v4 : Int32) (v5 : Option Nat) : nk_ConW G l yL_act cL_act 7 (some FieldType.int) [(0, 14, 17, 13), (0, 14, 21, 15), (0, 14, 25, 17)] 9 213 nk_eI [.inr v0, .inl v1, .inl v2, .inl v3, .inl v4, .inr v5] h (f_L_act h v0 v1 v2 v3 v4 v5) :=
  nk_conW (ini := false) (by decide) hl0 (Nat.le_of_ble_eq_true rfl) (by decide) rfl (by decide +kernel) (s_L_act hl0 h v0 v1 v2 v3 v4 v5)
set_option maxHeartbeats 4000000 in
theorem s_L_tamper {G : nk_G} {l : Launch} (hl0 : l.flags = flags0) (h : nk_H) (v0 : Option Nat) (v1 : Int32) (v2 : Int32) (v3 : Int32) (v4 : Option Nat) : nk_Sim G l RL cL_tamper 6 (some FieldType.int) 9 149 false nk_eI 0 [(0, .inr v0), (1, .inl v1), (2, .inl v2), (3, .inl v3), (4, .inr v4)] [] h (f_L_tamper  h v0 v1 v2 v3 v4) := by
  unfold f_L_tamper
  refine nr_aload 4 dL_tamper_0 rfl ?_
  refine nr_iconst (v := 0) dL_tamper_2 (by decide) ?_
  refine nr_aload_n 0 dL_tamper_3 rfl ?_
  refine nr_iload_n 1 dL_tamper_4 rfl ?_
  refine nr_iload_n 2 dL_tamper_5 rfl ?_
  refine nr_iload_n 3 dL_tamper_6 rfl ?_
  refine nr_rcv (ks := [18]) (pre := [.inl v3, .inl v2, .inl v1]) (fun a1 hm => ?_)
  refine nr_tryI hs_L_tamper (st := [.inl 0, .inr v4]) (nk_callV (q := (RX11, TX11, 9)) (ci := 11) (c_X11_tamper (G := G) hl0 h a1 v1 v2 v3) dL_tamper_7 (List.mem_singleton.mp hm) rfl rfl my_X11_tamper im_X11_tamper se_RX11_X11_tamper ml_RL_54 rfl rfl (Nat.le_of_ble_eq_true rfl) (by decide) (by decide)) rfl (List.mem_of_getElem? (i := 11) rfl) ⟨⟨by decide, by decide, by decide, cl_RL_13, by decide +kernel, Or.inl ⟨_, dL_tamper_15, by decide, dL_tamper_17, dL_tamper_18⟩⟩, ⟨by decide, by decide, by decide, cl_RL_15, by decide +kernel, Or.inl ⟨_, dL_tamper_19, by decide, dL_tamper_21, dL_tamper_22⟩⟩, trivial⟩ (fun h2 x3 => ?_)
  refine nr_i2last dL_tamper_10 dL_tamper_11 (fun h4 => ?_)
  refine nr_goto (tgt := 23) dL_tamper_12 (by decide) ?_
  refine nr_iconst (v := 0) dL_tamper_23 (by decide) ?_
  exact nr_iret rfl rfl dL_tamper_24
theorem c_L_tamper {G : nk_G} {l : Launch} (hl0 : l.flags = flags0) (h : nk_H) (v0 : Option Nat) (v1 : Int32) (v2 : Int32) (v3 : Int32) (v4 : Option Nat) : nk_ConW G l yL_tamper cL_tamper 6 (some FieldType.int) [(0, 12, 15, 13), (0, 12, 19, 15)] 9 149 nk_eI [.inr v0, .inl v1, .inl v2, .inl v3, .inr v4] h (f_L_tamper h v0 v1 v2 v3 v4) :=
  nk_conW (ini := false) (by decide) hl0 (Nat.le_of_ble_eq_true rfl) (by decide) rfl (by decide +kernel) (s_L_tamper hl0 h v0 v1 v2 v3 v4)
set_option maxHeartbeats 4000000 in
theorem s_L_copy {G : nk_G} {l : Launch} (hl0 : l.flags = flags0) (h : nk_H) (v0 : Option Nat) (v1 : Int32) (v2 : Int32) (v3 : Int32) (v4 : Int32) (v5 : Option Nat) : nk_Sim G l RL cL_copy 7 (some FieldType.int) 9 188 false nk_eI 0 [(0, .inr v0), (1, .inl v1), (2, .inl v2), (3, .inl v3), (4, .inl v4), (5, .inr v5)] [] h (f_L_copy  h v0 v1 v2 v3 v4 v5) := by
  unfold f_L_copy
  refine nr_aload 5 dL_copy_0 rfl ?_
  refine nr_iconst (v := 0) dL_copy_2 (by decide) ?_
  refine nr_aload_n 0 dL_copy_3 rfl ?_
  refine nr_iload_n 1 dL_copy_4 rfl ?_
  refine nr_iload_n 2 dL_copy_5 rfl ?_
  refine nr_iload_n 3 dL_copy_6 rfl ?_
  refine nr_iload 4 dL_copy_7 rfl ?_
  refine nr_rcv (ks := [18]) (pre := [.inl v4, .inl v3, .inl v2, .inl v1]) (fun a1 hm => ?_)
  refine nr_tryI hs_L_copy (st := [.inl 0, .inr v5]) (nk_callV (q := (RX11, TX11, 9)) (ci := 11) (c_X11_copy (G := G) hl0 h a1 v1 v2 v3 v4) dL_copy_9 (List.mem_singleton.mp hm) rfl rfl my_X11_copy im_X11_copy se_RX11_X11_copy ml_RL_57 rfl rfl (Nat.le_of_ble_eq_true rfl) (by decide) (by decide)) rfl (List.mem_of_getElem? (i := 12) rfl) ⟨⟨by decide, by decide, by decide, cl_RL_13, by decide +kernel, Or.inl ⟨_, dL_copy_17, by decide, dL_copy_19, dL_copy_20⟩⟩, ⟨by decide, by decide, by decide, cl_RL_15, by decide +kernel, Or.inl ⟨_, dL_copy_21, by decide, dL_copy_23, dL_copy_24⟩⟩, ⟨by decide, by decide, by decide, cl_RL_17, by decide +kernel, Or.inl ⟨_, dL_copy_25, by decide, dL_copy_27, dL_copy_28⟩⟩, trivial⟩ (fun h2 x3 => ?_)
  refine nr_i2last dL_copy_12 dL_copy_13 (fun h4 => ?_)
  refine nr_goto (tgt := 29) dL_copy_14 (by decide) ?_
  refine nr_iconst (v := 0) dL_copy_29 (by decide) ?_
  exact nr_iret rfl rfl dL_copy_30
theorem c_L_copy {G : nk_G} {l : Launch} (hl0 : l.flags = flags0) (h : nk_H) (v0 : Option Nat) (v1 : Int32) (v2 : Int32) (v3 : Int32) (v4 : Int32) (v5 : Option Nat) : nk_ConW G l yL_copy cL_copy 7 (some FieldType.int) [(0, 14, 17, 13), (0, 14, 21, 15), (0, 14, 25, 17)] 9 188 nk_eI [.inr v0, .inl v1, .inl v2, .inl v3, .inl v4, .inr v5] h (f_L_copy h v0 v1 v2 v3 v4 v5) :=
  nk_conW (ini := false) (by decide) hl0 (Nat.le_of_ble_eq_true rfl) (by decide) rfl (by decide +kernel) (s_L_copy hl0 h v0 v1 v2 v3 v4 v5)
set_option maxHeartbeats 4000000 in
theorem s_L_forge {G : nk_G} {l : Launch} (hl0 : l.flags = flags0) (h : nk_H) (v0 : Option Nat) (v1 : Int32) (v2 : Int32) (v3 : Int32) (v4 : Int32) (v5 : Option Nat) : nk_Sim G l RL cL_forge 7 (some FieldType.int) 9 151 false nk_eI 0 [(0, .inr v0), (1, .inl v1), (2, .inl v2), (3, .inl v3), (4, .inl v4), (5, .inr v5)] [] h (f_L_forge  h v0 v1 v2 v3 v4 v5) := by
  unfold f_L_forge
  refine nr_aload 5 dL_forge_0 rfl ?_
  refine nr_iconst (v := 0) dL_forge_2 (by decide) ?_
  refine nr_aload_n 0 dL_forge_3 rfl ?_
  refine nr_iload_n 1 dL_forge_4 rfl ?_
  refine nr_iload_n 2 dL_forge_5 rfl ?_
  refine nr_iload_n 3 dL_forge_6 rfl ?_
  refine nr_iload 4 dL_forge_7 rfl ?_
  refine nr_rcv (ks := [18]) (pre := [.inl v4, .inl v3, .inl v2, .inl v1]) (fun a1 hm => ?_)
  refine nr_tryI hs_L_forge (st := [.inl 0, .inr v5]) (nk_callV (q := (RX11, TX11, 9)) (ci := 11) (c_X11_forge (G := G) hl0 h a1 v1 v2 v3 v4) dL_forge_9 (List.mem_singleton.mp hm) rfl rfl my_X11_forge im_X11_forge se_RX11_X11_forge ml_RL_60 rfl rfl (Nat.le_of_ble_eq_true rfl) (by decide) (by decide)) rfl (List.mem_of_getElem? (i := 13) rfl) ⟨⟨by decide, by decide, by decide, cl_RL_13, by decide +kernel, Or.inl ⟨_, dL_forge_17, by decide, dL_forge_19, dL_forge_20⟩⟩, ⟨by decide, by decide, by decide, cl_RL_15, by decide +kernel, Or.inl ⟨_, dL_forge_21, by decide, dL_forge_23, dL_forge_24⟩⟩, ⟨by decide, by decide, by decide, cl_RL_17, by decide +kernel, Or.inl ⟨_, dL_forge_25, by decide, dL_forge_27, dL_forge_28⟩⟩, trivial⟩ (fun h2 x3 => ?_)
  refine nr_i2last dL_forge_12 dL_forge_13 (fun h4 => ?_)
  refine nr_goto (tgt := 29) dL_forge_14 (by decide) ?_
  refine nr_iconst (v := 0) dL_forge_29 (by decide) ?_
  exact nr_iret rfl rfl dL_forge_30
theorem c_L_forge {G : nk_G} {l : Launch} (hl0 : l.flags = flags0) (h : nk_H) (v0 : Option Nat) (v1 : Int32) (v2 : Int32) (v3 : Int32) (v4 : Int32) (v5 : Option Nat) : nk_ConW G l yL_forge cL_forge 7 (some FieldType.int) [(0, 14, 17, 13), (0, 14, 21, 15), (0, 14, 25, 17)] 9 151 nk_eI [.inr v0, .inl v1, .inl v2, .inl v3, .inl v4, .inr v5] h (f_L_forge h v0 v1 v2 v3 v4 v5) :=
  nk_conW (ini := false) (by decide) hl0 (Nat.le_of_ble_eq_true rfl) (by decide) rfl (by decide +kernel) (s_L_forge hl0 h v0 v1 v2 v3 v4 v5)
set_option maxHeartbeats 4000000 in
theorem s_L_records {G : nk_G} {l : Launch} (hl0 : l.flags = flags0) (h : nk_H) (v0 : Option Nat) (v1 : Int32) (v2 : Option Nat) : nk_Sim G l RL cL_records 4 (some FieldType.int) 8 123 false nk_eI 0 [(0, .inr v0), (1, .inl v1), (2, .inr v2)] [] h (f_L_records  h v0 v1 v2) := by
  unfold f_L_records
  refine nr_aload_n 2 dL_records_0 rfl ?_
  refine nr_iconst (v := 0) dL_records_1 (by decide) ?_
  refine nr_aload_n 0 dL_records_2 rfl ?_
  refine nr_iload_n 1 dL_records_3 rfl ?_
  refine nr_rcv (ks := [18]) (pre := [.inl v1]) (fun a1 hm => ?_)
  refine nr_tryI hs_L_records (st := [.inl 0, .inr v2]) (nk_callV (q := (RX11, TX11, 9)) (ci := 11) (c_X11_records (G := G) hl0 h a1 v1) dL_records_4 (List.mem_singleton.mp hm) rfl rfl my_X11_records im_X11_records se_RX11_X11_records ml_RL_63 rfl rfl (Nat.le_of_ble_eq_true rfl) (by decide) (by decide)) rfl (List.mem_of_getElem? (i := 14) rfl) ⟨⟨by decide, by decide, by decide, cl_RL_13, by decide +kernel, Or.inr ⟨_, dL_records_12, by decide, dL_records_13, dL_records_14⟩⟩, trivial⟩ (fun h2 x3 => ?_)
  refine nr_i2last dL_records_7 dL_records_8 (fun h4 => ?_)
  refine nr_goto (tgt := 15) dL_records_9 (by decide) ?_
  refine nr_iconst (v := 0) dL_records_15 (by decide) ?_
  exact nr_iret rfl rfl dL_records_16
theorem c_L_records {G : nk_G} {l : Launch} (hl0 : l.flags = flags0) (h : nk_H) (v0 : Option Nat) (v1 : Int32) (v2 : Option Nat) : nk_ConW G l yL_records cL_records 4 (some FieldType.int) [(0, 9, 12, 13)] 8 123 nk_eI [.inr v0, .inl v1, .inr v2] h (f_L_records h v0 v1 v2) :=
  nk_conW (ini := false) (by decide) hl0 (Nat.le_of_ble_eq_true rfl) (by decide) rfl (by decide +kernel) (s_L_records hl0 h v0 v1 v2)
set_option maxHeartbeats 4000000 in
theorem s_L_areJoined {G : nk_G} {l : Launch} (hl0 : l.flags = flags0) (h : nk_H) (v0 : Option Nat) (v1 : Int32) (v2 : Int32) (v3 : Option Nat) : nk_Sim G l RL cL_areJoined 5 (some FieldType.int) 8 124 false nk_eI 0 [(0, .inr v0), (1, .inl v1), (2, .inl v2), (3, .inr v3)] [] h (f_L_areJoined  h v0 v1 v2 v3) := by
  unfold f_L_areJoined
  refine nr_aload_n 3 dL_areJoined_0 rfl ?_
  refine nr_iconst (v := 0) dL_areJoined_1 (by decide) ?_
  refine nr_aload_n 0 dL_areJoined_2 rfl ?_
  refine nr_iload_n 1 dL_areJoined_3 rfl ?_
  refine nr_iload_n 2 dL_areJoined_4 rfl ?_
  refine nr_rcv (ks := [18]) (pre := [.inl v2, .inl v1]) (fun a1 hm => ?_)
  refine nr_tryI hs_L_areJoined (st := [.inl 0, .inr v3]) (nk_callV (q := (RX11, TX11, 9)) (ci := 11) (c_X11_areJoined (G := G) hl0 h a1 v1 v2) dL_areJoined_5 (List.mem_singleton.mp hm) rfl rfl my_X11_areJoined im_X11_areJoined se_RX11_X11_areJoined ml_RL_66 rfl rfl (Nat.le_of_ble_eq_true rfl) (by decide) (by decide)) rfl (List.mem_of_getElem? (i := 15) rfl) ⟨⟨by decide, by decide, by decide, cl_RL_13, by decide +kernel, Or.inl ⟨_, dL_areJoined_20, by decide, dL_areJoined_22, dL_areJoined_23⟩⟩, trivial⟩ (fun h2 x3 => ?_)
  refine nr_zlast dL_areJoined_8 (by decide) dL_areJoined_11 dL_areJoined_12 (by decide) dL_areJoined_15 dL_areJoined_16 (fun h4 => ?_)
  refine nr_goto (tgt := 24) dL_areJoined_17 (by decide) ?_
  refine nr_iconst (v := 0) dL_areJoined_24 (by decide) ?_
  exact nr_iret rfl rfl dL_areJoined_25
theorem c_L_areJoined {G : nk_G} {l : Launch} (hl0 : l.flags = flags0) (h : nk_H) (v0 : Option Nat) (v1 : Int32) (v2 : Int32) (v3 : Option Nat) : nk_ConW G l yL_areJoined cL_areJoined 5 (some FieldType.int) [(0, 17, 20, 13)] 8 124 nk_eI [.inr v0, .inl v1, .inl v2, .inr v3] h (f_L_areJoined h v0 v1 v2 v3) :=
  nk_conW (ini := false) (by decide) hl0 (Nat.le_of_ble_eq_true rfl) (by decide) rfl (by decide +kernel) (s_L_areJoined hl0 h v0 v1 v2 v3)
set_option maxHeartbeats 4000000 in
theorem s_L_came {G : nk_G} {l : Launch} (hl0 : l.flags = flags0) (h : nk_H) (v0 : Option Nat) (v1 : Int32) (v2 : Int32) (v3 : Option Nat) : nk_Sim G l RL cL_came 5 (some FieldType.int) 8 125 false nk_eI 0 [(0, .inr v0), (1, .inl v1), (2, .inl v2), (3, .inr v3)] [] h (f_L_came  h v0 v1 v2 v3) := by
  unfold f_L_came
  refine nr_aload_n 3 dL_came_0 rfl ?_
  refine nr_iconst (v := 0) dL_came_1 (by decide) ?_
  refine nr_aload_n 0 dL_came_2 rfl ?_
  refine nr_iload_n 1 dL_came_3 rfl ?_
  refine nr_iload_n 2 dL_came_4 rfl ?_
  refine nr_rcv (ks := [18]) (pre := [.inl v2, .inl v1]) (fun a1 hm => ?_)
  refine nr_tryI hs_L_came (st := [.inl 0, .inr v3]) (nk_callV (q := (RX11, TX11, 9)) (ci := 11) (c_X11_came (G := G) hl0 h a1 v1 v2) dL_came_5 (List.mem_singleton.mp hm) rfl rfl my_X11_came im_X11_came se_RX11_X11_came ml_RL_70 rfl rfl (Nat.le_of_ble_eq_true rfl) (by decide) (by decide)) rfl (List.mem_of_getElem? (i := 16) rfl) ⟨⟨by decide, by decide, by decide, cl_RL_13, by decide +kernel, Or.inl ⟨_, dL_came_13, by decide, dL_came_15, dL_came_16⟩⟩, trivial⟩ (fun h2 x3 => ?_)
  refine nr_i2last dL_came_8 dL_came_9 (fun h4 => ?_)
  refine nr_goto (tgt := 17) dL_came_10 (by decide) ?_
  refine nr_iconst (v := 0) dL_came_17 (by decide) ?_
  exact nr_iret rfl rfl dL_came_18
theorem c_L_came {G : nk_G} {l : Launch} (hl0 : l.flags = flags0) (h : nk_H) (v0 : Option Nat) (v1 : Int32) (v2 : Int32) (v3 : Option Nat) : nk_ConW G l yL_came cL_came 5 (some FieldType.int) [(0, 10, 13, 13)] 8 125 nk_eI [.inr v0, .inl v1, .inl v2, .inr v3] h (f_L_came h v0 v1 v2 v3) :=
  nk_conW (ini := false) (by decide) hl0 (Nat.le_of_ble_eq_true rfl) (by decide) rfl (by decide +kernel) (s_L_came hl0 h v0 v1 v2 v3)
set_option maxHeartbeats 4000000 in
theorem s_L_cameByLinks {G : nk_G} {l : Launch} (hl0 : l.flags = flags0) (h : nk_H) (v0 : Option Nat) (v1 : Int32) (v2 : Int32) (v3 : Option Nat) : nk_Sim G l RL cL_cameByLinks 5 (some FieldType.int) 8 128 false nk_eI 0 [(0, .inr v0), (1, .inl v1), (2, .inl v2), (3, .inr v3)] [] h (f_L_cameByLinks  h v0 v1 v2 v3) := by
  unfold f_L_cameByLinks
  refine nr_aload_n 3 dL_cameByLinks_0 rfl ?_
  refine nr_iconst (v := 0) dL_cameByLinks_1 (by decide) ?_
  refine nr_aload_n 0 dL_cameByLinks_2 rfl ?_
  refine nr_iload_n 1 dL_cameByLinks_3 rfl ?_
  refine nr_iload_n 2 dL_cameByLinks_4 rfl ?_
  refine nr_rcv (ks := [18]) (pre := [.inl v2, .inl v1]) (fun a1 hm => ?_)
  refine nr_tryI hs_L_cameByLinks (st := [.inl 0, .inr v3]) (nk_callV (q := (RX11, TX11, 9)) (ci := 11) (c_X11_cameByLinks (G := G) hl0 h a1 v1 v2) dL_cameByLinks_5 (List.mem_singleton.mp hm) rfl rfl my_X11_cameByLinks im_X11_cameByLinks se_RX11_X11_cameByLinks ml_RL_73 rfl rfl (Nat.le_of_ble_eq_true rfl) (by decide) (by decide)) rfl (List.mem_of_getElem? (i := 17) rfl) ⟨⟨by decide, by decide, by decide, cl_RL_13, by decide +kernel, Or.inl ⟨_, dL_cameByLinks_13, by decide, dL_cameByLinks_15, dL_cameByLinks_16⟩⟩, trivial⟩ (fun h2 x3 => ?_)
  refine nr_i2last dL_cameByLinks_8 dL_cameByLinks_9 (fun h4 => ?_)
  refine nr_goto (tgt := 17) dL_cameByLinks_10 (by decide) ?_
  refine nr_iconst (v := 0) dL_cameByLinks_17 (by decide) ?_
  exact nr_iret rfl rfl dL_cameByLinks_18
theorem c_L_cameByLinks {G : nk_G} {l : Launch} (hl0 : l.flags = flags0) (h : nk_H) (v0 : Option Nat) (v1 : Int32) (v2 : Int32) (v3 : Option Nat) : nk_ConW G l yL_cameByLinks cL_cameByLinks 5 (some FieldType.int) [(0, 10, 13, 13)] 8 128 nk_eI [.inr v0, .inl v1, .inl v2, .inr v3] h (f_L_cameByLinks h v0 v1 v2 v3) :=
  nk_conW (ini := false) (by decide) hl0 (Nat.le_of_ble_eq_true rfl) (by decide) rfl (by decide +kernel) (s_L_cameByLinks hl0 h v0 v1 v2 v3)
set_option maxHeartbeats 4000000 in
theorem s_L_isRead {G : nk_G} {l : Launch} (hl0 : l.flags = flags0) (h : nk_H) (v0 : Option Nat) (v1 : Int32) (v2 : Int32) (v3 : Option Nat) : nk_Sim G l RL cL_isRead 5 (some FieldType.int) 8 125 false nk_eI 0 [(0, .inr v0), (1, .inl v1), (2, .inl v2), (3, .inr v3)] [] h (f_L_isRead  h v0 v1 v2 v3) := by
  unfold f_L_isRead
  refine nr_aload_n 3 dL_isRead_0 rfl ?_
  refine nr_iconst (v := 0) dL_isRead_1 (by decide) ?_
  refine nr_aload_n 0 dL_isRead_2 rfl ?_
  refine nr_iload_n 1 dL_isRead_3 rfl ?_
  refine nr_iload_n 2 dL_isRead_4 rfl ?_
  refine nr_rcv (ks := [18]) (pre := [.inl v2, .inl v1]) (fun a1 hm => ?_)
  refine nr_tryI hs_L_isRead (st := [.inl 0, .inr v3]) (nk_callV (q := (RX11, TX11, 9)) (ci := 11) (c_X11_isRead (G := G) hl0 h a1 v1 v2) dL_isRead_5 (List.mem_singleton.mp hm) rfl rfl my_X11_isRead im_X11_isRead se_RX11_X11_isRead ml_RL_76 rfl rfl (Nat.le_of_ble_eq_true rfl) (by decide) (by decide)) rfl (List.mem_of_getElem? (i := 18) rfl) ⟨⟨by decide, by decide, by decide, cl_RL_13, by decide +kernel, Or.inl ⟨_, dL_isRead_20, by decide, dL_isRead_22, dL_isRead_23⟩⟩, trivial⟩ (fun h2 x3 => ?_)
  refine nr_zlast dL_isRead_8 (by decide) dL_isRead_11 dL_isRead_12 (by decide) dL_isRead_15 dL_isRead_16 (fun h4 => ?_)
  refine nr_goto (tgt := 24) dL_isRead_17 (by decide) ?_
  refine nr_iconst (v := 0) dL_isRead_24 (by decide) ?_
  exact nr_iret rfl rfl dL_isRead_25
theorem c_L_isRead {G : nk_G} {l : Launch} (hl0 : l.flags = flags0) (h : nk_H) (v0 : Option Nat) (v1 : Int32) (v2 : Int32) (v3 : Option Nat) : nk_ConW G l yL_isRead cL_isRead 5 (some FieldType.int) [(0, 17, 20, 13)] 8 125 nk_eI [.inr v0, .inl v1, .inl v2, .inr v3] h (f_L_isRead h v0 v1 v2 v3) :=
  nk_conW (ini := false) (by decide) hl0 (Nat.le_of_ble_eq_true rfl) (by decide) rfl (by decide +kernel) (s_L_isRead hl0 h v0 v1 v2 v3)
set_option maxHeartbeats 4000000 in
theorem s_L_mail {G : nk_G} {l : Launch} (hl0 : l.flags = flags0) (h : nk_H) (v0 : Option Nat) (v1 : Int32) (v2 : Option Nat) : nk_Sim G l RL cL_mail 4 (some FieldType.int) 8 123 false nk_eI 0 [(0, .inr v0), (1, .inl v1), (2, .inr v2)] [] h (f_L_mail  h v0 v1 v2) := by
  unfold f_L_mail
  refine nr_aload_n 2 dL_mail_0 rfl ?_
  refine nr_iconst (v := 0) dL_mail_1 (by decide) ?_
  refine nr_aload_n 0 dL_mail_2 rfl ?_
  refine nr_iload_n 1 dL_mail_3 rfl ?_
  refine nr_rcv (ks := [18]) (pre := [.inl v1]) (fun a1 hm => ?_)
  refine nr_tryI hs_L_mail (st := [.inl 0, .inr v2]) (nk_callV (q := (RX11, TX11, 9)) (ci := 11) (c_X11_mail (G := G) hl0 h a1 v1) dL_mail_4 (List.mem_singleton.mp hm) rfl rfl my_X11_mail im_X11_mail se_RX11_X11_mail ml_RL_79 rfl rfl (Nat.le_of_ble_eq_true rfl) (by decide) (by decide)) rfl (List.mem_of_getElem? (i := 19) rfl) ⟨⟨by decide, by decide, by decide, cl_RL_13, by decide +kernel, Or.inr ⟨_, dL_mail_12, by decide, dL_mail_13, dL_mail_14⟩⟩, trivial⟩ (fun h2 x3 => ?_)
  refine nr_i2last dL_mail_7 dL_mail_8 (fun h4 => ?_)
  refine nr_goto (tgt := 15) dL_mail_9 (by decide) ?_
  refine nr_iconst (v := 0) dL_mail_15 (by decide) ?_
  exact nr_iret rfl rfl dL_mail_16
theorem c_L_mail {G : nk_G} {l : Launch} (hl0 : l.flags = flags0) (h : nk_H) (v0 : Option Nat) (v1 : Int32) (v2 : Option Nat) : nk_ConW G l yL_mail cL_mail 4 (some FieldType.int) [(0, 9, 12, 13)] 8 123 nk_eI [.inr v0, .inl v1, .inr v2] h (f_L_mail h v0 v1 v2) :=
  nk_conW (ini := false) (by decide) hl0 (Nat.le_of_ble_eq_true rfl) (by decide) rfl (by decide +kernel) (s_L_mail hl0 h v0 v1 v2)
set_option maxHeartbeats 4000000 in
theorem s_L_source {G : nk_G} {l : Launch} (hl0 : l.flags = flags0) (h : nk_H) (v0 : Option Nat) (v1 : Int32) (v2 : Option Nat) : nk_Sim G l RL cL_source 4 (some FieldType.int) 8 125 false nk_eI 0 [(0, .inr v0), (1, .inl v1), (2, .inr v2)] [] h (f_L_source  h v0 v1 v2) := by
  unfold f_L_source
  refine nr_aload_n 2 dL_source_0 rfl ?_
  refine nr_iconst (v := 0) dL_source_1 (by decide) ?_
  refine nr_aload_n 0 dL_source_2 rfl ?_
  refine nr_iload_n 1 dL_source_3 rfl ?_
  refine nr_rcv (ks := [18]) (pre := [.inl v1]) (fun a1 hm => ?_)
  refine nr_tryI hs_L_source (st := [.inl 0, .inr v2]) (nk_callV (q := (RX11, TX11, 9)) (ci := 11) (c_X11_source (G := G) hl0 h a1 v1) dL_source_4 (List.mem_singleton.mp hm) rfl rfl my_X11_source im_X11_source se_RX11_X11_source ml_RL_82 rfl rfl (Nat.le_of_ble_eq_true rfl) (by decide) (by decide)) rfl (List.mem_of_getElem? (i := 20) rfl) ⟨⟨by decide, by decide, by decide, cl_RL_13, by decide +kernel, Or.inr ⟨_, dL_source_12, by decide, dL_source_13, dL_source_14⟩⟩, trivial⟩ (fun h2 x3 => ?_)
  refine nr_i2last dL_source_7 dL_source_8 (fun h4 => ?_)
  refine nr_goto (tgt := 15) dL_source_9 (by decide) ?_
  refine nr_iconst (v := 0) dL_source_15 (by decide) ?_
  exact nr_iret rfl rfl dL_source_16
theorem c_L_source {G : nk_G} {l : Launch} (hl0 : l.flags = flags0) (h : nk_H) (v0 : Option Nat) (v1 : Int32) (v2 : Option Nat) : nk_ConW G l yL_source cL_source 4 (some FieldType.int) [(0, 9, 12, 13)] 8 125 nk_eI [.inr v0, .inl v1, .inr v2] h (f_L_source h v0 v1 v2) :=
  nk_conW (ini := false) (by decide) hl0 (Nat.le_of_ble_eq_true rfl) (by decide) rfl (by decide +kernel) (s_L_source hl0 h v0 v1 v2)
set_option maxHeartbeats 4000000 in
theorem s_L_holder {G : nk_G} {l : Launch} (hl0 : l.flags = flags0) (h : nk_H) (v0 : Option Nat) (v1 : Int32) (v2 : Option Nat) : nk_Sim G l RL cL_holder 4 (some FieldType.int) 8 124 false nk_eI 0 [(0, .inr v0), (1, .inl v1), (2, .inr v2)] [] h (f_L_holder  h v0 v1 v2) := by
  unfold f_L_holder
  refine nr_aload_n 2 dL_holder_0 rfl ?_
  refine nr_iconst (v := 0) dL_holder_1 (by decide) ?_
  refine nr_aload_n 0 dL_holder_2 rfl ?_
  refine nr_iload_n 1 dL_holder_3 rfl ?_
  refine nr_rcv (ks := [18]) (pre := [.inl v1]) (fun a1 hm => ?_)
  refine nr_tryI hs_L_holder (st := [.inl 0, .inr v2]) (nk_callV (q := (RX11, TX11, 9)) (ci := 11) (c_X11_holder (G := G) hl0 h a1 v1) dL_holder_4 (List.mem_singleton.mp hm) rfl rfl my_X11_holder im_X11_holder se_RX11_X11_holder ml_RL_85 rfl rfl (Nat.le_of_ble_eq_true rfl) (by decide) (by decide)) rfl (List.mem_of_getElem? (i := 21) rfl) ⟨⟨by decide, by decide, by decide, cl_RL_13, by decide +kernel, Or.inr ⟨_, dL_holder_12, by decide, dL_holder_13, dL_holder_14⟩⟩, trivial⟩ (fun h2 x3 => ?_)
  refine nr_i2last dL_holder_7 dL_holder_8 (fun h4 => ?_)
  refine nr_goto (tgt := 15) dL_holder_9 (by decide) ?_
  refine nr_iconst (v := 0) dL_holder_15 (by decide) ?_
  exact nr_iret rfl rfl dL_holder_16
theorem c_L_holder {G : nk_G} {l : Launch} (hl0 : l.flags = flags0) (h : nk_H) (v0 : Option Nat) (v1 : Int32) (v2 : Option Nat) : nk_ConW G l yL_holder cL_holder 4 (some FieldType.int) [(0, 9, 12, 13)] 8 124 nk_eI [.inr v0, .inl v1, .inr v2] h (f_L_holder h v0 v1 v2) :=
  nk_conW (ini := false) (by decide) hl0 (Nat.le_of_ble_eq_true rfl) (by decide) rfl (by decide +kernel) (s_L_holder hl0 h v0 v1 v2)
set_option maxHeartbeats 4000000 in
theorem s_L_isGood {G : nk_G} {l : Launch} (hl0 : l.flags = flags0) (h : nk_H) (v0 : Option Nat) (v1 : Int32) (v2 : Int32) (v3 : Option Nat) : nk_Sim G l RL cL_isGood 5 (some FieldType.int) 8 152 false nk_eI 0 [(0, .inr v0), (1, .inl v1), (2, .inl v2), (3, .inr v3)] [] h (f_L_isGood  h v0 v1 v2 v3) := by
  unfold f_L_isGood
  refine nr_aload_n 3 dL_isGood_0 rfl ?_
  refine nr_iconst (v := 0) dL_isGood_1 (by decide) ?_
  refine nr_aload_n 0 dL_isGood_2 rfl ?_
  refine nr_iload_n 1 dL_isGood_3 rfl ?_
  refine nr_iload_n 2 dL_isGood_4 rfl ?_
  refine nr_rcv (ks := [18]) (pre := [.inl v2, .inl v1]) (fun a1 hm => ?_)
  refine nr_tryI hs_L_isGood (st := [.inl 0, .inr v3]) (nk_callV (q := (RX11, TX11, 9)) (ci := 11) (c_X11_isGood (G := G) hl0 h a1 v1 v2) dL_isGood_5 (List.mem_singleton.mp hm) rfl rfl my_X11_isGood im_X11_isGood se_RX11_X11_isGood ml_RL_88 rfl rfl (Nat.le_of_ble_eq_true rfl) (by decide) (by decide)) rfl (List.mem_of_getElem? (i := 22) rfl) ⟨⟨by decide, by decide, by decide, cl_RL_13, by decide +kernel, Or.inl ⟨_, dL_isGood_20, by decide, dL_isGood_22, dL_isGood_23⟩⟩, trivial⟩ (fun h2 x3 => ?_)
  refine nr_zlast dL_isGood_8 (by decide) dL_isGood_11 dL_isGood_12 (by decide) dL_isGood_15 dL_isGood_16 (fun h4 => ?_)
  refine nr_goto (tgt := 24) dL_isGood_17 (by decide) ?_
  refine nr_iconst (v := 0) dL_isGood_24 (by decide) ?_
  exact nr_iret rfl rfl dL_isGood_25
theorem c_L_isGood {G : nk_G} {l : Launch} (hl0 : l.flags = flags0) (h : nk_H) (v0 : Option Nat) (v1 : Int32) (v2 : Int32) (v3 : Option Nat) : nk_ConW G l yL_isGood cL_isGood 5 (some FieldType.int) [(0, 17, 20, 13)] 8 152 nk_eI [.inr v0, .inl v1, .inl v2, .inr v3] h (f_L_isGood h v0 v1 v2 v3) :=
  nk_conW (ini := false) (by decide) hl0 (Nat.le_of_ble_eq_true rfl) (by decide) rfl (by decide +kernel) (s_L_isGood hl0 h v0 v1 v2 v3)
set_option maxHeartbeats 4000000 in
theorem s_L_done {G : nk_G} {l : Launch} (hl0 : l.flags = flags0) (h : nk_H) (v0 : Option Nat) (v1 : Int32) (v2 : Int32) (v3 : Option Nat) : nk_Sim G l RL cL_done 5 (some FieldType.int) 8 125 false nk_eI 0 [(0, .inr v0), (1, .inl v1), (2, .inl v2), (3, .inr v3)] [] h (f_L_done  h v0 v1 v2 v3) := by
  unfold f_L_done
  refine nr_aload_n 3 dL_done_0 rfl ?_
  refine nr_iconst (v := 0) dL_done_1 (by decide) ?_
  refine nr_aload_n 0 dL_done_2 rfl ?_
  refine nr_iload_n 1 dL_done_3 rfl ?_
  refine nr_iload_n 2 dL_done_4 rfl ?_
  refine nr_rcv (ks := [18]) (pre := [.inl v2, .inl v1]) (fun a1 hm => ?_)
  refine nr_tryI hs_L_done (st := [.inl 0, .inr v3]) (nk_callV (q := (RX11, TX11, 9)) (ci := 11) (c_X11_done (G := G) hl0 h a1 v1 v2) dL_done_5 (List.mem_singleton.mp hm) rfl rfl my_X11_done im_X11_done se_RX11_X11_done ml_RL_91 rfl rfl (Nat.le_of_ble_eq_true rfl) (by decide) (by decide)) rfl (List.mem_of_getElem? (i := 23) rfl) ⟨⟨by decide, by decide, by decide, cl_RL_13, by decide +kernel, Or.inl ⟨_, dL_done_13, by decide, dL_done_15, dL_done_16⟩⟩, trivial⟩ (fun h2 x3 => ?_)
  refine nr_i2last dL_done_8 dL_done_9 (fun h4 => ?_)
  refine nr_goto (tgt := 17) dL_done_10 (by decide) ?_
  refine nr_iconst (v := 0) dL_done_17 (by decide) ?_
  exact nr_iret rfl rfl dL_done_18
theorem c_L_done {G : nk_G} {l : Launch} (hl0 : l.flags = flags0) (h : nk_H) (v0 : Option Nat) (v1 : Int32) (v2 : Int32) (v3 : Option Nat) : nk_ConW G l yL_done cL_done 5 (some FieldType.int) [(0, 10, 13, 13)] 8 125 nk_eI [.inr v0, .inl v1, .inl v2, .inr v3] h (f_L_done h v0 v1 v2 v3) :=
  nk_conW (ini := false) (by decide) hl0 (Nat.le_of_ble_eq_true rfl) (by decide) rfl (by decide +kernel) (s_L_done hl0 h v0 v1 v2 v3)
set_option maxHeartbeats 4000000 in
theorem s_L_beyond {G : nk_G} {l : Launch} (hl0 : l.flags = flags0) (h : nk_H) (v0 : Option Nat) (v1 : Int32) (v2 : Option Nat) : nk_Sim G l RL cL_beyond 4 (some FieldType.int) 8 125 false nk_eI 0 [(0, .inr v0), (1, .inl v1), (2, .inr v2)] [] h (f_L_beyond  h v0 v1 v2) := by
  unfold f_L_beyond
  refine nr_aload_n 2 dL_beyond_0 rfl ?_
  refine nr_iconst (v := 0) dL_beyond_1 (by decide) ?_
  refine nr_aload_n 0 dL_beyond_2 rfl ?_
  refine nr_iload_n 1 dL_beyond_3 rfl ?_
  refine nr_rcv (ks := [18]) (pre := [.inl v1]) (fun a1 hm => ?_)
  refine nr_tryI hs_L_beyond (st := [.inl 0, .inr v2]) (nk_callV (q := (RX11, TX11, 9)) (ci := 11) (c_X11_beyond (G := G) hl0 h a1 v1) dL_beyond_4 (List.mem_singleton.mp hm) rfl rfl my_X11_beyond im_X11_beyond se_RX11_X11_beyond ml_RL_94 rfl rfl (Nat.le_of_ble_eq_true rfl) (by decide) (by decide)) rfl (List.mem_of_getElem? (i := 24) rfl) ⟨⟨by decide, by decide, by decide, cl_RL_13, by decide +kernel, Or.inr ⟨_, dL_beyond_12, by decide, dL_beyond_13, dL_beyond_14⟩⟩, trivial⟩ (fun h2 x3 => ?_)
  refine nr_i2last dL_beyond_7 dL_beyond_8 (fun h4 => ?_)
  refine nr_goto (tgt := 15) dL_beyond_9 (by decide) ?_
  refine nr_iconst (v := 0) dL_beyond_15 (by decide) ?_
  exact nr_iret rfl rfl dL_beyond_16
theorem c_L_beyond {G : nk_G} {l : Launch} (hl0 : l.flags = flags0) (h : nk_H) (v0 : Option Nat) (v1 : Int32) (v2 : Option Nat) : nk_ConW G l yL_beyond cL_beyond 4 (some FieldType.int) [(0, 9, 12, 13)] 8 125 nk_eI [.inr v0, .inl v1, .inr v2] h (f_L_beyond h v0 v1 v2) :=
  nk_conW (ini := false) (by decide) hl0 (Nat.le_of_ble_eq_true rfl) (by decide) rfl (by decide +kernel) (s_L_beyond hl0 h v0 v1 v2)
set_option maxHeartbeats 4000000 in
theorem s_L_against {G : nk_G} {l : Launch} (hl0 : l.flags = flags0) (h : nk_H) (v0 : Option Nat) (v1 : Int32) (v2 : Int32) (v3 : Int32) (v4 : Int32) (v5 : Option Nat) : nk_Sim G l RL cL_against 7 (some FieldType.int) 8 156 false nk_eI 0 [(0, .inr v0), (1, .inl v1), (2, .inl v2), (3, .inl v3), (4, .inl v4), (5, .inr v5)] [] h (f_L_against  h v0 v1 v2 v3 v4 v5) := by
  unfold f_L_against
  refine nr_aload 5 dL_against_0 rfl ?_
  refine nr_iconst (v := 0) dL_against_2 (by decide) ?_
  refine nr_aload_n 0 dL_against_3 rfl ?_
  refine nr_iload_n 1 dL_against_4 rfl ?_
  refine nr_iload_n 2 dL_against_5 rfl ?_
  refine nr_iload_n 3 dL_against_6 rfl ?_
  refine nr_iload 4 dL_against_7 rfl ?_
  refine nr_rcv (ks := [18]) (pre := [.inl v4, .inl v3, .inl v2, .inl v1]) (fun a1 hm => ?_)
  refine nr_tryI hs_L_against (st := [.inl 0, .inr v5]) (nk_callV (q := (RX11, TX11, 9)) (ci := 11) (c_X11_against (G := G) hl0 h a1 v1 v2 v3 v4) dL_against_9 (List.mem_singleton.mp hm) rfl rfl my_X11_against im_X11_against se_RX11_X11_against ml_RL_97 rfl rfl (Nat.le_of_ble_eq_true rfl) (by decide) (by decide)) rfl (List.mem_of_getElem? (i := 25) rfl) ⟨⟨by decide, by decide, by decide, cl_RL_13, by decide +kernel, Or.inl ⟨_, dL_against_17, by decide, dL_against_19, dL_against_20⟩⟩, ⟨by decide, by decide, by decide, cl_RL_15, by decide +kernel, Or.inl ⟨_, dL_against_21, by decide, dL_against_23, dL_against_24⟩⟩, trivial⟩ (fun h2 x3 => ?_)
  refine nr_i2last dL_against_12 dL_against_13 (fun h4 => ?_)
  refine nr_goto (tgt := 25) dL_against_14 (by decide) ?_
  refine nr_iconst (v := 0) dL_against_25 (by decide) ?_
  exact nr_iret rfl rfl dL_against_26
theorem c_L_against {G : nk_G} {l : Launch} (hl0 : l.flags = flags0) (h : nk_H) (v0 : Option Nat) (v1 : Int32) (v2 : Int32) (v3 : Int32) (v4 : Int32) (v5 : Option Nat) : nk_ConW G l yL_against cL_against 7 (some FieldType.int) [(0, 14, 17, 13), (0, 14, 21, 15)] 8 156 nk_eI [.inr v0, .inl v1, .inl v2, .inl v3, .inl v4, .inr v5] h (f_L_against h v0 v1 v2 v3 v4 v5) :=
  nk_conW (ini := false) (by decide) hl0 (Nat.le_of_ble_eq_true rfl) (by decide) rfl (by decide +kernel) (s_L_against hl0 h v0 v1 v2 v3 v4 v5)
set_option maxHeartbeats 4000000 in
theorem s_L_choices {G : nk_G} {l : Launch} (hl0 : l.flags = flags0) (h : nk_H) (v0 : Option Nat) (v1 : Int32) (v2 : Int32) (v3 : Int32) (v4 : Option Nat) : nk_Sim G l RL cL_choices 6 (some FieldType.int) 8 158 false nk_eI 0 [(0, .inr v0), (1, .inl v1), (2, .inl v2), (3, .inl v3), (4, .inr v4)] [] h (f_L_choices  h v0 v1 v2 v3 v4) := by
  unfold f_L_choices
  refine nr_aload 4 dL_choices_0 rfl ?_
  refine nr_iconst (v := 0) dL_choices_2 (by decide) ?_
  refine nr_aload_n 0 dL_choices_3 rfl ?_
  refine nr_iload_n 1 dL_choices_4 rfl ?_
  refine nr_iload_n 2 dL_choices_5 rfl ?_
  refine nr_iload_n 3 dL_choices_6 rfl ?_
  refine nr_rcv (ks := [18]) (pre := [.inl v3, .inl v2, .inl v1]) (fun a1 hm => ?_)
  refine nr_tryI hs_L_choices (st := [.inl 0, .inr v4]) (nk_callV (q := (RX11, TX11, 9)) (ci := 11) (c_X11_choices (G := G) hl0 h a1 v1 v2 v3) dL_choices_7 (List.mem_singleton.mp hm) rfl rfl my_X11_choices im_X11_choices se_RX11_X11_choices ml_RL_100 rfl rfl (Nat.le_of_ble_eq_true rfl) (by decide) (by decide)) rfl (List.mem_of_getElem? (i := 26) rfl) ⟨⟨by decide, by decide, by decide, cl_RL_13, by decide +kernel, Or.inl ⟨_, dL_choices_15, by decide, dL_choices_17, dL_choices_18⟩⟩, ⟨by decide, by decide, by decide, cl_RL_15, by decide +kernel, Or.inl ⟨_, dL_choices_19, by decide, dL_choices_21, dL_choices_22⟩⟩, trivial⟩ (fun h2 x3 => ?_)
  refine nr_i2last dL_choices_10 dL_choices_11 (fun h4 => ?_)
  refine nr_goto (tgt := 23) dL_choices_12 (by decide) ?_
  refine nr_iconst (v := 0) dL_choices_23 (by decide) ?_
  exact nr_iret rfl rfl dL_choices_24
theorem c_L_choices {G : nk_G} {l : Launch} (hl0 : l.flags = flags0) (h : nk_H) (v0 : Option Nat) (v1 : Int32) (v2 : Int32) (v3 : Int32) (v4 : Option Nat) : nk_ConW G l yL_choices cL_choices 6 (some FieldType.int) [(0, 12, 15, 13), (0, 12, 19, 15)] 8 158 nk_eI [.inr v0, .inl v1, .inl v2, .inl v3, .inr v4] h (f_L_choices h v0 v1 v2 v3 v4) :=
  nk_conW (ini := false) (by decide) hl0 (Nat.le_of_ble_eq_true rfl) (by decide) rfl (by decide +kernel) (s_L_choices hl0 h v0 v1 v2 v3 v4)
set_option maxHeartbeats 4000000 in
theorem s_L_stands {G : nk_G} {l : Launch} (hl0 : l.flags = flags0) (h : nk_H) (v0 : Option Nat) (v1 : Int32) (v2 : Int32) (v3 : Option Nat) : nk_Sim G l RL cL_stands 5 (some FieldType.int) 9 146 false nk_eI 0 [(0, .inr v0), (1, .inl v1), (2, .inl v2), (3, .inr v3)] [] h (f_L_stands  h v0 v1 v2 v3) := by
  unfold f_L_stands
  refine nr_aload_n 3 dL_stands_0 rfl ?_
  refine nr_iconst (v := 0) dL_stands_1 (by decide) ?_
  refine nr_aload_n 0 dL_stands_2 rfl ?_
  refine nr_iload_n 1 dL_stands_3 rfl ?_
  refine nr_iload_n 2 dL_stands_4 rfl ?_
  refine nr_rcv (ks := [18]) (pre := [.inl v2, .inl v1]) (fun a1 hm => ?_)
  refine nr_tryI hs_L_stands (st := [.inl 0, .inr v3]) (nk_callV (q := (RX11, TX11, 9)) (ci := 11) (c_X11_stands (G := G) hl0 h a1 v1 v2) dL_stands_5 (List.mem_singleton.mp hm) rfl rfl my_X11_stands im_X11_stands se_RX11_X11_stands ml_RL_103 rfl rfl (Nat.le_of_ble_eq_true rfl) (by decide) (by decide)) rfl (List.mem_of_getElem? (i := 27) rfl) ⟨⟨by decide, by decide, by decide, cl_RL_13, by decide +kernel, Or.inl ⟨_, dL_stands_20, by decide, dL_stands_22, dL_stands_23⟩⟩, trivial⟩ (fun h2 x3 => ?_)
  refine nr_zlast dL_stands_8 (by decide) dL_stands_11 dL_stands_12 (by decide) dL_stands_15 dL_stands_16 (fun h4 => ?_)
  refine nr_goto (tgt := 24) dL_stands_17 (by decide) ?_
  refine nr_iconst (v := 0) dL_stands_24 (by decide) ?_
  exact nr_iret rfl rfl dL_stands_25
theorem c_L_stands {G : nk_G} {l : Launch} (hl0 : l.flags = flags0) (h : nk_H) (v0 : Option Nat) (v1 : Int32) (v2 : Int32) (v3 : Option Nat) : nk_ConW G l yL_stands cL_stands 5 (some FieldType.int) [(0, 17, 20, 13)] 9 146 nk_eI [.inr v0, .inl v1, .inl v2, .inr v3] h (f_L_stands h v0 v1 v2 v3) :=
  nk_conW (ini := false) (by decide) hl0 (Nat.le_of_ble_eq_true rfl) (by decide) rfl (by decide +kernel) (s_L_stands hl0 h v0 v1 v2 v3)
set_option maxHeartbeats 4000000 in
theorem s_L_fault {G : nk_G} {l : Launch} (hl0 : l.flags = flags0) (h : nk_H) (v0 : Option Nat) (v1 : Int32) (v2 : Int32) (v3 : Option Nat) : nk_Sim G l RL cL_fault 5 (some FieldType.int) 9 175 false nk_eI 0 [(0, .inr v0), (1, .inl v1), (2, .inl v2), (3, .inr v3)] [] h (f_L_fault  h v0 v1 v2 v3) := by
  unfold f_L_fault
  refine nr_aload_n 3 dL_fault_0 rfl ?_
  refine nr_iconst (v := 0) dL_fault_1 (by decide) ?_
  refine nr_aload_n 0 dL_fault_2 rfl ?_
  refine nr_iload_n 1 dL_fault_3 rfl ?_
  refine nr_iload_n 2 dL_fault_4 rfl ?_
  refine nr_rcv (ks := [18]) (pre := [.inl v2, .inl v1]) (fun a1 hm => ?_)
  refine nr_tryI hs_L_fault (st := [.inl 0, .inr v3]) (nk_callV (q := (RX11, TX11, 9)) (ci := 11) (c_X11_fault (G := G) hl0 h a1 v1 v2) dL_fault_5 (List.mem_singleton.mp hm) rfl rfl my_X11_fault im_X11_fault se_RX11_X11_fault ml_RL_106 rfl rfl (Nat.le_of_ble_eq_true rfl) (by decide) (by decide)) rfl (List.mem_of_getElem? (i := 28) rfl) ⟨⟨by decide, by decide, by decide, cl_RL_13, by decide +kernel, Or.inl ⟨_, dL_fault_13, by decide, dL_fault_15, dL_fault_16⟩⟩, trivial⟩ (fun h2 x3 => ?_)
  refine nr_i2last dL_fault_8 dL_fault_9 (fun h4 => ?_)
  refine nr_goto (tgt := 17) dL_fault_10 (by decide) ?_
  refine nr_iconst (v := 0) dL_fault_17 (by decide) ?_
  exact nr_iret rfl rfl dL_fault_18
theorem c_L_fault {G : nk_G} {l : Launch} (hl0 : l.flags = flags0) (h : nk_H) (v0 : Option Nat) (v1 : Int32) (v2 : Int32) (v3 : Option Nat) : nk_ConW G l yL_fault cL_fault 5 (some FieldType.int) [(0, 10, 13, 13)] 9 175 nk_eI [.inr v0, .inl v1, .inl v2, .inr v3] h (f_L_fault h v0 v1 v2 v3) :=
  nk_conW (ini := false) (by decide) hl0 (Nat.le_of_ble_eq_true rfl) (by decide) rfl (by decide +kernel) (s_L_fault hl0 h v0 v1 v2 v3)
set_option maxHeartbeats 4000000 in
theorem s_L_pieceOf {G : nk_G} {l : Launch} (hl0 : l.flags = flags0) (h : nk_H) (v0 : Option Nat) (v1 : Int32) (v2 : Int32) (v3 : Option Nat) : nk_Sim G l RL cL_pieceOf 5 (some FieldType.int) 9 146 false nk_eI 0 [(0, .inr v0), (1, .inl v1), (2, .inl v2), (3, .inr v3)] [] h (f_L_pieceOf  h v0 v1 v2 v3) := by
  unfold f_L_pieceOf
  refine nr_aload_n 3 dL_pieceOf_0 rfl ?_
  refine nr_iconst (v := 0) dL_pieceOf_1 (by decide) ?_
  refine nr_aload_n 0 dL_pieceOf_2 rfl ?_
  refine nr_iload_n 1 dL_pieceOf_3 rfl ?_
  refine nr_iload_n 2 dL_pieceOf_4 rfl ?_
  refine nr_rcv (ks := [18]) (pre := [.inl v2, .inl v1]) (fun a1 hm => ?_)
  refine nr_tryI hs_L_pieceOf (st := [.inl 0, .inr v3]) (nk_callV (q := (RX11, TX11, 9)) (ci := 11) (c_X11_pieceOf (G := G) hl0 h a1 v1 v2) dL_pieceOf_5 (List.mem_singleton.mp hm) rfl rfl my_X11_pieceOf im_X11_pieceOf se_RX11_X11_pieceOf ml_RL_109 rfl rfl (Nat.le_of_ble_eq_true rfl) (by decide) (by decide)) rfl (List.mem_of_getElem? (i := 29) rfl) ⟨⟨by decide, by decide, by decide, cl_RL_13, by decide +kernel, Or.inl ⟨_, dL_pieceOf_13, by decide, dL_pieceOf_15, dL_pieceOf_16⟩⟩, trivial⟩ (fun h2 x3 => ?_)
  refine nr_i2last dL_pieceOf_8 dL_pieceOf_9 (fun h4 => ?_)
  refine nr_goto (tgt := 17) dL_pieceOf_10 (by decide) ?_
  refine nr_iconst (v := 0) dL_pieceOf_17 (by decide) ?_
  exact nr_iret rfl rfl dL_pieceOf_18
theorem c_L_pieceOf {G : nk_G} {l : Launch} (hl0 : l.flags = flags0) (h : nk_H) (v0 : Option Nat) (v1 : Int32) (v2 : Int32) (v3 : Option Nat) : nk_ConW G l yL_pieceOf cL_pieceOf 5 (some FieldType.int) [(0, 10, 13, 13)] 9 146 nk_eI [.inr v0, .inl v1, .inl v2, .inr v3] h (f_L_pieceOf h v0 v1 v2 v3) :=
  nk_conW (ini := false) (by decide) hl0 (Nat.le_of_ble_eq_true rfl) (by decide) rfl (by decide +kernel) (s_L_pieceOf hl0 h v0 v1 v2 v3)
set_option maxHeartbeats 4000000 in
theorem s_L_part {G : nk_G} {l : Launch} (hl0 : l.flags = flags0) (h : nk_H) (v0 : Option Nat) (v1 : Int32) (v2 : Int32) (v3 : Int32) (v4 : Option Nat) : nk_Sim G l RL cL_part 6 (some FieldType.int) 9 147 false nk_eI 0 [(0, .inr v0), (1, .inl v1), (2, .inl v2), (3, .inl v3), (4, .inr v4)] [] h (f_L_part  h v0 v1 v2 v3 v4) := by
  unfold f_L_part
  refine nr_aload 4 dL_part_0 rfl ?_
  refine nr_iconst (v := 0) dL_part_2 (by decide) ?_
  refine nr_aload_n 0 dL_part_3 rfl ?_
  refine nr_iload_n 1 dL_part_4 rfl ?_
  refine nr_iload_n 2 dL_part_5 rfl ?_
  refine nr_iload_n 3 dL_part_6 rfl ?_
  refine nr_rcv (ks := [18]) (pre := [.inl v3, .inl v2, .inl v1]) (fun a1 hm => ?_)
  refine nr_tryI hs_L_part (st := [.inl 0, .inr v4]) (nk_callV (q := (RX11, TX11, 9)) (ci := 11) (c_X11_part (G := G) hl0 h a1 v1 v2 v3) dL_part_7 (List.mem_singleton.mp hm) rfl rfl my_X11_part im_X11_part se_RX11_X11_part ml_RL_112 rfl rfl (Nat.le_of_ble_eq_true rfl) (by decide) (by decide)) rfl (List.mem_of_getElem? (i := 30) rfl) ⟨⟨by decide, by decide, by decide, cl_RL_13, by decide +kernel, Or.inl ⟨_, dL_part_15, by decide, dL_part_17, dL_part_18⟩⟩, trivial⟩ (fun h2 x3 => ?_)
  refine nr_i2last dL_part_10 dL_part_11 (fun h4 => ?_)
  refine nr_goto (tgt := 19) dL_part_12 (by decide) ?_
  refine nr_iconst (v := 0) dL_part_19 (by decide) ?_
  exact nr_iret rfl rfl dL_part_20
theorem c_L_part {G : nk_G} {l : Launch} (hl0 : l.flags = flags0) (h : nk_H) (v0 : Option Nat) (v1 : Int32) (v2 : Int32) (v3 : Int32) (v4 : Option Nat) : nk_ConW G l yL_part cL_part 6 (some FieldType.int) [(0, 12, 15, 13)] 9 147 nk_eI [.inr v0, .inl v1, .inl v2, .inl v3, .inr v4] h (f_L_part h v0 v1 v2 v3 v4) :=
  nk_conW (ini := false) (by decide) hl0 (Nat.le_of_ble_eq_true rfl) (by decide) rfl (by decide +kernel) (s_L_part hl0 h v0 v1 v2 v3 v4)
set_option maxHeartbeats 4000000 in
theorem s_L_seal {G : nk_G} {l : Launch} (hl0 : l.flags = flags0) (h : nk_H) (v0 : Option Nat) (v1 : Int32) (v2 : Int32) (v3 : Option Nat) : nk_Sim G l RL cL_seal 5 (some FieldType.int) 9 146 false nk_eI 0 [(0, .inr v0), (1, .inl v1), (2, .inl v2), (3, .inr v3)] [] h (f_L_seal  h v0 v1 v2 v3) := by
  unfold f_L_seal
  refine nr_aload_n 3 dL_seal_0 rfl ?_
  refine nr_iconst (v := 0) dL_seal_1 (by decide) ?_
  refine nr_aload_n 0 dL_seal_2 rfl ?_
  refine nr_iload_n 1 dL_seal_3 rfl ?_
  refine nr_iload_n 2 dL_seal_4 rfl ?_
  refine nr_rcv (ks := [18]) (pre := [.inl v2, .inl v1]) (fun a1 hm => ?_)
  refine nr_tryI hs_L_seal (st := [.inl 0, .inr v3]) (nk_callV (q := (RX11, TX11, 9)) (ci := 11) (c_X11_seal (G := G) hl0 h a1 v1 v2) dL_seal_5 (List.mem_singleton.mp hm) rfl rfl my_X11_seal im_X11_seal se_RX11_X11_seal ml_RL_115 rfl rfl (Nat.le_of_ble_eq_true rfl) (by decide) (by decide)) rfl (List.mem_of_getElem? (i := 31) rfl) ⟨⟨by decide, by decide, by decide, cl_RL_13, by decide +kernel, Or.inl ⟨_, dL_seal_13, by decide, dL_seal_15, dL_seal_16⟩⟩, trivial⟩ (fun h2 x3 => ?_)
  refine nr_i2last dL_seal_8 dL_seal_9 (fun h4 => ?_)
  refine nr_goto (tgt := 17) dL_seal_10 (by decide) ?_
  refine nr_iconst (v := 0) dL_seal_17 (by decide) ?_
  exact nr_iret rfl rfl dL_seal_18
theorem c_L_seal {G : nk_G} {l : Launch} (hl0 : l.flags = flags0) (h : nk_H) (v0 : Option Nat) (v1 : Int32) (v2 : Int32) (v3 : Option Nat) : nk_ConW G l yL_seal cL_seal 5 (some FieldType.int) [(0, 10, 13, 13)] 9 146 nk_eI [.inr v0, .inl v1, .inl v2, .inr v3] h (f_L_seal h v0 v1 v2 v3) :=
  nk_conW (ini := false) (by decide) hl0 (Nat.le_of_ble_eq_true rfl) (by decide) rfl (by decide +kernel) (s_L_seal hl0 h v0 v1 v2 v3)
set_option maxHeartbeats 4000000 in
theorem s_L_broken {G : nk_G} {l : Launch} (hl0 : l.flags = flags0) (h : nk_H) (v0 : Option Nat) (v1 : Int32) (v2 : Option Nat) : nk_Sim G l RL cL_broken 4 (some FieldType.int) 8 150 false nk_eI 0 [(0, .inr v0), (1, .inl v1), (2, .inr v2)] [] h (f_L_broken  h v0 v1 v2) := by
  unfold f_L_broken
  refine nr_aload_n 2 dL_broken_0 rfl ?_
  refine nr_iconst (v := 0) dL_broken_1 (by decide) ?_
  refine nr_aload_n 0 dL_broken_2 rfl ?_
  refine nr_iload_n 1 dL_broken_3 rfl ?_
  refine nr_rcv (ks := [18]) (pre := [.inl v1]) (fun a1 hm => ?_)
  refine nr_tryI hs_L_broken (st := [.inl 0, .inr v2]) (nk_callV (q := (RX11, TX11, 9)) (ci := 11) (c_X11_broken (G := G) hl0 h a1 v1) dL_broken_4 (List.mem_singleton.mp hm) rfl rfl my_X11_broken im_X11_broken se_RX11_X11_broken ml_RL_118 rfl rfl (Nat.le_of_ble_eq_true rfl) (by decide) (by decide)) rfl (List.mem_of_getElem? (i := 32) rfl) ⟨⟨by decide, by decide, by decide, cl_RL_13, by decide +kernel, Or.inr ⟨_, dL_broken_12, by decide, dL_broken_13, dL_broken_14⟩⟩, trivial⟩ (fun h2 x3 => ?_)
  refine nr_i2last dL_broken_7 dL_broken_8 (fun h4 => ?_)
  refine nr_goto (tgt := 15) dL_broken_9 (by decide) ?_
  refine nr_iconst (v := 0) dL_broken_15 (by decide) ?_
  exact nr_iret rfl rfl dL_broken_16
theorem c_L_broken {G : nk_G} {l : Launch} (hl0 : l.flags = flags0) (h : nk_H) (v0 : Option Nat) (v1 : Int32) (v2 : Option Nat) : nk_ConW G l yL_broken cL_broken 4 (some FieldType.int) [(0, 9, 12, 13)] 8 150 nk_eI [.inr v0, .inl v1, .inr v2] h (f_L_broken h v0 v1 v2) :=
  nk_conW (ini := false) (by decide) hl0 (Nat.le_of_ble_eq_true rfl) (by decide) rfl (by decide +kernel) (s_L_broken hl0 h v0 v1 v2)
set_option maxHeartbeats 4000000 in
theorem s_L_size {G : nk_G} {l : Launch} (hl0 : l.flags = flags0) (h : nk_H) (v0 : Option Nat) (v1 : Int32) (v2 : Option Nat) : nk_Sim G l RL cL_size 4 (some FieldType.int) 8 124 false nk_eI 0 [(0, .inr v0), (1, .inl v1), (2, .inr v2)] [] h (f_L_size  h v0 v1 v2) := by
  unfold f_L_size
  refine nr_aload_n 2 dL_size_0 rfl ?_
  refine nr_iconst (v := 0) dL_size_1 (by decide) ?_
  refine nr_aload_n 0 dL_size_2 rfl ?_
  refine nr_iload_n 1 dL_size_3 rfl ?_
  refine nr_rcv (ks := [18]) (pre := [.inl v1]) (fun a1 hm => ?_)
  refine nr_tryI hs_L_size (st := [.inl 0, .inr v2]) (nk_callV (q := (RX11, TX11, 9)) (ci := 11) (c_X11_size (G := G) hl0 h a1 v1) dL_size_4 (List.mem_singleton.mp hm) rfl rfl my_X11_size im_X11_size se_RX11_X11_size ml_RL_121 rfl rfl (Nat.le_of_ble_eq_true rfl) (by decide) (by decide)) rfl (List.mem_of_getElem? (i := 33) rfl) ⟨⟨by decide, by decide, by decide, cl_RL_13, by decide +kernel, Or.inr ⟨_, dL_size_12, by decide, dL_size_13, dL_size_14⟩⟩, trivial⟩ (fun h2 x3 => ?_)
  refine nr_i2last dL_size_7 dL_size_8 (fun h4 => ?_)
  refine nr_goto (tgt := 15) dL_size_9 (by decide) ?_
  refine nr_iconst (v := 0) dL_size_15 (by decide) ?_
  exact nr_iret rfl rfl dL_size_16
theorem c_L_size {G : nk_G} {l : Launch} (hl0 : l.flags = flags0) (h : nk_H) (v0 : Option Nat) (v1 : Int32) (v2 : Option Nat) : nk_ConW G l yL_size cL_size 4 (some FieldType.int) [(0, 9, 12, 13)] 8 124 nk_eI [.inr v0, .inl v1, .inr v2] h (f_L_size h v0 v1 v2) :=
  nk_conW (ini := false) (by decide) hl0 (Nat.le_of_ble_eq_true rfl) (by decide) rfl (by decide +kernel) (s_L_size hl0 h v0 v1 v2)
set_option maxHeartbeats 4000000 in
theorem s_L_copied {G : nk_G} {l : Launch} (hl0 : l.flags = flags0) (h : nk_H) (v0 : Option Nat) (v1 : Int32) (v2 : Int32) (v3 : Int32) (v4 : Option Nat) : nk_Sim G l RL cL_copied 6 (some FieldType.int) 9 149 false nk_eI 0 [(0, .inr v0), (1, .inl v1), (2, .inl v2), (3, .inl v3), (4, .inr v4)] [] h (f_L_copied  h v0 v1 v2 v3 v4) := by
  unfold f_L_copied
  refine nr_aload 4 dL_copied_0 rfl ?_
  refine nr_iconst (v := 0) dL_copied_2 (by decide) ?_
  refine nr_aload_n 0 dL_copied_3 rfl ?_
  refine nr_iload_n 1 dL_copied_4 rfl ?_
  refine nr_iload_n 2 dL_copied_5 rfl ?_
  refine nr_iload_n 3 dL_copied_6 rfl ?_
  refine nr_rcv (ks := [18]) (pre := [.inl v3, .inl v2, .inl v1]) (fun a1 hm => ?_)
  refine nr_tryI hs_L_copied (st := [.inl 0, .inr v4]) (nk_callV (q := (RX11, TX11, 9)) (ci := 11) (c_X11_copied (G := G) hl0 h a1 v1 v2 v3) dL_copied_7 (List.mem_singleton.mp hm) rfl rfl my_X11_copied im_X11_copied se_RX11_X11_copied ml_RL_124 rfl rfl (Nat.le_of_ble_eq_true rfl) (by decide) (by decide)) rfl (List.mem_of_getElem? (i := 34) rfl) ⟨⟨by decide, by decide, by decide, cl_RL_13, by decide +kernel, Or.inl ⟨_, dL_copied_15, by decide, dL_copied_17, dL_copied_18⟩⟩, trivial⟩ (fun h2 x3 => ?_)
  refine nr_i2last dL_copied_10 dL_copied_11 (fun h4 => ?_)
  refine nr_goto (tgt := 19) dL_copied_12 (by decide) ?_
  refine nr_iconst (v := 0) dL_copied_19 (by decide) ?_
  exact nr_iret rfl rfl dL_copied_20
theorem c_L_copied {G : nk_G} {l : Launch} (hl0 : l.flags = flags0) (h : nk_H) (v0 : Option Nat) (v1 : Int32) (v2 : Int32) (v3 : Int32) (v4 : Option Nat) : nk_ConW G l yL_copied cL_copied 6 (some FieldType.int) [(0, 12, 15, 13)] 9 149 nk_eI [.inr v0, .inl v1, .inl v2, .inl v3, .inr v4] h (f_L_copied h v0 v1 v2 v3 v4) :=
  nk_conW (ini := false) (by decide) hl0 (Nat.le_of_ble_eq_true rfl) (by decide) rfl (by decide +kernel) (s_L_copied hl0 h v0 v1 v2 v3 v4)
set_option maxHeartbeats 4000000 in
theorem s_L_brokenCopy {G : nk_G} {l : Launch} (hl0 : l.flags = flags0) (h : nk_H) (v0 : Option Nat) (v1 : Int32) (v2 : Option Nat) : nk_Sim G l RL cL_brokenCopy 4 (some FieldType.int) 8 124 false nk_eI 0 [(0, .inr v0), (1, .inl v1), (2, .inr v2)] [] h (f_L_brokenCopy  h v0 v1 v2) := by
  unfold f_L_brokenCopy
  refine nr_aload_n 2 dL_brokenCopy_0 rfl ?_
  refine nr_iconst (v := 0) dL_brokenCopy_1 (by decide) ?_
  refine nr_aload_n 0 dL_brokenCopy_2 rfl ?_
  refine nr_iload_n 1 dL_brokenCopy_3 rfl ?_
  refine nr_rcv (ks := [18]) (pre := [.inl v1]) (fun a1 hm => ?_)
  refine nr_tryI hs_L_brokenCopy (st := [.inl 0, .inr v2]) (nk_callV (q := (RX11, TX11, 9)) (ci := 11) (c_X11_brokenCopy (G := G) hl0 h a1 v1) dL_brokenCopy_4 (List.mem_singleton.mp hm) rfl rfl my_X11_brokenCopy im_X11_brokenCopy se_RX11_X11_brokenCopy ml_RL_127 rfl rfl (Nat.le_of_ble_eq_true rfl) (by decide) (by decide)) rfl (List.mem_of_getElem? (i := 35) rfl) ⟨⟨by decide, by decide, by decide, cl_RL_13, by decide +kernel, Or.inr ⟨_, dL_brokenCopy_12, by decide, dL_brokenCopy_13, dL_brokenCopy_14⟩⟩, trivial⟩ (fun h2 x3 => ?_)
  refine nr_i2last dL_brokenCopy_7 dL_brokenCopy_8 (fun h4 => ?_)
  refine nr_goto (tgt := 15) dL_brokenCopy_9 (by decide) ?_
  refine nr_iconst (v := 0) dL_brokenCopy_15 (by decide) ?_
  exact nr_iret rfl rfl dL_brokenCopy_16
theorem c_L_brokenCopy {G : nk_G} {l : Launch} (hl0 : l.flags = flags0) (h : nk_H) (v0 : Option Nat) (v1 : Int32) (v2 : Option Nat) : nk_ConW G l yL_brokenCopy cL_brokenCopy 4 (some FieldType.int) [(0, 9, 12, 13)] 8 124 nk_eI [.inr v0, .inl v1, .inr v2] h (f_L_brokenCopy h v0 v1 v2) :=
  nk_conW (ini := false) (by decide) hl0 (Nat.le_of_ble_eq_true rfl) (by decide) rfl (by decide +kernel) (s_L_brokenCopy hl0 h v0 v1 v2)
set_option maxHeartbeats 4000000 in
theorem s_L_isTrue {G : nk_G} {l : Launch} (hl0 : l.flags = flags0) (h : nk_H) (v0 : Option Nat) (v1 : Int32) (v2 : Option Nat) : nk_Sim G l RL cL_isTrue 4 (some FieldType.int) 8 129 false nk_eI 0 [(0, .inr v0), (1, .inl v1), (2, .inr v2)] [] h (f_L_isTrue  h v0 v1 v2) := by
  unfold f_L_isTrue
  refine nr_aload_n 2 dL_isTrue_0 rfl ?_
  refine nr_iconst (v := 0) dL_isTrue_1 (by decide) ?_
  refine nr_aload_n 0 dL_isTrue_2 rfl ?_
  refine nr_iload_n 1 dL_isTrue_3 rfl ?_
  refine nr_rcv (ks := [18]) (pre := [.inl v1]) (fun a1 hm => ?_)
  refine nr_tryI hs_L_isTrue (st := [.inl 0, .inr v2]) (nk_callV (q := (RX11, TX11, 9)) (ci := 11) (c_X11_isTrue (G := G) hl0 h a1 v1) dL_isTrue_4 (List.mem_singleton.mp hm) rfl rfl my_X11_isTrue im_X11_isTrue se_RX11_X11_isTrue ml_RL_130 rfl rfl (Nat.le_of_ble_eq_true rfl) (by decide) (by decide)) rfl (List.mem_of_getElem? (i := 36) rfl) ⟨⟨by decide, by decide, by decide, cl_RL_13, by decide +kernel, Or.inr ⟨_, dL_isTrue_19, by decide, dL_isTrue_20, dL_isTrue_21⟩⟩, trivial⟩ (fun h2 x3 => ?_)
  refine nr_zlast dL_isTrue_7 (by decide) dL_isTrue_10 dL_isTrue_11 (by decide) dL_isTrue_14 dL_isTrue_15 (fun h4 => ?_)
  refine nr_goto (tgt := 22) dL_isTrue_16 (by decide) ?_
  refine nr_iconst (v := 0) dL_isTrue_22 (by decide) ?_
  exact nr_iret rfl rfl dL_isTrue_23
theorem c_L_isTrue {G : nk_G} {l : Launch} (hl0 : l.flags = flags0) (h : nk_H) (v0 : Option Nat) (v1 : Int32) (v2 : Option Nat) : nk_ConW G l yL_isTrue cL_isTrue 4 (some FieldType.int) [(0, 16, 19, 13)] 8 129 nk_eI [.inr v0, .inl v1, .inr v2] h (f_L_isTrue h v0 v1 v2) :=
  nk_conW (ini := false) (by decide) hl0 (Nat.le_of_ble_eq_true rfl) (by decide) rfl (by decide +kernel) (s_L_isTrue hl0 h v0 v1 v2)
