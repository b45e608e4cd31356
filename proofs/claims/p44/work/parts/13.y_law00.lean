set_option maxHeartbeats 4000000 in
theorem s_L_cell_c27 {G : nk_G} {l : Launch} (hl0 : l.flags = flags0)   (h : nk_H)  (s0 : Int32) : nk_Sim G l RL cL_cell 2 (some FieldType.int) 0 0 false nk_eI 27 [(0, .inr (some (nk_gB G)))] [.inl s0] h (f_L_cell_c27 G  h  s0) := by
  unfold f_L_cell_c27
  exact nr_iret rfl rfl dL_cell_27
set_option maxHeartbeats 4000000 in
theorem s_L_cell {G : nk_G} {l : Launch} (hl0 : l.flags = flags0) (h : nk_H)  (v1 : Int32) : nk_Sim G l RL cL_cell 2 (some FieldType.int) 0 0 false nk_eI 0 [(0, .inr (some (nk_gB G))), (1, .inl v1)] [] h (f_L_cell G h  v1) := by
  unfold f_L_cell
  refine nr_iload_n 1 dL_cell_0 rfl ?_
  refine nr_aload_n 0 dL_cell_1 rfl ?_
  refine nr_slen dL_cell_2 ?_
  refine nr_icmp_ge (tgt := 12) dL_cell_3 (by decide) (fun _ => ?_) (fun _ => ?_)
  · refine nr_sipush (v := 7919) dL_cell_12 (by decide) ?_
    refine nr_iload_n 1 dL_cell_15 rfl ?_
    refine nr_sipush (v := 953) dL_cell_16 (by decide) ?_
    refine nr_iadd dL_cell_19 ?_
    refine nr_imul dL_cell_20 ?_
    refine nr_iload_n 1 dL_cell_21 rfl ?_
    refine nr_sipush (v := 3371) dL_cell_22 (by decide) ?_
    refine nr_iadd dL_cell_25 ?_
    refine nr_imul dL_cell_26 ?_
    exact nk_locals [0] rfl (s_L_cell_c27 hl0  h ((7919 * (v1 + 953)) * (v1 + 3371)))
  · refine nr_aload_n 0 dL_cell_6 rfl ?_
    refine nr_iload_n 1 dL_cell_7 rfl ?_
    refine nr_sld dL_cell_8 (fun x1 => ?_)
    refine nr_goto (tgt := 27) dL_cell_9 (by decide) ?_
    exact nk_locals [0] rfl (s_L_cell_c27 hl0  h x1)
theorem c_L_cell {G : nk_G} {l : Launch} (hl0 : l.flags = flags0) (h : nk_H)  (v1 : Int32) : nk_Con G l yL_cell cL_cell 2 (some FieldType.int) 0 0 nk_eI [.inr (some (nk_gB G)), .inl v1] h (f_L_cell G h  v1) :=
  nk_con (ini := false) (by decide) hl0 (Nat.le_of_ble_eq_true rfl) (by decide) (s_L_cell hl0 h  v1) (Or.inr (List.mem_of_getElem? (i := 0) rfl)) (fun _ => by decide +kernel)
set_option maxHeartbeats 4000000 in
theorem s_L_low {G : nk_G} {l : Launch} (hl0 : l.flags = flags0) (h : nk_H) (v0 : Int32) (v1 : Int32) : nk_Sim G l RL cL_low 2 (some FieldType.int) 0 0 false nk_eI 0 [(0, .inl v0), (1, .inl v1)] [] h (f_L_low  h v0 v1) := by
  unfold f_L_low
  refine nr_iload_n 0 dL_low_0 rfl ?_
  refine nr_ldc (v := 2147483647) dL_low_1 kc_RL_7 ?_
  refine nr_iand dL_low_3 ?_
  refine nr_iload_n 1 dL_low_4 rfl ?_
  refine nr_iremN dL_low_5 ?_
  exact nr_iret rfl rfl dL_low_6
theorem c_L_low {G : nk_G} {l : Launch} (hl0 : l.flags = flags0) (h : nk_H) (v0 : Int32) (v1 : Int32) : nk_Con G l yL_low cL_low 2 (some FieldType.int) 0 0 nk_eI [.inl v0, .inl v1] h (f_L_low h v0 v1) :=
  nk_con (ini := false) (by decide) hl0 (Nat.le_of_ble_eq_true rfl) (by decide) (s_L_low hl0 h v0 v1) (Or.inr (List.mem_of_getElem? (i := 1) rfl)) (fun _ => by decide +kernel)
set_option maxHeartbeats 4000000 in
theorem s_L_does_c220 {G : nk_G} {l : Launch} (hl0 : l.flags = flags0)   (h : nk_H)  (s0 : Int32) : nk_Sim G l RL cL_does 7 (some FieldType.int) 10 235 false nk_eI 220 [] [.inl s0] h (f_L_does_c220   h  s0) := by
  unfold f_L_does_c220
  exact nr_iret rfl rfl dL_does_220
set_option maxHeartbeats 4000000 in
theorem s_L_does {G : nk_G} {l : Launch} (hl0 : l.flags = flags0) (h : nk_H) (v0 : Option Nat) (v1 : Int32) (v2 : Int32) (v3 : Int32) (v4 : Int32) (v5 : Int32) : nk_Sim G l RL cL_does 7 (some FieldType.int) 10 235 false nk_eI 0 [(0, .inr v0), (1, .inl v1), (2, .inl v2), (3, .inl v3), (4, .inl v4), (5, .inl v5)] [] h (f_L_does  h v0 v1 v2 v3 v4 v5) := by
  unfold f_L_does
  refine nr_iload_n 1 dL_does_0 rfl ?_
  refine nr_if_ne (tgt := 13) dL_does_1 (by decide) (fun _ => ?_) (fun _ => ?_)
  · refine nr_aload_n 0 dL_does_4 rfl ?_
    refine nr_iload_n 2 dL_does_5 rfl ?_
    refine nr_iload_n 3 dL_does_6 rfl ?_
    refine nr_rcv (ks := [18]) (pre := [.inl v3, .inl v2]) (fun a1 hm => ?_)
    refine nr_tryI hs_L_does (st := []) (nk_callV (q := (RX11, TX11, 9)) (ci := 11) (c_X11_join (G := G) hl0 h a1 v2 v3) dL_does_7 (List.mem_singleton.mp hm) rfl rfl my_X11_join im_X11_join se_RX11_X11_join ml_RL_8 rfl rfl (Nat.le_of_ble_eq_true rfl) (by decide) (by decide)) rfl (List.mem_of_getElem? (i := 0) rfl) ⟨⟨by decide, by decide, by decide, cl_RL_56, by decide +kernel, ⟨_, _, dL_does_221, by decide, dL_does_223, kc_RL_58, dL_does_225⟩⟩, ⟨by decide, by decide, by decide, cl_RL_59, by decide +kernel, ⟨_, _, dL_does_226, by decide, dL_does_228, kc_RL_58, dL_does_230⟩⟩, ⟨by decide, by decide, by decide, cl_RL_61, by decide +kernel, ⟨_, _, dL_does_231, by decide, dL_does_233, kc_RL_58, dL_does_235⟩⟩, trivial⟩ (fun h2 x3 => ?_)
    refine nr_goto (tgt := 220) dL_does_10 (by decide) ?_
    exact nk_locals [] rfl (s_L_does_c220 hl0  h2 x3)
  · refine nr_iload_n 1 dL_does_13 rfl ?_
    refine nr_iconst (v := 1) dL_does_14 (by decide) ?_
    refine nr_icmp_ne (tgt := 27) dL_does_15 (by decide) (fun _ => ?_) (fun _ => ?_)
    · refine nr_aload_n 0 dL_does_18 rfl ?_
      refine nr_iload_n 2 dL_does_19 rfl ?_
      refine nr_iload_n 3 dL_does_20 rfl ?_
      refine nr_rcv (ks := [18]) (pre := [.inl v3, .inl v2]) (fun a4 hm => ?_)
      refine nr_tryI hs_L_does (st := []) (nk_callV (q := (RX11, TX11, 9)) (ci := 11) (c_X11_cut (G := G) hl0 h a4 v2 v3) dL_does_21 (List.mem_singleton.mp hm) rfl rfl my_X11_cut im_X11_cut se_RX11_X11_cut ml_RL_14 rfl rfl (Nat.le_of_ble_eq_true rfl) (by decide) (by decide)) rfl (List.mem_of_getElem? (i := 0) rfl) ⟨⟨by decide, by decide, by decide, cl_RL_56, by decide +kernel, ⟨_, _, dL_does_221, by decide, dL_does_223, kc_RL_58, dL_does_225⟩⟩, ⟨by decide, by decide, by decide, cl_RL_59, by decide +kernel, ⟨_, _, dL_does_226, by decide, dL_does_228, kc_RL_58, dL_does_230⟩⟩, ⟨by decide, by decide, by decide, cl_RL_61, by decide +kernel, ⟨_, _, dL_does_231, by decide, dL_does_233, kc_RL_58, dL_does_235⟩⟩, trivial⟩ (fun h5 x6 => ?_)
      refine nr_goto (tgt := 220) dL_does_24 (by decide) ?_
      exact nk_locals [] rfl (s_L_does_c220 hl0  h5 x6)
    · refine nr_iload_n 1 dL_does_27 rfl ?_
      refine nr_iconst (v := 2) dL_does_28 (by decide) ?_
      refine nr_icmp_ne (tgt := 40) dL_does_29 (by decide) (fun _ => ?_) (fun _ => ?_)
      · refine nr_aload_n 0 dL_does_32 rfl ?_
        refine nr_iload_n 2 dL_does_33 rfl ?_
        refine nr_rcv (ks := [18]) (pre := [.inl v2]) (fun a7 hm => ?_)
        refine nr_tryI hs_L_does (st := []) (nk_callV (q := (RX11, TX11, 9)) (ci := 11) (c_X11_pass (G := G) hl0 h a7 v2) dL_does_34 (List.mem_singleton.mp hm) rfl rfl my_X11_pass im_X11_pass se_RX11_X11_pass ml_RL_17 rfl rfl (Nat.le_of_ble_eq_true rfl) (by decide) (by decide)) rfl (List.mem_of_getElem? (i := 0) rfl) ⟨⟨by decide, by decide, by decide, cl_RL_56, by decide +kernel, ⟨_, _, dL_does_221, by decide, dL_does_223, kc_RL_58, dL_does_225⟩⟩, ⟨by decide, by decide, by decide, cl_RL_59, by decide +kernel, ⟨_, _, dL_does_226, by decide, dL_does_228, kc_RL_58, dL_does_230⟩⟩, ⟨by decide, by decide, by decide, cl_RL_61, by decide +kernel, ⟨_, _, dL_does_231, by decide, dL_does_233, kc_RL_58, dL_does_235⟩⟩, trivial⟩ (fun h8 x9 => ?_)
        refine nr_goto (tgt := 220) dL_does_37 (by decide) ?_
        exact nk_locals [] rfl (s_L_does_c220 hl0  h8 x9)
      · refine nr_iload_n 1 dL_does_40 rfl ?_
        refine nr_iconst (v := 3) dL_does_41 (by decide) ?_
        refine nr_icmp_ne (tgt := 53) dL_does_42 (by decide) (fun _ => ?_) (fun _ => ?_)
        · refine nr_aload_n 0 dL_does_45 rfl ?_
          refine nr_iload_n 2 dL_does_46 rfl ?_
          refine nr_rcv (ks := [18]) (pre := [.inl v2]) (fun a10 hm => ?_)
          refine nr_tryI hs_L_does (st := []) (nk_callV (q := (RX11, TX11, 9)) (ci := 11) (c_X11_read (G := G) hl0 h a10 v2) dL_does_47 (List.mem_singleton.mp hm) rfl rfl my_X11_read im_X11_read se_RX11_X11_read ml_RL_21 rfl rfl (Nat.le_of_ble_eq_true rfl) (by decide) (by decide)) rfl (List.mem_of_getElem? (i := 0) rfl) ⟨⟨by decide, by decide, by decide, cl_RL_56, by decide +kernel, ⟨_, _, dL_does_221, by decide, dL_does_223, kc_RL_58, dL_does_225⟩⟩, ⟨by decide, by decide, by decide, cl_RL_59, by decide +kernel, ⟨_, _, dL_does_226, by decide, dL_does_228, kc_RL_58, dL_does_230⟩⟩, ⟨by decide, by decide, by decide, cl_RL_61, by decide +kernel, ⟨_, _, dL_does_231, by decide, dL_does_233, kc_RL_58, dL_does_235⟩⟩, trivial⟩ (fun h11 x12 => ?_)
          refine nr_goto (tgt := 220) dL_does_50 (by decide) ?_
          exact nk_locals [] rfl (s_L_does_c220 hl0  h11 x12)
        · refine nr_iload_n 1 dL_does_53 rfl ?_
          refine nr_iconst (v := 4) dL_does_54 (by decide) ?_
          refine nr_icmp_ne (tgt := 69) dL_does_55 (by decide) (fun _ => ?_) (fun _ => ?_)
          · refine nr_aload_n 0 dL_does_58 rfl ?_
            refine nr_iload_n 2 dL_does_59 rfl ?_
            refine nr_iload_n 3 dL_does_60 rfl ?_
            refine nr_iload 4 dL_does_61 rfl ?_
            refine nr_rcv (ks := [18]) (pre := [.inl v4, .inl v3, .inl v2]) (fun a13 hm => ?_)
            refine nr_tryI hs_L_does (st := []) (nk_callV (q := (RX11, TX11, 9)) (ci := 11) (c_X11_grant (G := G) hl0 h a13 v2 v3 v4) dL_does_63 (List.mem_singleton.mp hm) rfl rfl my_X11_grant im_X11_grant se_RX11_X11_grant ml_RL_24 rfl rfl (Nat.le_of_ble_eq_true rfl) (by decide) (by decide)) rfl (List.mem_of_getElem? (i := 0) rfl) ⟨⟨by decide, by decide, by decide, cl_RL_56, by decide +kernel, ⟨_, _, dL_does_221, by decide, dL_does_223, kc_RL_58, dL_does_225⟩⟩, ⟨by decide, by decide, by decide, cl_RL_59, by decide +kernel, ⟨_, _, dL_does_226, by decide, dL_does_228, kc_RL_58, dL_does_230⟩⟩, ⟨by decide, by decide, by decide, cl_RL_61, by decide +kernel, ⟨_, _, dL_does_231, by decide, dL_does_233, kc_RL_58, dL_does_235⟩⟩, trivial⟩ (fun h14 x15 => ?_)
            refine nr_goto (tgt := 220) dL_does_66 (by decide) ?_
            exact nk_locals [] rfl (s_L_does_c220 hl0  h14 x15)
          · refine nr_iload_n 1 dL_does_69 rfl ?_
            refine nr_iconst (v := 5) dL_does_70 (by decide) ?_
            refine nr_icmp_ne (tgt := 85) dL_does_71 (by decide) (fun _ => ?_) (fun _ => ?_)
            · refine nr_aload_n 0 dL_does_74 rfl ?_
              refine nr_iload_n 2 dL_does_75 rfl ?_
              refine nr_iload_n 3 dL_does_76 rfl ?_
              refine nr_iload 4 dL_does_77 rfl ?_
              refine nr_rcv (ks := [18]) (pre := [.inl v4, .inl v3, .inl v2]) (fun a16 hm => ?_)
              refine nr_tryI hs_L_does (st := []) (nk_callV (q := (RX11, TX11, 9)) (ci := 11) (c_X11_passOn (G := G) hl0 h a16 v2 v3 v4) dL_does_79 (List.mem_singleton.mp hm) rfl rfl my_X11_passOn im_X11_passOn se_RX11_X11_passOn ml_RL_28 rfl rfl (Nat.le_of_ble_eq_true rfl) (by decide) (by decide)) rfl (List.mem_of_getElem? (i := 0) rfl) ⟨⟨by decide, by decide, by decide, cl_RL_56, by decide +kernel, ⟨_, _, dL_does_221, by decide, dL_does_223, kc_RL_58, dL_does_225⟩⟩, ⟨by decide, by decide, by decide, cl_RL_59, by decide +kernel, ⟨_, _, dL_does_226, by decide, dL_does_228, kc_RL_58, dL_does_230⟩⟩, ⟨by decide, by decide, by decide, cl_RL_61, by decide +kernel, ⟨_, _, dL_does_231, by decide, dL_does_233, kc_RL_58, dL_does_235⟩⟩, trivial⟩ (fun h17 x18 => ?_)
              refine nr_goto (tgt := 220) dL_does_82 (by decide) ?_
              exact nk_locals [] rfl (s_L_does_c220 hl0  h17 x18)
            · refine nr_iload_n 1 dL_does_85 rfl ?_
              refine nr_bipush (v := 6) dL_does_86 (by decide) ?_
              refine nr_icmp_ne (tgt := 102) dL_does_88 (by decide) (fun _ => ?_) (fun _ => ?_)
              · refine nr_aload_n 0 dL_does_91 rfl ?_
                refine nr_iload_n 2 dL_does_92 rfl ?_
                refine nr_iload_n 3 dL_does_93 rfl ?_
                refine nr_iload 4 dL_does_94 rfl ?_
                refine nr_rcv (ks := [18]) (pre := [.inl v4, .inl v3, .inl v2]) (fun a19 hm => ?_)
                refine nr_tryI hs_L_does (st := []) (nk_callV (q := (RX11, TX11, 9)) (ci := 11) (c_X11_revoke (G := G) hl0 h a19 v2 v3 v4) dL_does_96 (List.mem_singleton.mp hm) rfl rfl my_X11_revoke im_X11_revoke se_RX11_X11_revoke ml_RL_31 rfl rfl (Nat.le_of_ble_eq_true rfl) (by decide) (by decide)) rfl (List.mem_of_getElem? (i := 0) rfl) ⟨⟨by decide, by decide, by decide, cl_RL_56, by decide +kernel, ⟨_, _, dL_does_221, by decide, dL_does_223, kc_RL_58, dL_does_225⟩⟩, ⟨by decide, by decide, by decide, cl_RL_59, by decide +kernel, ⟨_, _, dL_does_226, by decide, dL_does_228, kc_RL_58, dL_does_230⟩⟩, ⟨by decide, by decide, by decide, cl_RL_61, by decide +kernel, ⟨_, _, dL_does_231, by decide, dL_does_233, kc_RL_58, dL_does_235⟩⟩, trivial⟩ (fun h20 x21 => ?_)
                refine nr_goto (tgt := 220) dL_does_99 (by decide) ?_
                exact nk_locals [] rfl (s_L_does_c220 hl0  h20 x21)
              · refine nr_iload_n 1 dL_does_102 rfl ?_
                refine nr_bipush (v := 7) dL_does_103 (by decide) ?_
                refine nr_icmp_ne (tgt := 119) dL_does_105 (by decide) (fun _ => ?_) (fun _ => ?_)
                · refine nr_aload_n 0 dL_does_108 rfl ?_
                  refine nr_iload_n 2 dL_does_109 rfl ?_
                  refine nr_iload_n 3 dL_does_110 rfl ?_
                  refine nr_iload 4 dL_does_111 rfl ?_
                  refine nr_rcv (ks := [18]) (pre := [.inl v4, .inl v3, .inl v2]) (fun a22 hm => ?_)
                  refine nr_tryI hs_L_does (st := []) (nk_callV (q := (RX11, TX11, 9)) (ci := 11) (c_X11_depute (G := G) hl0 h a22 v2 v3 v4) dL_does_113 (List.mem_singleton.mp hm) rfl rfl my_X11_depute im_X11_depute se_RX11_X11_depute ml_RL_34 rfl rfl (Nat.le_of_ble_eq_true rfl) (by decide) (by decide)) rfl (List.mem_of_getElem? (i := 0) rfl) ⟨⟨by decide, by decide, by decide, cl_RL_56, by decide +kernel, ⟨_, _, dL_does_221, by decide, dL_does_223, kc_RL_58, dL_does_225⟩⟩, ⟨by decide, by decide, by decide, cl_RL_59, by decide +kernel, ⟨_, _, dL_does_226, by decide, dL_does_228, kc_RL_58, dL_does_230⟩⟩, ⟨by decide, by decide, by decide, cl_RL_61, by decide +kernel, ⟨_, _, dL_does_231, by decide, dL_does_233, kc_RL_58, dL_does_235⟩⟩, trivial⟩ (fun h23 x24 => ?_)
                  refine nr_goto (tgt := 220) dL_does_116 (by decide) ?_
                  exact nk_locals [] rfl (s_L_does_c220 hl0  h23 x24)
                · refine nr_iload_n 1 dL_does_119 rfl ?_
                  refine nr_bipush (v := 8) dL_does_120 (by decide) ?_
                  refine nr_icmp_ne (tgt := 138) dL_does_122 (by decide) (fun _ => ?_) (fun _ => ?_)
                  · refine nr_aload_n 0 dL_does_125 rfl ?_
                    refine nr_iload_n 2 dL_does_126 rfl ?_
                    refine nr_iload_n 3 dL_does_127 rfl ?_
                    refine nr_iload 4 dL_does_128 rfl ?_
                    refine nr_iload 5 dL_does_130 rfl ?_
                    refine nr_rcv (ks := [18]) (pre := [.inl v5, .inl v4, .inl v3, .inl v2]) (fun a25 hm => ?_)
                    refine nr_tryI hs_L_does (st := []) (nk_callV (q := (RX11, TX11, 9)) (ci := 11) (c_X11_act (G := G) hl0 h a25 v2 v3 v4 v5) dL_does_132 (List.mem_singleton.mp hm) rfl rfl my_X11_act im_X11_act se_RX11_X11_act ml_RL_37 rfl rfl (Nat.le_of_ble_eq_true rfl) (by decide) (by decide)) rfl (List.mem_of_getElem? (i := 0) rfl) ⟨⟨by decide, by decide, by decide, cl_RL_56, by decide +kernel, ⟨_, _, dL_does_221, by decide, dL_does_223, kc_RL_58, dL_does_225⟩⟩, ⟨by decide, by decide, by decide, cl_RL_59, by decide +kernel, ⟨_, _, dL_does_226, by decide, dL_does_228, kc_RL_58, dL_does_230⟩⟩, ⟨by decide, by decide, by decide, cl_RL_61, by decide +kernel, ⟨_, _, dL_does_231, by decide, dL_does_233, kc_RL_58, dL_does_235⟩⟩, trivial⟩ (fun h26 x27 => ?_)
                    refine nr_goto (tgt := 220) dL_does_135 (by decide) ?_
                    exact nk_locals [] rfl (s_L_does_c220 hl0  h26 x27)
                  · refine nr_iload_n 1 dL_does_138 rfl ?_
                    refine nr_bipush (v := 9) dL_does_139 (by decide) ?_
                    refine nr_icmp_ne (tgt := 155) dL_does_141 (by decide) (fun _ => ?_) (fun _ => ?_)
                    · refine nr_aload_n 0 dL_does_144 rfl ?_
                      refine nr_iload_n 2 dL_does_145 rfl ?_
                      refine nr_iload_n 3 dL_does_146 rfl ?_
                      refine nr_iload 4 dL_does_147 rfl ?_
                      refine nr_rcv (ks := [18]) (pre := [.inl v4, .inl v3, .inl v2]) (fun a28 hm => ?_)
                      refine nr_tryI hs_L_does (st := []) (nk_callV (q := (RX11, TX11, 9)) (ci := 11) (c_X11_tamper (G := G) hl0 h a28 v2 v3 v4) dL_does_149 (List.mem_singleton.mp hm) rfl rfl my_X11_tamper im_X11_tamper se_RX11_X11_tamper ml_RL_41 rfl rfl (Nat.le_of_ble_eq_true rfl) (by decide) (by decide)) rfl (List.mem_of_getElem? (i := 0) rfl) ⟨⟨by decide, by decide, by decide, cl_RL_56, by decide +kernel, ⟨_, _, dL_does_221, by decide, dL_does_223, kc_RL_58, dL_does_225⟩⟩, ⟨by decide, by decide, by decide, cl_RL_59, by decide +kernel, ⟨_, _, dL_does_226, by decide, dL_does_228, kc_RL_58, dL_does_230⟩⟩, ⟨by decide, by decide, by decide, cl_RL_61, by decide +kernel, ⟨_, _, dL_does_231, by decide, dL_does_233, kc_RL_58, dL_does_235⟩⟩, trivial⟩ (fun h29 x30 => ?_)
                      refine nr_goto (tgt := 220) dL_does_152 (by decide) ?_
                      exact nk_locals [] rfl (s_L_does_c220 hl0  h29 x30)
                    · refine nr_iload_n 1 dL_does_155 rfl ?_
                      refine nr_bipush (v := 10) dL_does_156 (by decide) ?_
                      refine nr_icmp_ne (tgt := 174) dL_does_158 (by decide) (fun _ => ?_) (fun _ => ?_)
                      · refine nr_aload_n 0 dL_does_161 rfl ?_
                        refine nr_iload_n 2 dL_does_162 rfl ?_
                        refine nr_iload_n 3 dL_does_163 rfl ?_
                        refine nr_iload 4 dL_does_164 rfl ?_
                        refine nr_iload 5 dL_does_166 rfl ?_
                        refine nr_rcv (ks := [18]) (pre := [.inl v5, .inl v4, .inl v3, .inl v2]) (fun a31 hm => ?_)
                        refine nr_tryI hs_L_does (st := []) (nk_callV (q := (RX11, TX11, 9)) (ci := 11) (c_X11_copy (G := G) hl0 h a31 v2 v3 v4 v5) dL_does_168 (List.mem_singleton.mp hm) rfl rfl my_X11_copy im_X11_copy se_RX11_X11_copy ml_RL_44 rfl rfl (Nat.le_of_ble_eq_true rfl) (by decide) (by decide)) rfl (List.mem_of_getElem? (i := 0) rfl) ⟨⟨by decide, by decide, by decide, cl_RL_56, by decide +kernel, ⟨_, _, dL_does_221, by decide, dL_does_223, kc_RL_58, dL_does_225⟩⟩, ⟨by decide, by decide, by decide, cl_RL_59, by decide +kernel, ⟨_, _, dL_does_226, by decide, dL_does_228, kc_RL_58, dL_does_230⟩⟩, ⟨by decide, by decide, by decide, cl_RL_61, by decide +kernel, ⟨_, _, dL_does_231, by decide, dL_does_233, kc_RL_58, dL_does_235⟩⟩, trivial⟩ (fun h32 x33 => ?_)
                        refine nr_goto (tgt := 220) dL_does_171 (by decide) ?_
                        exact nk_locals [] rfl (s_L_does_c220 hl0  h32 x33)
                      · refine nr_iload_n 1 dL_does_174 rfl ?_
                        refine nr_bipush (v := 11) dL_does_175 (by decide) ?_
                        refine nr_icmp_ne (tgt := 193) dL_does_177 (by decide) (fun _ => ?_) (fun _ => ?_)
                        · refine nr_aload_n 0 dL_does_180 rfl ?_
                          refine nr_iload_n 2 dL_does_181 rfl ?_
                          refine nr_iload_n 3 dL_does_182 rfl ?_
                          refine nr_iload 4 dL_does_183 rfl ?_
                          refine nr_iload 5 dL_does_185 rfl ?_
                          refine nr_rcv (ks := [18]) (pre := [.inl v5, .inl v4, .inl v3, .inl v2]) (fun a34 hm => ?_)
                          refine nr_tryI hs_L_does (st := []) (nk_callV (q := (RX11, TX11, 9)) (ci := 11) (c_X11_forge (G := G) hl0 h a34 v2 v3 v4 v5) dL_does_187 (List.mem_singleton.mp hm) rfl rfl my_X11_forge im_X11_forge se_RX11_X11_forge ml_RL_47 rfl rfl (Nat.le_of_ble_eq_true rfl) (by decide) (by decide)) rfl (List.mem_of_getElem? (i := 0) rfl) ⟨⟨by decide, by decide, by decide, cl_RL_56, by decide +kernel, ⟨_, _, dL_does_221, by decide, dL_does_223, kc_RL_58, dL_does_225⟩⟩, ⟨by decide, by decide, by decide, cl_RL_59, by decide +kernel, ⟨_, _, dL_does_226, by decide, dL_does_228, kc_RL_58, dL_does_230⟩⟩, ⟨by decide, by decide, by decide, cl_RL_61, by decide +kernel, ⟨_, _, dL_does_231, by decide, dL_does_233, kc_RL_58, dL_does_235⟩⟩, trivial⟩ (fun h35 x36 => ?_)
                          refine nr_goto (tgt := 220) dL_does_190 (by decide) ?_
                          exact nk_locals [] rfl (s_L_does_c220 hl0  h35 x36)
                        · refine nr_iload_n 1 dL_does_193 rfl ?_
                          refine nr_bipush (v := 12) dL_does_194 (by decide) ?_
                          refine nr_icmp_ne (tgt := 212) dL_does_196 (by decide) (fun _ => ?_) (fun _ => ?_)
                          · refine nr_aload_n 0 dL_does_199 rfl ?_
                            refine nr_iload_n 2 dL_does_200 rfl ?_
                            refine nr_iload_n 3 dL_does_201 rfl ?_
                            refine nr_iload 4 dL_does_202 rfl ?_
                            refine nr_iload 5 dL_does_204 rfl ?_
                            refine nr_rcv (ks := [18]) (pre := [.inl v5, .inl v4, .inl v3, .inl v2]) (fun a37 hm => ?_)
                            refine nr_tryI hs_L_does (st := []) (nk_callV (q := (RX11, TX11, 9)) (ci := 11) (c_X11_against (G := G) hl0 h a37 v2 v3 v4 v5) dL_does_206 (List.mem_singleton.mp hm) rfl rfl my_X11_against im_X11_against se_RX11_X11_against ml_RL_50 rfl rfl (Nat.le_of_ble_eq_true rfl) (by decide) (by decide)) rfl (List.mem_of_getElem? (i := 0) rfl) ⟨⟨by decide, by decide, by decide, cl_RL_56, by decide +kernel, ⟨_, _, dL_does_221, by decide, dL_does_223, kc_RL_58, dL_does_225⟩⟩, ⟨by decide, by decide, by decide, cl_RL_59, by decide +kernel, ⟨_, _, dL_does_226, by decide, dL_does_228, kc_RL_58, dL_does_230⟩⟩, ⟨by decide, by decide, by decide, cl_RL_61, by decide +kernel, ⟨_, _, dL_does_231, by decide, dL_does_233, kc_RL_58, dL_does_235⟩⟩, trivial⟩ (fun h38 x39 => ?_)
                            refine nr_goto (tgt := 220) dL_does_209 (by decide) ?_
                            exact nk_locals [] rfl (s_L_does_c220 hl0  h38 x39)
                          · refine nr_aload_n 0 dL_does_212 rfl ?_
                            refine nr_iload_n 2 dL_does_213 rfl ?_
                            refine nr_iload_n 3 dL_does_214 rfl ?_
                            refine nr_iload 4 dL_does_215 rfl ?_
                            refine nr_rcv (ks := [18]) (pre := [.inl v4, .inl v3, .inl v2]) (fun a40 hm => ?_)
                            refine nr_tryI hs_L_does (st := []) (nk_callV (q := (RX11, TX11, 9)) (ci := 11) (c_X11_choices (G := G) hl0 h a40 v2 v3 v4) dL_does_217 (List.mem_singleton.mp hm) rfl rfl my_X11_choices im_X11_choices se_RX11_X11_choices ml_RL_53 rfl rfl (Nat.le_of_ble_eq_true rfl) (by decide) (by decide)) rfl (List.mem_of_getElem? (i := 0) rfl) ⟨⟨by decide, by decide, by decide, cl_RL_56, by decide +kernel, ⟨_, _, dL_does_221, by decide, dL_does_223, kc_RL_58, dL_does_225⟩⟩, ⟨by decide, by decide, by decide, cl_RL_59, by decide +kernel, ⟨_, _, dL_does_226, by decide, dL_does_228, kc_RL_58, dL_does_230⟩⟩, ⟨by decide, by decide, by decide, cl_RL_61, by decide +kernel, ⟨_, _, dL_does_231, by decide, dL_does_233, kc_RL_58, dL_does_235⟩⟩, trivial⟩ (fun h41 x42 => ?_)
                            exact nk_locals [] rfl (s_L_does_c220 hl0  h41 x42)
theorem c_L_does {G : nk_G} {l : Launch} (hl0 : l.flags = flags0) (h : nk_H) (v0 : Option Nat) (v1 : Int32) (v2 : Int32) (v3 : Int32) (v4 : Int32) (v5 : Int32) : nk_ConW G l yL_does cL_does 7 (some FieldType.int) [(0, 220, 221, 56), (0, 220, 226, 59), (0, 220, 231, 61)] 10 235 nk_eI [.inr v0, .inl v1, .inl v2, .inl v3, .inl v4, .inl v5] h (f_L_does h v0 v1 v2 v3 v4 v5) :=
  nk_conW (ini := false) (by decide) hl0 (Nat.le_of_ble_eq_true rfl) (by decide) rfl (by decide +kernel) (s_L_does hl0 h v0 v1 v2 v3 v4 v5)
set_option maxHeartbeats 4000000 in
theorem s_L_tells_c25 {G : nk_G} {l : Launch} (hl0 : l.flags = flags0)   (h : nk_H)   : nk_Sim G l RL cL_tells 7 (some FieldType.int) 8 129 false nk_eIt 25 [] [] h (f_L_tells_c25   h  ) := by
  unfold f_L_tells_c25
  refine nr_iconst (v := 0) dL_tells_25 (by decide) ?_
  exact nr_iret rfl rfl dL_tells_26
set_option maxHeartbeats 4000000 in
theorem s_L_tells {G : nk_G} {l : Launch} (hl0 : l.flags = flags0) (h : nk_H) (v0 : Option Nat) (v1 : Int32) (v2 : Int32) (v3 : Int32) (v4 : Int32) (v5 : Int32) (v6 : Int32) : nk_Sim G l RL cL_tells 7 (some FieldType.int) 8 129 false nk_eIt 0 [(0, .inr v0), (1, .inl v1), (2, .inl v2), (3, .inl v3), (4, .inl v4), (5, .inl v5), (6, .inl v6)] [] h (f_L_tells  h v0 v1 v2 v3 v4 v5 v6) := by
  unfold f_L_tells
  refine nr_iload_n 1 dL_tells_0 rfl ?_
  refine nr_if_eq (tgt := 19) dL_tells_1 (by decide) (fun _ => ?_) (fun _ => ?_)
  · refine nr_aload_n 0 dL_tells_19 rfl ?_
    refine nr_iload_n 2 dL_tells_20 rfl ?_
    refine nr_iload_n 3 dL_tells_21 rfl ?_
    refine nr_rcv (ks := [18]) (pre := [.inl v3, .inl v2]) (fun a1 hm => ?_)
    refine nr_dtV (st := []) (nk_callV (q := (RX11, TX11, 9)) (ci := 11) (c_X11_prepare (G := G) hl0 h a1 v2 v3) dL_tells_22 (List.mem_singleton.mp hm) rfl rfl my_X11_prepare im_X11_prepare se_RX11_X11_prepare ml_RL_73 rfl rfl (Nat.le_of_ble_eq_true rfl) (by decide) (by decide)) (fun _ => rfl) (fun h2 x3 => ?_) (hnl := Or.inr (List.mem_of_getElem? (i := 2) rfl))
    exact nk_locals [] rfl (s_L_tells_c25 hl0  h2)
  · refine nr_aload_n 0 dL_tells_4 rfl ?_
    refine nr_iload_n 2 dL_tells_5 rfl ?_
    refine nr_iload_n 3 dL_tells_6 rfl ?_
    refine nr_iload 4 dL_tells_7 rfl ?_
    refine nr_iload 5 dL_tells_9 rfl ?_
    refine nr_iload 6 dL_tells_11 rfl ?_
    refine nr_rcv (ks := [18]) (pre := [.inl v6, .inl v5, .inl v4, .inl v3, .inl v2]) (fun a4 hm => ?_)
    refine nr_dtV (st := []) (nk_callV (q := (RX11, TX11, 9)) (ci := 11) (c_X11_draft (G := G) hl0 h a4 v2 v3 v4 v5 v6) dL_tells_13 (List.mem_singleton.mp hm) rfl rfl my_X11_draft im_X11_draft se_RX11_X11_draft ml_RL_69 rfl rfl (Nat.le_of_ble_eq_true rfl) (by decide) (by decide)) (fun _ => rfl) (fun h5 x6 => ?_) (hnl := Or.inr (List.mem_of_getElem? (i := 2) rfl))
    refine nr_goto (tgt := 25) dL_tells_16 (by decide) ?_
    exact nk_locals [] rfl (s_L_tells_c25 hl0  h5)
theorem c_L_tells {G : nk_G} {l : Launch} (hl0 : l.flags = flags0) (h : nk_H) (v0 : Option Nat) (v1 : Int32) (v2 : Int32) (v3 : Int32) (v4 : Int32) (v5 : Int32) (v6 : Int32) : nk_Con G l yL_tells cL_tells 7 (some FieldType.int) 8 129 nk_eIt [.inr v0, .inl v1, .inl v2, .inl v3, .inl v4, .inl v5, .inl v6] h (f_L_tells h v0 v1 v2 v3 v4 v5 v6) :=
  nk_con (ini := false) (by decide) hl0 (Nat.le_of_ble_eq_true rfl) (by decide) (s_L_tells hl0 h v0 v1 v2 v3 v4 v5 v6) (Or.inr (List.mem_of_getElem? (i := 2) rfl)) (fun _ => by decide +kernel)
set_option maxHeartbeats 4000000 in
theorem s_L_tell {G : nk_G} {l : Launch} (hl0 : l.flags = flags0) (h : nk_H) (v0 : Option Nat) (v1 : Int32) (v2 : Int32) (v3 : Int32) (v4 : Int32) (v5 : Int32) (v6 : Int32) : nk_Sim G l RL cL_tell 8 (some FieldType.int) 9 155 false nk_eI 0 [(0, .inr v0), (1, .inl v1), (2, .inl v2), (3, .inl v3), (4, .inl v4), (5, .inl v5), (6, .inl v6)] [] h (f_L_tell  h v0 v1 v2 v3 v4 v5 v6) := by
  unfold f_L_tell
  refine nr_aload_n 0 dL_tell_0 rfl ?_
  refine nr_iload_n 1 dL_tell_1 rfl ?_
  refine nr_iload_n 2 dL_tell_2 rfl ?_
  refine nr_iload_n 3 dL_tell_3 rfl ?_
  refine nr_iload 4 dL_tell_4 rfl ?_
  refine nr_iload 5 dL_tell_6 rfl ?_
  refine nr_iload 6 dL_tell_8 rfl ?_
  refine nr_tryI hs_L_tell (st := []) (nk_callS (c_L_tells (G := G) hl0 h v0 v1 v2 v3 v4 v5 v6) dL_tell_10 my_L_tells st_L_tells ml_RL_63 rfl rfl (Nat.le_of_ble_eq_true rfl) (by decide) (by decide)) rfl (List.mem_of_getElem? (i := 1) rfl) ⟨⟨by decide, by decide, by decide, cl_RL_59, by decide +kernel, ⟨_, _, dL_tell_14, by decide, dL_tell_16, kc_RL_58, dL_tell_18⟩⟩, trivial⟩ (fun h1 x2 => ?_)
  exact nr_iret rfl rfl dL_tell_13
theorem c_L_tell {G : nk_G} {l : Launch} (hl0 : l.flags = flags0) (h : nk_H) (v0 : Option Nat) (v1 : Int32) (v2 : Int32) (v3 : Int32) (v4 : Int32) (v5 : Int32) (v6 : Int32) : nk_ConW G l yL_tell cL_tell 8 (some FieldType.int) [(0, 13, 14, 59)] 9 155 nk_eI [.inr v0, .inl v1, .inl v2, .inl v3, .inl v4, .inl v5, .inl v6] h (f_L_tell h v0 v1 v2 v3 v4 v5 v6) :=
  nk_conW (ini := false) (by decide) hl0 (Nat.le_of_ble_eq_true rfl) (by decide) rfl (by decide +kernel) (s_L_tell hl0 h v0 v1 v2 v3 v4 v5 v6)
set_option maxHeartbeats 4000000 in
theorem s_L_looks_c65 {G : nk_G} {l : Launch} (hl0 : l.flags = flags0)   (h : nk_H)  (s0 : Int32) : nk_Sim G l RL cL_looks 5 (some FieldType.int) 8 150 false nk_eI 65 [] [.inl s0] h (f_L_looks_c65   h  s0) := by
  unfold f_L_looks_c65
  exact nr_iret rfl rfl dL_looks_65
set_option maxHeartbeats 4000000 in
theorem s_L_looks {G : nk_G} {l : Launch} (hl0 : l.flags = flags0) (h : nk_H) (v0 : Option Nat) (v1 : Int32) (v2 : Int32) (v3 : Int32) : nk_Sim G l RL cL_looks 5 (some FieldType.int) 8 150 false nk_eI 0 [(0, .inr v0), (1, .inl v1), (2, .inl v2), (3, .inl v3)] [] h (f_L_looks  h v0 v1 v2 v3) := by
  unfold f_L_looks
  refine nr_iload_n 1 dL_looks_0 rfl ?_
  refine nr_if_ne (tgt := 12) dL_looks_1 (by decide) (fun _ => ?_) (fun _ => ?_)
  · refine nr_aload_n 0 dL_looks_4 rfl ?_
    refine nr_iload_n 2 dL_looks_5 rfl ?_
    refine nr_rcv (ks := [18]) (pre := [.inl v2]) (fun a1 hm => ?_)
    refine nr_tryI hs_L_looks (st := []) (nk_callV (q := (RX11, TX11, 9)) (ci := 11) (c_X11_broken (G := G) hl0 h a1 v2) dL_looks_6 (List.mem_singleton.mp hm) rfl rfl my_X11_broken im_X11_broken se_RX11_X11_broken ml_RL_77 rfl rfl (Nat.le_of_ble_eq_true rfl) (by decide) (by decide)) rfl (List.mem_of_getElem? (i := 2) rfl) ⟨⟨by decide, by decide, by decide, cl_RL_56, by decide +kernel, ⟨_, _, dL_looks_66, by decide, dL_looks_68, kc_RL_58, dL_looks_70⟩⟩, trivial⟩ (fun h2 x3 => ?_)
    refine nr_goto (tgt := 65) dL_looks_9 (by decide) ?_
    exact nk_locals [] rfl (s_L_looks_c65 hl0  h2 x3)
  · refine nr_iload_n 1 dL_looks_12 rfl ?_
    refine nr_iconst (v := 1) dL_looks_13 (by decide) ?_
    refine nr_icmp_ne (tgt := 26) dL_looks_14 (by decide) (fun _ => ?_) (fun _ => ?_)
    · refine nr_aload_n 0 dL_looks_17 rfl ?_
      refine nr_iload_n 2 dL_looks_18 rfl ?_
      refine nr_iload_n 3 dL_looks_19 rfl ?_
      refine nr_rcv (ks := [18]) (pre := [.inl v3, .inl v2]) (fun a4 hm => ?_)
      refine nr_tryI hs_L_looks (st := []) (nk_callV (q := (RX11, TX11, 9)) (ci := 11) (c_X11_done (G := G) hl0 h a4 v2 v3) dL_looks_20 (List.mem_singleton.mp hm) rfl rfl my_X11_done im_X11_done se_RX11_X11_done ml_RL_80 rfl rfl (Nat.le_of_ble_eq_true rfl) (by decide) (by decide)) rfl (List.mem_of_getElem? (i := 2) rfl) ⟨⟨by decide, by decide, by decide, cl_RL_56, by decide +kernel, ⟨_, _, dL_looks_66, by decide, dL_looks_68, kc_RL_58, dL_looks_70⟩⟩, trivial⟩ (fun h5 x6 => ?_)
      refine nr_goto (tgt := 65) dL_looks_23 (by decide) ?_
      exact nk_locals [] rfl (s_L_looks_c65 hl0  h5 x6)
    · refine nr_iload_n 1 dL_looks_26 rfl ?_
      refine nr_iconst (v := 2) dL_looks_27 (by decide) ?_
      refine nr_icmp_ne (tgt := 39) dL_looks_28 (by decide) (fun _ => ?_) (fun _ => ?_)
      · refine nr_aload_n 0 dL_looks_31 rfl ?_
        refine nr_iload_n 2 dL_looks_32 rfl ?_
        refine nr_rcv (ks := [18]) (pre := [.inl v2]) (fun a7 hm => ?_)
        refine nr_tryI hs_L_looks (st := []) (nk_callV (q := (RX11, TX11, 9)) (ci := 11) (c_X11_size (G := G) hl0 h a7 v2) dL_looks_33 (List.mem_singleton.mp hm) rfl rfl my_X11_size im_X11_size se_RX11_X11_size ml_RL_83 rfl rfl (Nat.le_of_ble_eq_true rfl) (by decide) (by decide)) rfl (List.mem_of_getElem? (i := 2) rfl) ⟨⟨by decide, by decide, by decide, cl_RL_56, by decide +kernel, ⟨_, _, dL_looks_66, by decide, dL_looks_68, kc_RL_58, dL_looks_70⟩⟩, trivial⟩ (fun h8 x9 => ?_)
        refine nr_goto (tgt := 65) dL_looks_36 (by decide) ?_
        exact nk_locals [] rfl (s_L_looks_c65 hl0  h8 x9)
      · refine nr_iload_n 1 dL_looks_39 rfl ?_
        refine nr_iconst (v := 3) dL_looks_40 (by decide) ?_
        refine nr_icmp_ne (tgt := 52) dL_looks_41 (by decide) (fun _ => ?_) (fun _ => ?_)
        · refine nr_aload_n 0 dL_looks_44 rfl ?_
          refine nr_iload_n 2 dL_looks_45 rfl ?_
          refine nr_rcv (ks := [18]) (pre := [.inl v2]) (fun a10 hm => ?_)
          refine nr_tryI hs_L_looks (st := []) (nk_callV (q := (RX11, TX11, 9)) (ci := 11) (c_X11_brokenCopy (G := G) hl0 h a10 v2) dL_looks_46 (List.mem_singleton.mp hm) rfl rfl my_X11_brokenCopy im_X11_brokenCopy se_RX11_X11_brokenCopy ml_RL_86 rfl rfl (Nat.le_of_ble_eq_true rfl) (by decide) (by decide)) rfl (List.mem_of_getElem? (i := 2) rfl) ⟨⟨by decide, by decide, by decide, cl_RL_56, by decide +kernel, ⟨_, _, dL_looks_66, by decide, dL_looks_68, kc_RL_58, dL_looks_70⟩⟩, trivial⟩ (fun h11 x12 => ?_)
          refine nr_goto (tgt := 65) dL_looks_49 (by decide) ?_
          exact nk_locals [] rfl (s_L_looks_c65 hl0  h11 x12)
        · refine nr_aload_n 0 dL_looks_52 rfl ?_
          refine nr_iload_n 2 dL_looks_53 rfl ?_
          refine nr_rcv (ks := [18]) (pre := [.inl v2]) (fun a13 hm => ?_)
          refine nr_tryI hs_L_looks (st := []) (nk_callV (q := (RX11, TX11, 9)) (ci := 11) (c_X11_isTrue (G := G) hl0 h a13 v2) dL_looks_54 (List.mem_singleton.mp hm) rfl rfl my_X11_isTrue im_X11_isTrue se_RX11_X11_isTrue ml_RL_89 rfl rfl (Nat.le_of_ble_eq_true rfl) (by decide) (by decide)) rfl (List.mem_of_getElem? (i := 2) rfl) ⟨⟨by decide, by decide, by decide, cl_RL_56, by decide +kernel, ⟨_, _, dL_looks_66, by decide, dL_looks_68, kc_RL_58, dL_looks_70⟩⟩, trivial⟩ (fun h14 x15 => ?_)
          refine nr_if_eq (tgt := 64) dL_looks_57 (by decide) (fun _ => ?_) (fun _ => ?_)
          · refine nr_iconst (v := 0) dL_looks_64 (by decide) ?_
            exact nk_locals [] rfl (s_L_looks_c65 hl0  h14 0)
          · refine nr_iconst (v := 1) dL_looks_60 (by decide) ?_
            refine nr_goto (tgt := 65) dL_looks_61 (by decide) ?_
            exact nk_locals [] rfl (s_L_looks_c65 hl0  h14 1)
theorem c_L_looks {G : nk_G} {l : Launch} (hl0 : l.flags = flags0) (h : nk_H) (v0 : Option Nat) (v1 : Int32) (v2 : Int32) (v3 : Int32) : nk_ConW G l yL_looks cL_looks 5 (some FieldType.int) [(0, 65, 66, 56)] 8 150 nk_eI [.inr v0, .inl v1, .inl v2, .inl v3] h (f_L_looks h v0 v1 v2 v3) :=
  nk_conW (ini := false) (by decide) hl0 (Nat.le_of_ble_eq_true rfl) (by decide) rfl (by decide +kernel) (s_L_looks hl0 h v0 v1 v2 v3)
set_option maxHeartbeats 4000000 in
theorem s_L_act_c148 {G : nk_G} {l : Launch} (hl0 : l.flags = flags0)   (h : nk_H)  (s0 : Int32) (s1 : Int32) (s2 : Int32) (s3 : Int32) (s4 : Option Nat) : nk_Sim G l RL cL_act 10 (some FieldType.int) 11 261 false nk_eI 148 [] [.inl s0, .inl s1, .inl s2, .inl s3, .inr s4] h (f_L_act_c148   h  s0 s1 s2 s3 s4) := by
  unfold f_L_act_c148
  refine nr_doI (st := [.inl s2, .inl s3, .inr s4]) (nk_callS (c_L_low (G := G) hl0 h s1 s0) dL_act_148 my_L_low st_L_low ml_RL_93 rfl rfl (Nat.le_of_ble_eq_true rfl) (by decide) (by decide)) (fun h1 x2 => ?_)
  refine nr_iconst (v := 0) dL_act_151 (by decide) ?_
  refine nr_iconst (v := 0) dL_act_152 (by decide) ?_
  refine nr_doI (st := []) (nk_callSW (c_L_does (G := G) hl0 h1 s4 s3 s2 x2 0 0) dL_act_153 my_L_does st_L_does ml_RL_100 rfl rfl (Nat.le_of_ble_eq_true rfl) (by decide) (by decide)) (fun h3 x4 => ?_)
  exact nr_iret rfl rfl dL_act_156
set_option maxHeartbeats 4000000 in
theorem s_L_act_c132 {G : nk_G} {l : Launch} (hl0 : l.flags = flags0)   (h : nk_H) (v1 : Int32) (v2 : Int32) (v4 : Int32) (s0 : Int32) (s1 : Option Nat) : nk_Sim G l RL cL_act 10 (some FieldType.int) 11 261 false nk_eI 132 [(1, .inl v1), (2, .inl v2), (4, .inl v4)] [.inl s0, .inr s1] h (f_L_act_c132   h v1 v2 v4 s0 s1) := by
  unfold f_L_act_c132
  refine nr_iload 2 dL_act_132 rfl ?_
  refine nr_iload_n 0 dL_act_134 rfl ?_
  refine nr_bipush (v := 9) dL_act_135 (by decide) ?_
  refine nr_ishr dL_act_137 ?_
  refine nr_iload_n 1 dL_act_138 rfl ?_
  refine nr_if_eq (tgt := 147) dL_act_139 (by decide) (fun _ => ?_) (fun _ => ?_)
  · refine nr_iconst (v := 4) dL_act_147 (by decide) ?_
    exact nk_locals [] rfl (s_L_act_c148 hl0  h 4 (v1 >>> (9 &&& 31)) v4 s0 s1)
  · refine nr_bipush (v := 8) dL_act_142 (by decide) ?_
    refine nr_goto (tgt := 148) dL_act_144 (by decide) ?_
    exact nk_locals [] rfl (s_L_act_c148 hl0  h 8 (v1 >>> (9 &&& 31)) v4 s0 s1)
set_option maxHeartbeats 4000000 in
theorem s_L_act_c216 {G : nk_G} {l : Launch} (hl0 : l.flags = flags0)   (h : nk_H)  (s0 : Int32) : nk_Sim G l RL cL_act 10 (some FieldType.int) 11 261 false nk_eI 216 [] [.inl s0] h (f_L_act_c216   h  s0) := by
  unfold f_L_act_c216
  exact nr_iret rfl rfl dL_act_216
set_option maxHeartbeats 4000000 in
theorem s_L_act_c197 {G : nk_G} {l : Launch} (hl0 : l.flags = flags0)   (h : nk_H)  (s0 : Int32) (s1 : Int32) (s2 : Option Nat) : nk_Sim G l RL cL_act 10 (some FieldType.int) 11 261 false nk_eI 197 [] [.inl s0, .inl s1, .inr s2] h (f_L_act_c197   h  s0 s1 s2) := by
  unfold f_L_act_c197
  refine nr_iconst (v := 0) dL_act_197 (by decide) ?_
  refine nr_iconst (v := 0) dL_act_198 (by decide) ?_
  refine nr_iconst (v := 0) dL_act_199 (by decide) ?_
  refine nr_doI (st := []) (nk_callSW (c_L_does (G := G) hl0 h s2 s1 s0 0 0 0) dL_act_200 my_L_does st_L_does ml_RL_100 rfl rfl (Nat.le_of_ble_eq_true rfl) (by decide) (by decide)) (fun h5 x6 => ?_)
  refine nr_goto (tgt := 216) dL_act_203 (by decide) ?_
  exact s_L_act_c216 hl0  h5 x6
set_option maxHeartbeats 4000000 in
theorem s_L_act_c414 {G : nk_G} {l : Launch} (hl0 : l.flags = flags0)   (h : nk_H)  (s0 : Int32) : nk_Sim G l RL cL_act 10 (some FieldType.int) 11 261 false nk_eI 414 [] [.inl s0] h (f_L_act_c414   h  s0) := by
  unfold f_L_act_c414
  exact nr_iret rfl rfl dL_act_414
set_option maxHeartbeats 4000000 in
theorem s_L_act_c288 {G : nk_G} {l : Launch} (hl0 : l.flags = flags0)   (h : nk_H)  (s0 : Int32) (s1 : Int32) (s2 : Int32) (s3 : Option Nat) : nk_Sim G l RL cL_act 10 (some FieldType.int) 11 261 false nk_eI 288 [] [.inl s0, .inl s1, .inl s2, .inr s3] h (f_L_act_c288   h  s0 s1 s2 s3) := by
  unfold f_L_act_c288
  refine nr_iconst (v := 0) dL_act_288 (by decide) ?_
  refine nr_iconst (v := 0) dL_act_289 (by decide) ?_
  refine nr_iconst (v := 0) dL_act_290 (by decide) ?_
  refine nr_doI (st := []) (nk_callSW (c_L_tell (G := G) hl0 h s3 s2 s1 s0 0 0 0) dL_act_291 my_L_tell st_L_tell ml_RL_104 rfl rfl (Nat.le_of_ble_eq_true rfl) (by decide) (by decide)) (fun h7 x8 => ?_)
  refine nr_goto (tgt := 414) dL_act_294 (by decide) ?_
  exact s_L_act_c414 hl0  h7 x8
set_option maxHeartbeats 4000000 in
theorem s_L_act_c262 {G : nk_G} {l : Launch} (hl0 : l.flags = flags0)   (h : nk_H) (v1 : Int32) (v2 : Int32) (s0 : Int32) (s1 : Int32) (s2 : Option Nat) : nk_Sim G l RL cL_act 10 (some FieldType.int) 11 261 false nk_eI 262 [(1, .inl v1), (2, .inl v2)] [.inl s0, .inl s1, .inr s2] h (f_L_act_c262   h v1 v2 s0 s1 s2) := by
  unfold f_L_act_c262
  refine nr_iload_n 1 dL_act_262 rfl ?_
  refine nr_if_eq (tgt := 280) dL_act_263 (by decide) (fun _ => ?_) (fun _ => ?_)
  · refine nr_iload_n 0 dL_act_280 rfl ?_
    refine nr_bipush (v := 7) dL_act_281 (by decide) ?_
    refine nr_ishr dL_act_283 ?_
    refine nr_iconst (v := 3) dL_act_284 (by decide) ?_
    refine nr_doI (st := [.inl s0, .inl s1, .inr s2]) (nk_callS (c_L_low (G := G) hl0 h (v1 >>> (7 &&& 31)) 3) dL_act_285 my_L_low st_L_low ml_RL_93 rfl rfl (Nat.le_of_ble_eq_true rfl) (by decide) (by decide)) (fun h9 x10 => ?_)
    exact nk_locals [] rfl (s_L_act_c288 hl0  h9 x10 s0 s1 s2)
  · refine nr_iload_n 0 dL_act_266 rfl ?_
    refine nr_bipush (v := 7) dL_act_267 (by decide) ?_
    refine nr_ishr dL_act_269 ?_
    refine nr_bipush (v := 9) dL_act_270 (by decide) ?_
    refine nr_doI (st := [.inl s0, .inl s1, .inr s2]) (nk_callS (c_L_low (G := G) hl0 h (v1 >>> (7 &&& 31)) 9) dL_act_272 my_L_low st_L_low ml_RL_93 rfl rfl (Nat.le_of_ble_eq_true rfl) (by decide) (by decide)) (fun h11 x12 => ?_)
    refine nr_iconst (v := 1) dL_act_275 (by decide) ?_
    refine nr_isub dL_act_276 ?_
    refine nr_goto (tgt := 288) dL_act_277 (by decide) ?_
    exact nk_locals [] rfl (s_L_act_c288 hl0  h11 (x12 - 1) s0 s1 s2)
set_option maxHeartbeats 4000000 in
theorem s_L_act_c411 {G : nk_G} {l : Launch} (hl0 : l.flags = flags0)   (h : nk_H)  (s0 : Int32) (s1 : Int32) (s2 : Int32) (s3 : Int32) (s4 : Int32) (s5 : Int32) (s6 : Option Nat) : nk_Sim G l RL cL_act 10 (some FieldType.int) 11 261 false nk_eI 411 [] [.inl s0, .inl s1, .inl s2, .inl s3, .inl s4, .inl s5, .inr s6] h (f_L_act_c411   h  s0 s1 s2 s3 s4 s5 s6) := by
  unfold f_L_act_c411
  refine nr_doI (st := []) (nk_callSW (c_L_tell (G := G) hl0 h s6 s5 s4 s3 s2 s1 s0) dL_act_411 my_L_tell st_L_tell ml_RL_104 rfl rfl (Nat.le_of_ble_eq_true rfl) (by decide) (by decide)) (fun h13 x14 => ?_)
  exact s_L_act_c414 hl0  h13 x14
set_option maxHeartbeats 4000000 in
theorem s_L_act_c384 {G : nk_G} {l : Launch} (hl0 : l.flags = flags0)   (h : nk_H) (v1 : Int32) (v2 : Int32) (s0 : Int32) (s1 : Int32) (s2 : Int32) (s3 : Int32) (s4 : Int32) (s5 : Int32) (s6 : Option Nat) : nk_Sim G l RL cL_act 10 (some FieldType.int) 11 261 false nk_eI 384 [(1, .inl v1), (2, .inl v2)] [.inl s0, .inl s1, .inl s2, .inl s3, .inl s4, .inl s5, .inr s6] h (f_L_act_c384   h v1 v2 s0 s1 s2 s3 s4 s5 s6) := by
  unfold f_L_act_c384
  refine nr_doI (st := [.inl s2, .inl s3, .inl s4, .inl s5, .inr s6]) (nk_callS (c_L_low (G := G) hl0 h s1 s0) dL_act_384 my_L_low st_L_low ml_RL_93 rfl rfl (Nat.le_of_ble_eq_true rfl) (by decide) (by decide)) (fun h15 x16 => ?_)
  refine nr_iload_n 1 dL_act_387 rfl ?_
  refine nr_if_eq (tgt := 405) dL_act_388 (by decide) (fun _ => ?_) (fun _ => ?_)
  · refine nr_iload_n 0 dL_act_405 rfl ?_
    refine nr_bipush (v := 14) dL_act_406 (by decide) ?_
    refine nr_ishr dL_act_408 ?_
    refine nr_iconst (v := 3) dL_act_409 (by decide) ?_
    refine nr_iand dL_act_410 ?_
    exact nk_locals [] rfl (s_L_act_c411 hl0  h15 ((v1 >>> (14 &&& 31)) &&& 3) x16 s2 s3 s4 s5 s6)
  · refine nr_iload_n 0 dL_act_391 rfl ?_
    refine nr_bipush (v := 14) dL_act_392 (by decide) ?_
    refine nr_ishr dL_act_394 ?_
    refine nr_bipush (v := 7) dL_act_395 (by decide) ?_
    refine nr_doI (st := [.inl x16, .inl s2, .inl s3, .inl s4, .inl s5, .inr s6]) (nk_callS (c_L_low (G := G) hl0 h15 (v1 >>> (14 &&& 31)) 7) dL_act_397 my_L_low st_L_low ml_RL_93 rfl rfl (Nat.le_of_ble_eq_true rfl) (by decide) (by decide)) (fun h17 x18 => ?_)
    refine nr_iconst (v := 1) dL_act_400 (by decide) ?_
    refine nr_isub dL_act_401 ?_
    refine nr_goto (tgt := 411) dL_act_402 (by decide) ?_
    exact nk_locals [] rfl (s_L_act_c411 hl0  h17 (x18 - 1) x16 s2 s3 s4 s5 s6)
set_option maxHeartbeats 4000000 in
theorem s_L_act_c364 {G : nk_G} {l : Launch} (hl0 : l.flags = flags0)   (h : nk_H) (v1 : Int32) (v2 : Int32) (s0 : Int32) (s1 : Int32) (s2 : Int32) (s3 : Int32) (s4 : Int32) (s5 : Int32) (s6 : Option Nat) : nk_Sim G l RL cL_act 10 (some FieldType.int) 11 261 false nk_eI 364 [(1, .inl v1), (2, .inl v2)] [.inl s0, .inl s1, .inl s2, .inl s3, .inl s4, .inl s5, .inr s6] h (f_L_act_c364   h v1 v2 s0 s1 s2 s3 s4 s5 s6) := by
  unfold f_L_act_c364
  refine nr_doI (st := [.inl s2, .inl s3, .inl s4, .inl s5, .inr s6]) (nk_callS (c_L_low (G := G) hl0 h s1 s0) dL_act_364 my_L_low st_L_low ml_RL_93 rfl rfl (Nat.le_of_ble_eq_true rfl) (by decide) (by decide)) (fun h19 x20 => ?_)
  refine nr_iadd dL_act_367 ?_
  refine nr_iload_n 0 dL_act_368 rfl ?_
  refine nr_bipush (v := 11) dL_act_369 (by decide) ?_
  refine nr_ishr dL_act_371 ?_
  refine nr_iload_n 1 dL_act_372 rfl ?_
  refine nr_if_eq (tgt := 382) dL_act_373 (by decide) (fun _ => ?_) (fun _ => ?_)
  · refine nr_bipush (v := 30) dL_act_382 (by decide) ?_
    exact s_L_act_c384 hl0  h19 v1 v2 30 (v1 >>> (11 &&& 31)) (s2 + x20) s3 s4 s5 s6
  · refine nr_sipush (v := 420) dL_act_376 (by decide) ?_
    refine nr_goto (tgt := 384) dL_act_379 (by decide) ?_
    exact s_L_act_c384 hl0  h19 v1 v2 420 (v1 >>> (11 &&& 31)) (s2 + x20) s3 s4 s5 s6
set_option maxHeartbeats 4000000 in
theorem s_L_act_c343 {G : nk_G} {l : Launch} (hl0 : l.flags = flags0)   (h : nk_H) (v1 : Int32) (v2 : Int32) (s0 : Int32) (s1 : Int32) (s2 : Int32) (s3 : Int32) (s4 : Int32) (s5 : Option Nat) : nk_Sim G l RL cL_act 10 (some FieldType.int) 11 261 false nk_eI 343 [(1, .inl v1), (2, .inl v2)] [.inl s0, .inl s1, .inl s2, .inl s3, .inl s4, .inr s5] h (f_L_act_c343   h v1 v2 s0 s1 s2 s3 s4 s5) := by
  unfold f_L_act_c343
  refine nr_doI (st := [.inl s2, .inl s3, .inl s4, .inr s5]) (nk_callS (c_L_low (G := G) hl0 h s1 s0) dL_act_343 my_L_low st_L_low ml_RL_93 rfl rfl (Nat.le_of_ble_eq_true rfl) (by decide) (by decide)) (fun h21 x22 => ?_)
  refine nr_iadd dL_act_346 ?_
  refine nr_iconst (v := 1) dL_act_347 (by decide) ?_
  refine nr_iload_n 0 dL_act_348 rfl ?_
  refine nr_bipush (v := 9) dL_act_349 (by decide) ?_
  refine nr_ishr dL_act_351 ?_
  refine nr_iload_n 1 dL_act_352 rfl ?_
  refine nr_if_eq (tgt := 361) dL_act_353 (by decide) (fun _ => ?_) (fun _ => ?_)
  · refine nr_sipush (v := 20000) dL_act_361 (by decide) ?_
    exact s_L_act_c364 hl0  h21 v1 v2 20000 (v1 >>> (9 &&& 31)) 1 (s2 + x22) s3 s4 s5
  · refine nr_ldc (v := 110000) dL_act_356 kc_RL_107 ?_
    refine nr_goto (tgt := 364) dL_act_358 (by decide) ?_
    exact s_L_act_c364 hl0  h21 v1 v2 110000 (v1 >>> (9 &&& 31)) 1 (s2 + x22) s3 s4 s5
set_option maxHeartbeats 4000000 in
theorem s_L_act_c325 {G : nk_G} {l : Launch} (hl0 : l.flags = flags0)   (h : nk_H) (v1 : Int32) (v2 : Int32) (s0 : Int32) (s1 : Int32) (s2 : Option Nat) : nk_Sim G l RL cL_act 10 (some FieldType.int) 11 261 false nk_eI 325 [(1, .inl v1), (2, .inl v2)] [.inl s0, .inl s1, .inr s2] h (f_L_act_c325   h v1 v2 s0 s1 s2) := by
  unfold f_L_act_c325
  refine nr_iconst (v := 1) dL_act_325 (by decide) ?_
  refine nr_iload_n 0 dL_act_326 rfl ?_
  refine nr_bipush (v := 7) dL_act_327 (by decide) ?_
  refine nr_ishr dL_act_329 ?_
  refine nr_iload_n 1 dL_act_330 rfl ?_
  refine nr_if_eq (tgt := 340) dL_act_331 (by decide) (fun _ => ?_) (fun _ => ?_)
  · refine nr_sipush (v := 5000) dL_act_340 (by decide) ?_
    exact s_L_act_c343 hl0  h v1 v2 5000 (v1 >>> (7 &&& 31)) 1 s0 s1 s2
  · refine nr_sipush (v := 11000) dL_act_334 (by decide) ?_
    refine nr_goto (tgt := 343) dL_act_337 (by decide) ?_
    exact s_L_act_c343 hl0  h v1 v2 11000 (v1 >>> (7 &&& 31)) 1 s0 s1 s2
set_option maxHeartbeats 4000000 in
theorem s_L_act_c557 {G : nk_G} {l : Launch} (hl0 : l.flags = flags0)   (h : nk_H) (v0 : Option Nat) (v4 : Int32) (v7 : Int32) (v8 : Int32) (s0 : Int32) : nk_Sim G l RL cL_act 10 (some FieldType.int) 11 261 false nk_eI 557 [(0, .inr v0), (4, .inl v4), (7, .inl v7), (8, .inl v8)] [.inl s0] h (f_L_act_c557   h v0 v4 v7 v8 s0) := by
  unfold f_L_act_c557
  refine nr_istore (lv2 := [(9, .inl s0), (0, .inr v0), (4, .inl v4), (7, .inl v7), (8, .inl v8)]) dL_act_557 (by decide) rfl ?_
  refine nr_aload_n 1 dL_act_559 rfl ?_
  refine nr_iload 3 dL_act_560 rfl ?_
  refine nr_iload 2 dL_act_562 rfl ?_
  refine nr_iload 4 dL_act_564 rfl ?_
  refine nr_iload 0 dL_act_566 rfl ?_
  refine nr_iconst (v := 0) dL_act_568 (by decide) ?_
  refine nr_doI (st := []) (nk_callSW (c_L_does (G := G) hl0 h v0 v7 v4 v8 s0 0) dL_act_569 my_L_does st_L_does ml_RL_100 rfl rfl (Nat.le_of_ble_eq_true rfl) (by decide) (by decide)) (fun h23 x24 => ?_)
  exact nr_iret rfl rfl dL_act_572
set_option maxHeartbeats 4000000 in
theorem s_L_act_c533 {G : nk_G} {l : Launch} (hl0 : l.flags = flags0)   (h : nk_H) (v0 : Option Nat) (v4 : Int32) (v7 : Int32) (v8 : Int32) (s0 : Int32) (s1 : Int32) : nk_Sim G l RL cL_act 10 (some FieldType.int) 11 261 false nk_eI 533 [(0, .inr v0), (4, .inl v4), (7, .inl v7), (8, .inl v8)] [.inl s0, .inl s1] h (f_L_act_c533   h v0 v4 v7 v8 s0 s1) := by
  unfold f_L_act_c533
  refine nr_doI (st := []) (nk_callS (c_L_low (G := G) hl0 h s1 s0) dL_act_533 my_L_low st_L_low ml_RL_93 rfl rfl (Nat.le_of_ble_eq_true rfl) (by decide) (by decide)) (fun h25 x26 => ?_)
  refine nr_goto (tgt := 557) dL_act_536 (by decide) ?_
  exact s_L_act_c557 hl0  h25 v0 v4 v7 v8 x26
set_option maxHeartbeats 4000000 in
theorem s_L_act_c554 {G : nk_G} {l : Launch} (hl0 : l.flags = flags0)   (h : nk_H) (v0 : Option Nat) (v4 : Int32) (v7 : Int32) (v8 : Int32) (s0 : Int32) (s1 : Int32) : nk_Sim G l RL cL_act 10 (some FieldType.int) 11 261 false nk_eI 554 [(0, .inr v0), (4, .inl v4), (7, .inl v7), (8, .inl v8)] [.inl s0, .inl s1] h (f_L_act_c554   h v0 v4 v7 v8 s0 s1) := by
  unfold f_L_act_c554
  refine nr_doI (st := []) (nk_callS (c_L_low (G := G) hl0 h s1 s0) dL_act_554 my_L_low st_L_low ml_RL_93 rfl rfl (Nat.le_of_ble_eq_true rfl) (by decide) (by decide)) (fun h27 x28 => ?_)
  exact s_L_act_c557 hl0  h27 v0 v4 v7 v8 x28
set_option maxHeartbeats 4000000 in
theorem s_L_act_c497 {G : nk_G} {l : Launch} (hl0 : l.flags = flags0)   (h : nk_H) (v0 : Option Nat) (v1 : Int32) (v2 : Int32) (v4 : Int32) (v6 : Int32) (v7 : Int32) (s0 : Int32) : nk_Sim G l RL cL_act 10 (some FieldType.int) 11 261 false nk_eI 497 [(0, .inr v0), (1, .inl v1), (2, .inl v2), (4, .inl v4), (6, .inl v6), (7, .inl v7)] [.inl s0] h (f_L_act_c497   h v0 v1 v2 v4 v6 v7 s0) := by
  unfold f_L_act_c497
  refine nr_istore (lv2 := [(8, .inl s0), (0, .inr v0), (1, .inl v1), (2, .inl v2), (4, .inl v4), (6, .inl v6), (7, .inl v7)]) dL_act_497 (by decide) rfl ?_
  refine nr_iload 6 dL_act_499 rfl ?_
  refine nr_bipush (v := 6) dL_act_501 (by decide) ?_
  refine nr_icmp_ne (tgt := 511) dL_act_503 (by decide) (fun _ => ?_) (fun _ => ?_)
  · refine nr_iload 5 dL_act_506 rfl ?_
    refine nr_goto (tgt := 557) dL_act_508 (by decide) ?_
    exact nk_locals [1, 4, 6, 0] rfl (s_L_act_c557 hl0  h v0 v4 v7 s0 v6)
  · refine nr_iload 6 dL_act_511 rfl ?_
    refine nr_bipush (v := 7) dL_act_513 (by decide) ?_
    refine nr_icmp_ne (tgt := 539) dL_act_515 (by decide) (fun _ => ?_) (fun _ => ?_)
    · refine nr_iload_n 2 dL_act_518 rfl ?_
      refine nr_bipush (v := 12) dL_act_519 (by decide) ?_
      refine nr_ishr dL_act_521 ?_
      refine nr_iload_n 3 dL_act_522 rfl ?_
      refine nr_if_eq (tgt := 531) dL_act_523 (by decide) (fun _ => ?_) (fun _ => ?_)
      · refine nr_bipush (v := 8) dL_act_531 (by decide) ?_
        exact nk_locals [1, 4, 6, 0] rfl (s_L_act_c533 hl0  h v0 v4 v7 s0 8 (v1 >>> (12 &&& 31)))
      · refine nr_bipush (v := 110) dL_act_526 (by decide) ?_
        refine nr_goto (tgt := 533) dL_act_528 (by decide) ?_
        exact nk_locals [1, 4, 6, 0] rfl (s_L_act_c533 hl0  h v0 v4 v7 s0 110 (v1 >>> (12 &&& 31)))
    · refine nr_iload_n 2 dL_act_539 rfl ?_
      refine nr_bipush (v := 12) dL_act_540 (by decide) ?_
      refine nr_ishr dL_act_542 ?_
      refine nr_iload_n 3 dL_act_543 rfl ?_
      refine nr_if_eq (tgt := 552) dL_act_544 (by decide) (fun _ => ?_) (fun _ => ?_)
      · refine nr_bipush (v := 6) dL_act_552 (by decide) ?_
        exact nk_locals [1, 4, 6, 0] rfl (s_L_act_c554 hl0  h v0 v4 v7 s0 6 (v1 >>> (12 &&& 31)))
      · refine nr_bipush (v := 12) dL_act_547 (by decide) ?_
        refine nr_goto (tgt := 554) dL_act_549 (by decide) ?_
        exact nk_locals [1, 4, 6, 0] rfl (s_L_act_c554 hl0  h v0 v4 v7 s0 12 (v1 >>> (12 &&& 31)))
set_option maxHeartbeats 4000000 in
theorem s_L_act_c489 {G : nk_G} {l : Launch} (hl0 : l.flags = flags0)   (h : nk_H) (v0 : Option Nat) (v1 : Int32) (v2 : Int32) (v4 : Int32) (v6 : Int32) (v7 : Int32) (s0 : Int32) (s1 : Int32) : nk_Sim G l RL cL_act 10 (some FieldType.int) 11 261 false nk_eI 489 [(0, .inr v0), (1, .inl v1), (2, .inl v2), (4, .inl v4), (6, .inl v6), (7, .inl v7)] [.inl s0, .inl s1] h (f_L_act_c489   h v0 v1 v2 v4 v6 v7 s0 s1) := by
  unfold f_L_act_c489
  refine nr_doI (st := []) (nk_callS (c_L_low (G := G) hl0 h s1 s0) dL_act_489 my_L_low st_L_low ml_RL_93 rfl rfl (Nat.le_of_ble_eq_true rfl) (by decide) (by decide)) (fun h29 x30 => ?_)
  refine nr_goto (tgt := 497) dL_act_492 (by decide) ?_
  exact s_L_act_c497 hl0  h29 v0 v1 v2 v4 v6 v7 x30
set_option maxHeartbeats 4000000 in
theorem s_L_act_c454 {G : nk_G} {l : Launch} (hl0 : l.flags = flags0)   (h : nk_H) (v0 : Option Nat) (v1 : Int32) (v2 : Int32) (v4 : Int32) (v5 : Int32) (v6 : Int32) (s0 : Int32) : nk_Sim G l RL cL_act 10 (some FieldType.int) 11 261 false nk_eI 454 [(0, .inr v0), (1, .inl v1), (2, .inl v2), (4, .inl v4), (5, .inl v5), (6, .inl v6)] [.inl s0] h (f_L_act_c454   h v0 v1 v2 v4 v5 v6 s0) := by
  unfold f_L_act_c454
  refine nr_istore (lv2 := [(7, .inl s0), (0, .inr v0), (1, .inl v1), (2, .inl v2), (4, .inl v4), (5, .inl v5), (6, .inl v6)]) dL_act_454 (by decide) rfl ?_
  refine nr_iload 0 dL_act_456 rfl ?_
  refine nr_iconst (v := 5) dL_act_458 (by decide) ?_
  refine nr_icmp_ne (tgt := 467) dL_act_459 (by decide) (fun _ => ?_) (fun _ => ?_)
  · refine nr_iload 6 dL_act_462 rfl ?_
    refine nr_goto (tgt := 497) dL_act_464 (by decide) ?_
    exact nk_locals [1, 2, 3, 4, 6, 0] rfl (s_L_act_c497 hl0  h v0 v1 v2 v4 v6 s0 v6)
  · refine nr_iload 0 dL_act_467 rfl ?_
    refine nr_bipush (v := 7) dL_act_469 (by decide) ?_
    refine nr_icmp_ne (tgt := 495) dL_act_471 (by decide) (fun _ => ?_) (fun _ => ?_)
    · refine nr_iload_n 2 dL_act_474 rfl ?_
      refine nr_bipush (v := 9) dL_act_475 (by decide) ?_
      refine nr_ishr dL_act_477 ?_
      refine nr_iload_n 3 dL_act_478 rfl ?_
      refine nr_if_eq (tgt := 487) dL_act_479 (by decide) (fun _ => ?_) (fun _ => ?_)
      · refine nr_bipush (v := 6) dL_act_487 (by decide) ?_
        exact nk_locals [1, 2, 3, 4, 6, 0] rfl (s_L_act_c489 hl0  h v0 v1 v2 v4 v6 s0 6 (v1 >>> (9 &&& 31)))
      · refine nr_bipush (v := 110) dL_act_482 (by decide) ?_
        refine nr_goto (tgt := 489) dL_act_484 (by decide) ?_
        exact nk_locals [1, 2, 3, 4, 6, 0] rfl (s_L_act_c489 hl0  h v0 v1 v2 v4 v6 s0 110 (v1 >>> (9 &&& 31)))
    · refine nr_iload 5 dL_act_495 rfl ?_
      exact nk_locals [1, 2, 3, 4, 6, 0] rfl (s_L_act_c497 hl0  h v0 v1 v2 v4 v6 s0 v5)
set_option maxHeartbeats 4000000 in
theorem s_L_act_c652 {G : nk_G} {l : Launch} (hl0 : l.flags = flags0)   (h : nk_H)  (s0 : Int32) (s1 : Int32) (s2 : Int32) (s3 : Int32) (s4 : Int32) (s5 : Option Nat) : nk_Sim G l RL cL_act 10 (some FieldType.int) 11 261 false nk_eI 652 [] [.inl s0, .inl s1, .inl s2, .inl s3, .inl s4, .inr s5] h (f_L_act_c652   h  s0 s1 s2 s3 s4 s5) := by
  unfold f_L_act_c652
  refine nr_doI (st := []) (nk_callSW (c_L_does (G := G) hl0 h s5 s4 s3 s2 s1 s0) dL_act_652 my_L_does st_L_does ml_RL_100 rfl rfl (Nat.le_of_ble_eq_true rfl) (by decide) (by decide)) (fun h31 x32 => ?_)
  exact nr_iret rfl rfl dL_act_655
set_option maxHeartbeats 4000000 in
theorem s_L_act_c612 {G : nk_G} {l : Launch} (hl0 : l.flags = flags0)   (h : nk_H) (v0 : Option Nat) (v1 : Int32) (v2 : Int32) (v4 : Int32) (v6 : Int32) (s0 : Int32) : nk_Sim G l RL cL_act 10 (some FieldType.int) 11 261 false nk_eI 612 [(0, .inr v0), (1, .inl v1), (2, .inl v2), (4, .inl v4), (6, .inl v6)] [.inl s0] h (f_L_act_c612   h v0 v1 v2 v4 v6 s0) := by
  unfold f_L_act_c612
  refine nr_istore (lv2 := [(7, .inl s0), (0, .inr v0), (1, .inl v1), (2, .inl v2), (4, .inl v4), (6, .inl v6)]) dL_act_612 (by decide) rfl ?_
  refine nr_aload_n 1 dL_act_614 rfl ?_
  refine nr_bipush (v := 8) dL_act_615 (by decide) ?_
  refine nr_iload 4 dL_act_617 rfl ?_
  refine nr_iload 0 dL_act_619 rfl ?_
  refine nr_iload 5 dL_act_621 rfl ?_
  refine nr_iload_n 3 dL_act_623 rfl ?_
  refine nr_if_eq (tgt := 640) dL_act_624 (by decide) (fun _ => ?_) (fun _ => ?_)
  · refine nr_iconst (v := 1) dL_act_640 (by decide) ?_
    refine nr_iload_n 2 dL_act_641 rfl ?_
    refine nr_bipush (v := 11) dL_act_642 (by decide) ?_
    refine nr_ishr dL_act_644 ?_
    refine nr_sipush (v := 3000) dL_act_645 (by decide) ?_
    refine nr_doI (st := [.inl 1, .inl v6, .inl s0, .inl v4, .inl 8, .inr v0]) (nk_callS (c_L_low (G := G) hl0 h (v1 >>> (11 &&& 31)) 3000) dL_act_648 my_L_low st_L_low ml_RL_93 rfl rfl (Nat.le_of_ble_eq_true rfl) (by decide) (by decide)) (fun h33 x34 => ?_)
    refine nr_iadd dL_act_651 ?_
    exact nk_locals [] rfl (s_L_act_c652 hl0  h33 (1 + x34) v6 s0 v4 8 v0)
  · refine nr_iload_n 2 dL_act_627 rfl ?_
    refine nr_bipush (v := 11) dL_act_628 (by decide) ?_
    refine nr_ishr dL_act_630 ?_
    refine nr_sipush (v := 11000) dL_act_631 (by decide) ?_
    refine nr_doI (st := [.inl v6, .inl s0, .inl v4, .inl 8, .inr v0]) (nk_callS (c_L_low (G := G) hl0 h (v1 >>> (11 &&& 31)) 11000) dL_act_634 my_L_low st_L_low ml_RL_93 rfl rfl (Nat.le_of_ble_eq_true rfl) (by decide) (by decide)) (fun h35 x36 => ?_)
    refine nr_goto (tgt := 652) dL_act_637 (by decide) ?_
    exact nk_locals [] rfl (s_L_act_c652 hl0  h35 x36 v6 s0 v4 8 v0)
set_option maxHeartbeats 4000000 in
theorem s_L_act_c610 {G : nk_G} {l : Launch} (hl0 : l.flags = flags0)   (h : nk_H) (v0 : Option Nat) (v1 : Int32) (v2 : Int32) (v4 : Int32) (v5 : Int32) (v6 : Int32)  : nk_Sim G l RL cL_act 10 (some FieldType.int) 11 261 false nk_eI 610 [(0, .inr v0), (1, .inl v1), (2, .inl v2), (4, .inl v4), (5, .inl v5), (6, .inl v6)] [] h (f_L_act_c610   h v0 v1 v2 v4 v5 v6 ) := by
  unfold f_L_act_c610
  refine nr_iload 4 dL_act_610 rfl ?_
  exact nk_locals [0, 1, 2, 3, 5] rfl (s_L_act_c612 hl0  h v0 v1 v2 v4 v6 v5)
set_option maxHeartbeats 4000000 in
theorem s_L_act_c848 {G : nk_G} {l : Launch} (hl0 : l.flags = flags0)   (h : nk_H)  (s0 : Int32) : nk_Sim G l RL cL_act 10 (some FieldType.int) 11 261 false nk_eI 848 [] [.inl s0] h (f_L_act_c848   h  s0) := by
  unfold f_L_act_c848
  exact nr_iret rfl rfl dL_act_848
set_option maxHeartbeats 4000000 in
theorem s_L_act_c704 {G : nk_G} {l : Launch} (hl0 : l.flags = flags0)   (h : nk_H)  (s0 : Int32) (s1 : Int32) (s2 : Int32) (s3 : Int32) (s4 : Option Nat) : nk_Sim G l RL cL_act 10 (some FieldType.int) 11 261 false nk_eI 704 [] [.inl s0, .inl s1, .inl s2, .inl s3, .inr s4] h (f_L_act_c704   h  s0 s1 s2 s3 s4) := by
  unfold f_L_act_c704
  refine nr_iconst (v := 0) dL_act_704 (by decide) ?_
  refine nr_doI (st := []) (nk_callSW (c_L_does (G := G) hl0 h s4 s3 s2 s1 s0 0) dL_act_705 my_L_does st_L_does ml_RL_100 rfl rfl (Nat.le_of_ble_eq_true rfl) (by decide) (by decide)) (fun h37 x38 => ?_)
  refine nr_goto (tgt := 848) dL_act_708 (by decide) ?_
  exact s_L_act_c848 hl0  h37 x38
set_option maxHeartbeats 4000000 in
theorem s_L_act_c766 {G : nk_G} {l : Launch} (hl0 : l.flags = flags0)   (h : nk_H)  (s0 : Int32) (s1 : Int32) (s2 : Int32) (s3 : Int32) (s4 : Int32) (s5 : Option Nat) : nk_Sim G l RL cL_act 10 (some FieldType.int) 11 261 false nk_eI 766 [] [.inl s0, .inl s1, .inl s2, .inl s3, .inl s4, .inr s5] h (f_L_act_c766   h  s0 s1 s2 s3 s4 s5) := by
  unfold f_L_act_c766
  refine nr_doI (st := []) (nk_callSW (c_L_does (G := G) hl0 h s5 s4 s3 s2 s1 s0) dL_act_766 my_L_does st_L_does ml_RL_100 rfl rfl (Nat.le_of_ble_eq_true rfl) (by decide) (by decide)) (fun h39 x40 => ?_)
  refine nr_goto (tgt := 848) dL_act_769 (by decide) ?_
  exact s_L_act_c848 hl0  h39 x40
set_option maxHeartbeats 4000000 in
theorem s_L_act_c845 {G : nk_G} {l : Launch} (hl0 : l.flags = flags0)   (h : nk_H)  (s0 : Int32) (s1 : Int32) (s2 : Int32) (s3 : Int32) (s4 : Int32) (s5 : Option Nat) : nk_Sim G l RL cL_act 10 (some FieldType.int) 11 261 false nk_eI 845 [] [.inl s0, .inl s1, .inl s2, .inl s3, .inl s4, .inr s5] h (f_L_act_c845   h  s0 s1 s2 s3 s4 s5) := by
  unfold f_L_act_c845
  refine nr_doI (st := []) (nk_callSW (c_L_does (G := G) hl0 h s5 s4 s3 s2 s1 s0) dL_act_845 my_L_does st_L_does ml_RL_100 rfl rfl (Nat.le_of_ble_eq_true rfl) (by decide) (by decide)) (fun h41 x42 => ?_)
  exact s_L_act_c848 hl0  h41 x42
set_option maxHeartbeats 4000000 in
theorem s_L_act_c815 {G : nk_G} {l : Launch} (hl0 : l.flags = flags0)   (h : nk_H) (v1 : Int32) (v2 : Int32) (s0 : Int32) (s1 : Int32) (s2 : Int32) (s3 : Int32) (s4 : Int32) (s5 : Option Nat) : nk_Sim G l RL cL_act 10 (some FieldType.int) 11 261 false nk_eI 815 [(1, .inl v1), (2, .inl v2)] [.inl s0, .inl s1, .inl s2, .inl s3, .inl s4, .inr s5] h (f_L_act_c815   h v1 v2 s0 s1 s2 s3 s4 s5) := by
  unfold f_L_act_c815
  refine nr_doI (st := [.inl s2, .inl s3, .inl s4, .inr s5]) (nk_callS (c_L_low (G := G) hl0 h s1 s0) dL_act_815 my_L_low st_L_low ml_RL_93 rfl rfl (Nat.le_of_ble_eq_true rfl) (by decide) (by decide)) (fun h43 x44 => ?_)
  refine nr_iload_n 1 dL_act_818 rfl ?_
  refine nr_if_eq (tgt := 835) dL_act_819 (by decide) (fun _ => ?_) (fun _ => ?_)
  · refine nr_iload_n 0 dL_act_835 rfl ?_
    refine nr_bipush (v := 13) dL_act_836 (by decide) ?_
    refine nr_ishr dL_act_838 ?_
    refine nr_sipush (v := 10001) dL_act_839 (by decide) ?_
    refine nr_doI (st := [.inl x44, .inl s2, .inl s3, .inl s4, .inr s5]) (nk_callS (c_L_low (G := G) hl0 h43 (v1 >>> (13 &&& 31)) 10001) dL_act_842 my_L_low st_L_low ml_RL_93 rfl rfl (Nat.le_of_ble_eq_true rfl) (by decide) (by decide)) (fun h45 x46 => ?_)
    exact nk_locals [] rfl (s_L_act_c845 hl0  h45 x46 x44 s2 s3 s4 s5)
  · refine nr_iload_n 0 dL_act_822 rfl ?_
    refine nr_bipush (v := 13) dL_act_823 (by decide) ?_
    refine nr_ishr dL_act_825 ?_
    refine nr_sipush (v := 11000) dL_act_826 (by decide) ?_
    refine nr_doI (st := [.inl x44, .inl s2, .inl s3, .inl s4, .inr s5]) (nk_callS (c_L_low (G := G) hl0 h43 (v1 >>> (13 &&& 31)) 11000) dL_act_829 my_L_low st_L_low ml_RL_93 rfl rfl (Nat.le_of_ble_eq_true rfl) (by decide) (by decide)) (fun h47 x48 => ?_)
    refine nr_goto (tgt := 845) dL_act_832 (by decide) ?_
    exact nk_locals [] rfl (s_L_act_c845 hl0  h47 x48 x44 s2 s3 s4 s5)
set_option maxHeartbeats 4000000 in
theorem s_L_act_c789 {G : nk_G} {l : Launch} (hl0 : l.flags = flags0)   (h : nk_H) (v1 : Int32) (v2 : Int32) (s0 : Int32) (s1 : Int32) (s2 : Int32) (s3 : Option Nat) : nk_Sim G l RL cL_act 10 (some FieldType.int) 11 261 false nk_eI 789 [(1, .inl v1), (2, .inl v2)] [.inl s0, .inl s1, .inl s2, .inr s3] h (f_L_act_c789   h v1 v2 s0 s1 s2 s3) := by
  unfold f_L_act_c789
  refine nr_doI (st := [.inl s2, .inr s3]) (nk_callS (c_L_low (G := G) hl0 h s1 s0) dL_act_789 my_L_low st_L_low ml_RL_93 rfl rfl (Nat.le_of_ble_eq_true rfl) (by decide) (by decide)) (fun h49 x50 => ?_)
  refine nr_iload_n 0 dL_act_792 rfl ?_
  refine nr_bipush (v := 9) dL_act_793 (by decide) ?_
  refine nr_ishr dL_act_795 ?_
  refine nr_iconst (v := 3) dL_act_796 (by decide) ?_
  refine nr_doI (st := [.inl x50, .inl s2, .inr s3]) (nk_callS (c_L_low (G := G) hl0 h49 (v1 >>> (9 &&& 31)) 3) dL_act_797 my_L_low st_L_low ml_RL_93 rfl rfl (Nat.le_of_ble_eq_true rfl) (by decide) (by decide)) (fun h51 x52 => ?_)
  refine nr_iload_n 0 dL_act_800 rfl ?_
  refine nr_bipush (v := 11) dL_act_801 (by decide) ?_
  refine nr_ishr dL_act_803 ?_
  refine nr_iload_n 1 dL_act_804 rfl ?_
  refine nr_if_eq (tgt := 813) dL_act_805 (by decide) (fun _ => ?_) (fun _ => ?_)
  · refine nr_bipush (v := 6) dL_act_813 (by decide) ?_
    exact s_L_act_c815 hl0  h51 v1 v2 6 (v1 >>> (11 &&& 31)) x52 x50 s2 s3
  · refine nr_bipush (v := 8) dL_act_808 (by decide) ?_
    refine nr_goto (tgt := 815) dL_act_810 (by decide) ?_
    exact s_L_act_c815 hl0  h51 v1 v2 8 (v1 >>> (11 &&& 31)) x52 x50 s2 s3
set_option maxHeartbeats 4000000 in
theorem s_L_act_c112 {G : nk_G} {l : Launch} (hl0 : l.flags = flags0)   (h : nk_H) (v0 : Option Nat) (v1 : Int32) (v2 : Int32) (v3 : Int32) (v4 : Int32) (v5 : Int32) (s0 : Int32) : nk_Sim G l RL cL_act 10 (some FieldType.int) 11 261 false nk_eI 112 [(0, .inr v0), (1, .inl v1), (2, .inl v2), (3, .inl v3), (4, .inl v4), (5, .inl v5)] [.inl s0] h (f_L_act_c112   h v0 v1 v2 v3 v4 v5 s0) := by
  unfold f_L_act_c112
  refine nr_istore (lv2 := [(6, .inl s0), (0, .inr v0), (1, .inl v1), (2, .inl v2), (3, .inl v3), (4, .inl v4), (5, .inl v5)]) dL_act_112 (by decide) rfl ?_
  refine nr_iload_n 4 dL_act_114 rfl ?_
  refine nr_bipush (v := 8) dL_act_115 (by decide) ?_
  refine nr_icmp_ge (tgt := 157) dL_act_117 (by decide) (fun _ => ?_) (fun _ => ?_)
  · refine nr_iload_n 4 dL_act_157 rfl ?_
    refine nr_bipush (v := 16) dL_act_158 (by decide) ?_
    refine nr_icmp_ge (tgt := 217) dL_act_160 (by decide) (fun _ => ?_) (fun _ => ?_)
    · refine nr_iload_n 4 dL_act_217 rfl ?_
      refine nr_bipush (v := 19) dL_act_218 (by decide) ?_
      refine nr_icmp_ge (tgt := 415) dL_act_220 (by decide) (fun _ => ?_) (fun _ => ?_)
      · refine nr_iload_n 4 dL_act_415 rfl ?_
        refine nr_bipush (v := 29) dL_act_416 (by decide) ?_
        refine nr_icmp_ge (tgt := 573) dL_act_418 (by decide) (fun _ => ?_) (fun _ => ?_)
        · refine nr_iload_n 4 dL_act_573 rfl ?_
          refine nr_bipush (v := 39) dL_act_574 (by decide) ?_
          refine nr_icmp_ge (tgt := 656) dL_act_576 (by decide) (fun _ => ?_) (fun _ => ?_)
          · refine nr_iload_n 4 dL_act_656 rfl ?_
            refine nr_bipush (v := 39) dL_act_657 (by decide) ?_
            refine nr_icmp_ne (tgt := 711) dL_act_659 (by decide) (fun _ => ?_) (fun _ => ?_)
            · refine nr_aload_n 1 dL_act_662 rfl ?_
              refine nr_bipush (v := 9) dL_act_663 (by decide) ?_
              refine nr_iload 5 dL_act_665 rfl ?_
              refine nr_iload_n 2 dL_act_667 rfl ?_
              refine nr_bipush (v := 9) dL_act_668 (by decide) ?_
              refine nr_ishr dL_act_670 ?_
              refine nr_iconst (v := 4) dL_act_671 (by decide) ?_
              refine nr_doI (st := [.inl v4, .inl 9, .inr v0]) (nk_callS (c_L_low (G := G) hl0 h (v1 >>> (9 &&& 31)) 4) dL_act_672 my_L_low st_L_low ml_RL_93 rfl rfl (Nat.le_of_ble_eq_true rfl) (by decide) (by decide)) (fun h53 x54 => ?_)
              refine nr_iload_n 3 dL_act_675 rfl ?_
              refine nr_if_eq (tgt := 692) dL_act_676 (by decide) (fun _ => ?_) (fun _ => ?_)
              · refine nr_iconst (v := 1) dL_act_692 (by decide) ?_
                refine nr_iload_n 2 dL_act_693 rfl ?_
                refine nr_bipush (v := 11) dL_act_694 (by decide) ?_
                refine nr_ishr dL_act_696 ?_
                refine nr_sipush (v := 10000) dL_act_697 (by decide) ?_
                refine nr_doI (st := [.inl 1, .inl x54, .inl v4, .inl 9, .inr v0]) (nk_callS (c_L_low (G := G) hl0 h53 (v1 >>> (11 &&& 31)) 10000) dL_act_700 my_L_low st_L_low ml_RL_93 rfl rfl (Nat.le_of_ble_eq_true rfl) (by decide) (by decide)) (fun h55 x56 => ?_)
                refine nr_iadd dL_act_703 ?_
                exact nk_locals [] rfl (s_L_act_c704 hl0  h55 (1 + x56) x54 v4 9 v0)
              · refine nr_iload_n 2 dL_act_679 rfl ?_
                refine nr_bipush (v := 11) dL_act_680 (by decide) ?_
                refine nr_ishr dL_act_682 ?_
                refine nr_sipush (v := 11000) dL_act_683 (by decide) ?_
                refine nr_doI (st := [.inl x54, .inl v4, .inl 9, .inr v0]) (nk_callS (c_L_low (G := G) hl0 h53 (v1 >>> (11 &&& 31)) 11000) dL_act_686 my_L_low st_L_low ml_RL_93 rfl rfl (Nat.le_of_ble_eq_true rfl) (by decide) (by decide)) (fun h57 x58 => ?_)
                refine nr_goto (tgt := 704) dL_act_689 (by decide) ?_
                exact nk_locals [] rfl (s_L_act_c704 hl0  h57 x58 x54 v4 9 v0)
            · refine nr_iload_n 4 dL_act_711 rfl ?_
              refine nr_bipush (v := 43) dL_act_712 (by decide) ?_
              refine nr_icmp_ge (tgt := 772) dL_act_714 (by decide) (fun _ => ?_) (fun _ => ?_)
              · refine nr_aload_n 1 dL_act_772 rfl ?_
                refine nr_bipush (v := 11) dL_act_773 (by decide) ?_
                refine nr_iload_n 2 dL_act_775 rfl ?_
                refine nr_bipush (v := 6) dL_act_776 (by decide) ?_
                refine nr_ishr dL_act_778 ?_
                refine nr_iload_n 3 dL_act_779 rfl ?_
                refine nr_if_eq (tgt := 788) dL_act_780 (by decide) (fun _ => ?_) (fun _ => ?_)
                · refine nr_iconst (v := 4) dL_act_788 (by decide) ?_
                  exact nk_locals [2, 3] rfl (s_L_act_c789 hl0  h v1 v2 4 (v1 >>> (6 &&& 31)) 11 v0)
                · refine nr_bipush (v := 14) dL_act_783 (by decide) ?_
                  refine nr_goto (tgt := 789) dL_act_785 (by decide) ?_
                  exact nk_locals [2, 3] rfl (s_L_act_c789 hl0  h v1 v2 14 (v1 >>> (6 &&& 31)) 11 v0)
              · refine nr_aload_n 1 dL_act_717 rfl ?_
                refine nr_bipush (v := 10) dL_act_718 (by decide) ?_
                refine nr_iload 5 dL_act_720 rfl ?_
                refine nr_iload_n 2 dL_act_722 rfl ?_
                refine nr_bipush (v := 9) dL_act_723 (by decide) ?_
                refine nr_ishr dL_act_725 ?_
                refine nr_iconst (v := 4) dL_act_726 (by decide) ?_
                refine nr_doI (st := [.inl v4, .inl 10, .inr v0]) (nk_callS (c_L_low (G := G) hl0 h (v1 >>> (9 &&& 31)) 4) dL_act_727 my_L_low st_L_low ml_RL_93 rfl rfl (Nat.le_of_ble_eq_true rfl) (by decide) (by decide)) (fun h59 x60 => ?_)
                refine nr_iload_n 2 dL_act_730 rfl ?_
                refine nr_bipush (v := 11) dL_act_731 (by decide) ?_
                refine nr_ishr dL_act_733 ?_
                refine nr_iconst (v := 5) dL_act_734 (by decide) ?_
                refine nr_doI (st := [.inl x60, .inl v4, .inl 10, .inr v0]) (nk_callS (c_L_low (G := G) hl0 h59 (v1 >>> (11 &&& 31)) 5) dL_act_735 my_L_low st_L_low ml_RL_93 rfl rfl (Nat.le_of_ble_eq_true rfl) (by decide) (by decide)) (fun h61 x62 => ?_)
                refine nr_iload_n 3 dL_act_738 rfl ?_
                refine nr_if_eq (tgt := 757) dL_act_739 (by decide) (fun _ => ?_) (fun _ => ?_)
                · refine nr_iload_n 2 dL_act_757 rfl ?_
                  refine nr_bipush (v := 13) dL_act_758 (by decide) ?_
                  refine nr_ishr dL_act_760 ?_
                  refine nr_bipush (v := 64) dL_act_761 (by decide) ?_
                  refine nr_doI (st := [.inl x62, .inl x60, .inl v4, .inl 10, .inr v0]) (nk_callS (c_L_low (G := G) hl0 h61 (v1 >>> (13 &&& 31)) 64) dL_act_763 my_L_low st_L_low ml_RL_93 rfl rfl (Nat.le_of_ble_eq_true rfl) (by decide) (by decide)) (fun h63 x64 => ?_)
                  exact nk_locals [] rfl (s_L_act_c766 hl0  h63 x64 x62 x60 v4 10 v0)
                · refine nr_iload_n 2 dL_act_742 rfl ?_
                  refine nr_bipush (v := 13) dL_act_743 (by decide) ?_
                  refine nr_ishr dL_act_745 ?_
                  refine nr_bipush (v := 80) dL_act_746 (by decide) ?_
                  refine nr_doI (st := [.inl x62, .inl x60, .inl v4, .inl 10, .inr v0]) (nk_callS (c_L_low (G := G) hl0 h61 (v1 >>> (13 &&& 31)) 80) dL_act_748 my_L_low st_L_low ml_RL_93 rfl rfl (Nat.le_of_ble_eq_true rfl) (by decide) (by decide)) (fun h65 x66 => ?_)
                  refine nr_bipush (v := 8) dL_act_751 (by decide) ?_
                  refine nr_isub dL_act_753 ?_
                  refine nr_goto (tgt := 766) dL_act_754 (by decide) ?_
                  exact nk_locals [] rfl (s_L_act_c766 hl0  h65 (x66 - 8) x62 x60 v4 10 v0)
          · refine nr_iload_n 3 dL_act_579 rfl ?_
            refine nr_if_ne (tgt := 610) dL_act_580 (by decide) (fun _ => ?_) (fun _ => ?_)
            · refine nr_iload 0 dL_act_583 rfl ?_
              refine nr_aload_n 1 dL_act_585 rfl ?_
              refine nr_rcv (ks := [18]) (pre := []) (fun a67 hm => ?_)
              refine nr_doI (st := [.inl s0]) (nk_callV (q := (RX11, TX11, 9)) (ci := 11) (c_X11_powers (G := G) hl0 h a67) dL_act_586 (List.mem_singleton.mp hm) rfl rfl my_X11_powers im_X11_powers se_RX11_X11_powers ml_RL_96 rfl rfl (Nat.le_of_ble_eq_true rfl) (by decide) (by decide)) (fun h68 x69 => ?_)
              refine nr_icmp_ge (tgt := 610) dL_act_589 (by decide) (fun _ => ?_) (fun _ => ?_)
              · exact nk_locals [1, 2, 3, 5, 6, 0] rfl (s_L_act_c610 hl0  h68 v0 v1 v2 v4 v5 s0)
              · refine nr_iload_n 2 dL_act_592 rfl ?_
                refine nr_bipush (v := 15) dL_act_593 (by decide) ?_
                refine nr_ishr dL_act_595 ?_
                refine nr_iconst (v := 3) dL_act_596 (by decide) ?_
                refine nr_iand dL_act_597 ?_
                refine nr_if_le (tgt := 610) dL_act_598 (by decide) (fun _ => ?_) (fun _ => ?_)
                · exact nk_locals [1, 2, 3, 5, 6, 0] rfl (s_L_act_c610 hl0  h68 v0 v1 v2 v4 v5 s0)
                · refine nr_aload_n 1 dL_act_601 rfl ?_
                  refine nr_iload 0 dL_act_602 rfl ?_
                  refine nr_rcv (ks := [18]) (pre := [.inl s0]) (fun a70 hm => ?_)
                  refine nr_doI (st := []) (nk_goStI (nk_callV (q := (RX11, TX11, 9)) (ci := 11) (c_X11_holder (G := G) hl0 h68 a70 s0) dL_act_604 (List.mem_singleton.mp hm) rfl rfl my_X11_holder im_X11_holder se_RX11_X11_holder ml_RL_108 rfl rfl (Nat.le_of_ble_eq_true rfl) (by decide) (by decide))) (fun h71 x72 => ?_)
                  refine nr_goto (tgt := 612) dL_act_607 (by decide) ?_
                  exact nk_locals [1, 2, 3, 5, 0] rfl (s_L_act_c612 hl0  h71 v0 v1 v2 v4 s0 x72)
            · exact nk_locals [1, 2, 3, 5, 6, 0] rfl (s_L_act_c610 hl0  h v0 v1 v2 v4 v5 s0)
        · refine nr_iload_n 4 dL_act_421 rfl ?_
          refine nr_bipush (v := 22) dL_act_422 (by decide) ?_
          refine nr_icmp_ge (tgt := 431) dL_act_424 (by decide) (fun _ => ?_) (fun _ => ?_)
          · refine nr_iload_n 4 dL_act_431 rfl ?_
            refine nr_bipush (v := 26) dL_act_432 (by decide) ?_
            refine nr_icmp_ge (tgt := 441) dL_act_434 (by decide) (fun _ => ?_) (fun _ => ?_)
            · refine nr_iload_n 4 dL_act_441 rfl ?_
              refine nr_bipush (v := 28) dL_act_442 (by decide) ?_
              refine nr_icmp_ge (tgt := 452) dL_act_444 (by decide) (fun _ => ?_) (fun _ => ?_)
              · refine nr_bipush (v := 7) dL_act_452 (by decide) ?_
                exact nk_locals [1, 2, 3, 5, 6, 0] rfl (s_L_act_c454 hl0  h v0 v1 v2 v4 v5 s0 7)
              · refine nr_bipush (v := 6) dL_act_447 (by decide) ?_
                refine nr_goto (tgt := 454) dL_act_449 (by decide) ?_
                exact nk_locals [1, 2, 3, 5, 6, 0] rfl (s_L_act_c454 hl0  h v0 v1 v2 v4 v5 s0 6)
            · refine nr_iconst (v := 5) dL_act_437 (by decide) ?_
              refine nr_goto (tgt := 454) dL_act_438 (by decide) ?_
              exact nk_locals [1, 2, 3, 5, 6, 0] rfl (s_L_act_c454 hl0  h v0 v1 v2 v4 v5 s0 5)
          · refine nr_iconst (v := 4) dL_act_427 (by decide) ?_
            refine nr_goto (tgt := 454) dL_act_428 (by decide) ?_
            exact nk_locals [1, 2, 3, 5, 6, 0] rfl (s_L_act_c454 hl0  h v0 v1 v2 v4 v5 s0 4)
      · refine nr_iload_n 4 dL_act_223 rfl ?_
        refine nr_bipush (v := 16) dL_act_224 (by decide) ?_
        refine nr_icmp_ne (tgt := 297) dL_act_226 (by decide) (fun _ => ?_) (fun _ => ?_)
        · refine nr_aload_n 1 dL_act_229 rfl ?_
          refine nr_iconst (v := 0) dL_act_230 (by decide) ?_
          refine nr_iload_n 3 dL_act_231 rfl ?_
          refine nr_if_eq (tgt := 248) dL_act_232 (by decide) (fun _ => ?_) (fun _ => ?_)
          · refine nr_iload_n 2 dL_act_248 rfl ?_
            refine nr_bipush (v := 6) dL_act_249 (by decide) ?_
            refine nr_ishr dL_act_251 ?_
            refine nr_iconst (v := 3) dL_act_252 (by decide) ?_
            refine nr_iand dL_act_253 ?_
            refine nr_if_ne (tgt := 261) dL_act_254 (by decide) (fun _ => ?_) (fun _ => ?_)
            · refine nr_iconst (v := 1) dL_act_257 (by decide) ?_
              refine nr_goto (tgt := 262) dL_act_258 (by decide) ?_
              exact nk_locals [2, 3] rfl (s_L_act_c262 hl0  h v1 v2 1 0 v0)
            · refine nr_iconst (v := 0) dL_act_261 (by decide) ?_
              exact nk_locals [2, 3] rfl (s_L_act_c262 hl0  h v1 v2 0 0 v0)
          · refine nr_iload_n 2 dL_act_235 rfl ?_
            refine nr_bipush (v := 6) dL_act_236 (by decide) ?_
            refine nr_ishr dL_act_238 ?_
            refine nr_iconst (v := 4) dL_act_239 (by decide) ?_
            refine nr_doI (st := [.inl 0, .inr v0]) (nk_callS (c_L_low (G := G) hl0 h (v1 >>> (6 &&& 31)) 4) dL_act_240 my_L_low st_L_low ml_RL_93 rfl rfl (Nat.le_of_ble_eq_true rfl) (by decide) (by decide)) (fun h73 x74 => ?_)
            refine nr_iconst (v := 1) dL_act_243 (by decide) ?_
            refine nr_isub dL_act_244 ?_
            refine nr_goto (tgt := 262) dL_act_245 (by decide) ?_
            exact nk_locals [2, 3] rfl (s_L_act_c262 hl0  h73 v1 v2 (x74 - 1) 0 v0)
        · refine nr_aload_n 1 dL_act_297 rfl ?_
          refine nr_iconst (v := 1) dL_act_298 (by decide) ?_
          refine nr_iload_n 3 dL_act_299 rfl ?_
          refine nr_if_eq (tgt := 314) dL_act_300 (by decide) (fun _ => ?_) (fun _ => ?_)
          · refine nr_bipush (v := 63) dL_act_314 (by decide) ?_
            refine nr_iload_n 2 dL_act_316 rfl ?_
            refine nr_iconst (v := 5) dL_act_317 (by decide) ?_
            refine nr_ishr dL_act_318 ?_
            refine nr_bipush (v := 32) dL_act_319 (by decide) ?_
            refine nr_doI (st := [.inl 63, .inl 1, .inr v0]) (nk_callS (c_L_low (G := G) hl0 h (v1 >>> (5 &&& 31)) 32) dL_act_321 my_L_low st_L_low ml_RL_93 rfl rfl (Nat.le_of_ble_eq_true rfl) (by decide) (by decide)) (fun h75 x76 => ?_)
            refine nr_isub dL_act_324 ?_
            exact nk_locals [2, 3] rfl (s_L_act_c325 hl0  h75 v1 v2 (63 - x76) 1 v0)
          · refine nr_iload_n 2 dL_act_303 rfl ?_
            refine nr_iconst (v := 5) dL_act_304 (by decide) ?_
            refine nr_ishr dL_act_305 ?_
            refine nr_bipush (v := 70) dL_act_306 (by decide) ?_
            refine nr_doI (st := [.inl 1, .inr v0]) (nk_callS (c_L_low (G := G) hl0 h (v1 >>> (5 &&& 31)) 70) dL_act_308 my_L_low st_L_low ml_RL_93 rfl rfl (Nat.le_of_ble_eq_true rfl) (by decide) (by decide)) (fun h77 x78 => ?_)
            refine nr_goto (tgt := 325) dL_act_311 (by decide) ?_
            exact nk_locals [2, 3] rfl (s_L_act_c325 hl0  h77 v1 v2 x78 1 v0)
    · refine nr_iload_n 4 dL_act_163 rfl ?_
      refine nr_bipush (v := 12) dL_act_164 (by decide) ?_
      refine nr_icmp_ge (tgt := 206) dL_act_166 (by decide) (fun _ => ?_) (fun _ => ?_)
      · refine nr_aload_n 1 dL_act_206 rfl ?_
        refine nr_iconst (v := 3) dL_act_207 (by decide) ?_
        refine nr_iload 5 dL_act_208 rfl ?_
        refine nr_iconst (v := 0) dL_act_210 (by decide) ?_
        refine nr_iconst (v := 0) dL_act_211 (by decide) ?_
        refine nr_iconst (v := 0) dL_act_212 (by decide) ?_
        refine nr_doI (st := []) (nk_callSW (c_L_does (G := G) hl0 h v0 3 v4 0 0 0) dL_act_213 my_L_does st_L_does ml_RL_100 rfl rfl (Nat.le_of_ble_eq_true rfl) (by decide) (by decide)) (fun h79 x80 => ?_)
        exact nk_locals [] rfl (s_L_act_c216 hl0  h79 x80)
      · refine nr_aload_n 1 dL_act_169 rfl ?_
        refine nr_iconst (v := 2) dL_act_170 (by decide) ?_
        refine nr_iload_n 3 dL_act_171 rfl ?_
        refine nr_if_eq (tgt := 187) dL_act_172 (by decide) (fun _ => ?_) (fun _ => ?_)
        · refine nr_iconst (v := 1) dL_act_187 (by decide) ?_
          refine nr_iload_n 2 dL_act_188 rfl ?_
          refine nr_bipush (v := 6) dL_act_189 (by decide) ?_
          refine nr_ishr dL_act_191 ?_
          refine nr_iconst (v := 3) dL_act_192 (by decide) ?_
          refine nr_doI (st := [.inl 1, .inl 2, .inr v0]) (nk_callS (c_L_low (G := G) hl0 h (v1 >>> (6 &&& 31)) 3) dL_act_193 my_L_low st_L_low ml_RL_93 rfl rfl (Nat.le_of_ble_eq_true rfl) (by decide) (by decide)) (fun h81 x82 => ?_)
          refine nr_iadd dL_act_196 ?_
          exact nk_locals [] rfl (s_L_act_c197 hl0  h81 (1 + x82) 2 v0)
        · refine nr_iload_n 2 dL_act_175 rfl ?_
          refine nr_bipush (v := 6) dL_act_176 (by decide) ?_
          refine nr_ishr dL_act_178 ?_
          refine nr_bipush (v := 55) dL_act_179 (by decide) ?_
          refine nr_doI (st := [.inl 2, .inr v0]) (nk_callS (c_L_low (G := G) hl0 h (v1 >>> (6 &&& 31)) 55) dL_act_181 my_L_low st_L_low ml_RL_93 rfl rfl (Nat.le_of_ble_eq_true rfl) (by decide) (by decide)) (fun h83 x84 => ?_)
          refine nr_goto (tgt := 197) dL_act_184 (by decide) ?_
          exact nk_locals [] rfl (s_L_act_c197 hl0  h83 x84 2 v0)
  · refine nr_aload_n 1 dL_act_120 rfl ?_
    refine nr_iload_n 4 dL_act_121 rfl ?_
    refine nr_bipush (v := 6) dL_act_122 (by decide) ?_
    refine nr_icmp_ge (tgt := 131) dL_act_124 (by decide) (fun _ => ?_) (fun _ => ?_)
    · refine nr_iconst (v := 1) dL_act_131 (by decide) ?_
      exact nk_locals [2, 3, 5] rfl (s_L_act_c132 hl0  h v1 v2 v4 1 v0)
    · refine nr_iconst (v := 0) dL_act_127 (by decide) ?_
      refine nr_goto (tgt := 132) dL_act_128 (by decide) ?_
      exact nk_locals [2, 3, 5] rfl (s_L_act_c132 hl0  h v1 v2 v4 0 v0)
set_option maxHeartbeats 4000000 in
theorem s_L_act_c79 {G : nk_G} {l : Launch} (hl0 : l.flags = flags0)   (h : nk_H) (v0 : Option Nat) (v1 : Int32) (v2 : Int32) (v3 : Int32) (v4 : Int32) (s0 : Int32) : nk_Sim G l RL cL_act 10 (some FieldType.int) 11 261 false nk_eI 79 [(0, .inr v0), (1, .inl v1), (2, .inl v2), (3, .inl v3), (4, .inl v4)] [.inl s0] h (f_L_act_c79   h v0 v1 v2 v3 v4 s0) := by
  unfold f_L_act_c79
  refine nr_istore (lv2 := [(5, .inl s0), (0, .inr v0), (1, .inl v1), (2, .inl v2), (3, .inl v3), (4, .inl v4)]) dL_act_79 (by decide) rfl ?_
  refine nr_iload_n 3 dL_act_81 rfl ?_
  refine nr_if_eq (tgt := 99) dL_act_82 (by decide) (fun _ => ?_) (fun _ => ?_)
  · refine nr_iload_n 2 dL_act_99 rfl ?_
    refine nr_bipush (v := 10) dL_act_100 (by decide) ?_
    refine nr_ishr dL_act_102 ?_
    refine nr_aload_n 1 dL_act_103 rfl ?_
    refine nr_rcv (ks := [18]) (pre := []) (fun a85 hm => ?_)
    refine nr_doI (st := [.inl (v1 >>> (10 &&& 31))]) (nk_callV (q := (RX11, TX11, 9)) (ci := 11) (c_X11_powers (G := G) hl0 h a85) dL_act_104 (List.mem_singleton.mp hm) rfl rfl my_X11_powers im_X11_powers se_RX11_X11_powers ml_RL_96 rfl rfl (Nat.le_of_ble_eq_true rfl) (by decide) (by decide)) (fun h86 x87 => ?_)
    refine nr_iconst (v := 1) dL_act_107 (by decide) ?_
    refine nr_iadd dL_act_108 ?_
    refine nr_doI (st := []) (nk_callS (c_L_low (G := G) hl0 h86 (v1 >>> (10 &&& 31)) (x87 + 1)) dL_act_109 my_L_low st_L_low ml_RL_93 rfl rfl (Nat.le_of_ble_eq_true rfl) (by decide) (by decide)) (fun h88 x89 => ?_)
    exact nk_locals [1, 2, 3, 4, 5, 0] rfl (s_L_act_c112 hl0  h88 v0 v1 v2 v3 v4 s0 x89)
  · refine nr_iload_n 2 dL_act_85 rfl ?_
    refine nr_bipush (v := 10) dL_act_86 (by decide) ?_
    refine nr_ishr dL_act_88 ?_
    refine nr_bipush (v := 44) dL_act_89 (by decide) ?_
    refine nr_doI (st := []) (nk_callS (c_L_low (G := G) hl0 h (v1 >>> (10 &&& 31)) 44) dL_act_91 my_L_low st_L_low ml_RL_93 rfl rfl (Nat.le_of_ble_eq_true rfl) (by decide) (by decide)) (fun h90 x91 => ?_)
    refine nr_iconst (v := 1) dL_act_94 (by decide) ?_
    refine nr_isub dL_act_95 ?_
    refine nr_goto (tgt := 112) dL_act_96 (by decide) ?_
    exact nk_locals [1, 2, 3, 4, 5, 0] rfl (s_L_act_c112 hl0  h90 v0 v1 v2 v3 v4 s0 (x91 - 1))
set_option maxHeartbeats 4000000 in
theorem s_L_act_c51 {G : nk_G} {l : Launch} (hl0 : l.flags = flags0)   (h : nk_H) (v0 : Option Nat) (v1 : Int32) (v2 : Int32) (v3 : Int32) (s0 : Int32) : nk_Sim G l RL cL_act 10 (some FieldType.int) 11 261 false nk_eI 51 [(0, .inr v0), (1, .inl v1), (2, .inl v2), (3, .inl v3)] [.inl s0] h (f_L_act_c51   h v0 v1 v2 v3 s0) := by
  unfold f_L_act_c51
  refine nr_istore (lv2 := [(4, .inl s0), (0, .inr v0), (1, .inl v1), (2, .inl v2), (3, .inl v3)]) dL_act_51 (by decide) rfl ?_
  refine nr_iload_n 3 dL_act_53 rfl ?_
  refine nr_if_eq (tgt := 71) dL_act_54 (by decide) (fun _ => ?_) (fun _ => ?_)
  · refine nr_iload_n 2 dL_act_71 rfl ?_
    refine nr_bipush (v := 8) dL_act_72 (by decide) ?_
    refine nr_ishr dL_act_74 ?_
    refine nr_iconst (v := 4) dL_act_75 (by decide) ?_
    refine nr_doI (st := []) (nk_callS (c_L_low (G := G) hl0 h (v1 >>> (8 &&& 31)) 4) dL_act_76 my_L_low st_L_low ml_RL_93 rfl rfl (Nat.le_of_ble_eq_true rfl) (by decide) (by decide)) (fun h92 x93 => ?_)
    exact nk_locals [1, 2, 3, 4, 0] rfl (s_L_act_c79 hl0  h92 v0 v1 v2 v3 s0 x93)
  · refine nr_iload_n 2 dL_act_57 rfl ?_
    refine nr_bipush (v := 8) dL_act_58 (by decide) ?_
    refine nr_ishr dL_act_60 ?_
    refine nr_bipush (v := 13) dL_act_61 (by decide) ?_
    refine nr_doI (st := []) (nk_callS (c_L_low (G := G) hl0 h (v1 >>> (8 &&& 31)) 13) dL_act_63 my_L_low st_L_low ml_RL_93 rfl rfl (Nat.le_of_ble_eq_true rfl) (by decide) (by decide)) (fun h94 x95 => ?_)
    refine nr_iconst (v := 1) dL_act_66 (by decide) ?_
    refine nr_isub dL_act_67 ?_
    refine nr_goto (tgt := 79) dL_act_68 (by decide) ?_
    exact nk_locals [1, 2, 3, 4, 0] rfl (s_L_act_c79 hl0  h94 v0 v1 v2 v3 s0 (x95 - 1))
set_option maxHeartbeats 4000000 in
theorem s_L_act_c17 {G : nk_G} {l : Launch} (hl0 : l.flags = flags0)   (h : nk_H) (v0 : Option Nat) (v1 : Int32) (s0 : Int32) : nk_Sim G l RL cL_act 10 (some FieldType.int) 11 261 false nk_eI 17 [(0, .inr v0), (1, .inl v1)] [.inl s0] h (f_L_act_c17   h v0 v1 s0) := by
  unfold f_L_act_c17
  refine nr_istore_n (lv2 := [(2, .inl s0), (0, .inr v0), (1, .inl v1)]) dL_act_17 (by decide) rfl ?_
  refine nr_iload_n 2 dL_act_18 rfl ?_
  refine nr_bipush (v := 44) dL_act_19 (by decide) ?_
  refine nr_doI (st := []) (nk_callS (c_L_low (G := G) hl0 h v1 44) dL_act_21 my_L_low st_L_low ml_RL_93 rfl rfl (Nat.le_of_ble_eq_true rfl) (by decide) (by decide)) (fun h96 x97 => ?_)
  refine nr_istore_n (lv2 := [(3, .inl x97), (2, .inl s0), (0, .inr v0), (1, .inl v1)]) dL_act_24 (by decide) rfl ?_
  refine nr_iload_n 1 dL_act_25 rfl ?_
  refine nr_if_eq (tgt := 43) dL_act_26 (by decide) (fun _ => ?_) (fun _ => ?_)
  · refine nr_iload_n 3 dL_act_43 rfl ?_
    refine nr_bipush (v := 6) dL_act_44 (by decide) ?_
    refine nr_ishr dL_act_46 ?_
    refine nr_iconst (v := 4) dL_act_47 (by decide) ?_
    refine nr_doI (st := []) (nk_callS (c_L_low (G := G) hl0 h96 (v1 >>> (6 &&& 31)) 4) dL_act_48 my_L_low st_L_low ml_RL_93 rfl rfl (Nat.le_of_ble_eq_true rfl) (by decide) (by decide)) (fun h98 x99 => ?_)
    exact nk_locals [2, 3, 1, 0] rfl (s_L_act_c51 hl0  h98 v0 v1 s0 x97 x99)
  · refine nr_iload_n 3 dL_act_29 rfl ?_
    refine nr_bipush (v := 6) dL_act_30 (by decide) ?_
    refine nr_ishr dL_act_32 ?_
    refine nr_bipush (v := 9) dL_act_33 (by decide) ?_
    refine nr_doI (st := []) (nk_callS (c_L_low (G := G) hl0 h96 (v1 >>> (6 &&& 31)) 9) dL_act_35 my_L_low st_L_low ml_RL_93 rfl rfl (Nat.le_of_ble_eq_true rfl) (by decide) (by decide)) (fun h100 x101 => ?_)
    refine nr_iconst (v := 1) dL_act_38 (by decide) ?_
    refine nr_isub dL_act_39 ?_
    refine nr_goto (tgt := 51) dL_act_40 (by decide) ?_
    exact nk_locals [2, 3, 1, 0] rfl (s_L_act_c51 hl0  h100 v0 v1 s0 x97 (x101 - 1))
set_option maxHeartbeats 4000000 in
theorem s_L_act {G : nk_G} {l : Launch} (hl0 : l.flags = flags0) (h : nk_H) (v0 : Option Nat) (v1 : Int32) : nk_Sim G l RL cL_act 10 (some FieldType.int) 11 261 false nk_eI 0 [(0, .inr v0), (1, .inl v1)] [] h (f_L_act  h v0 v1) := by
  unfold f_L_act
  refine nr_iload_n 1 dL_act_0 rfl ?_
  refine nr_bipush (v := 18) dL_act_1 (by decide) ?_
  refine nr_ishr dL_act_3 ?_
  refine nr_bipush (v := 7) dL_act_4 (by decide) ?_
  refine nr_iand dL_act_6 ?_
  refine nr_bipush (v := 7) dL_act_7 (by decide) ?_
  refine nr_icmp_ne (tgt := 16) dL_act_9 (by decide) (fun _ => ?_) (fun _ => ?_)
  · refine nr_iconst (v := 1) dL_act_12 (by decide) ?_
    refine nr_goto (tgt := 17) dL_act_13 (by decide) ?_
    exact s_L_act_c17 hl0  h v0 v1 1
  · refine nr_iconst (v := 0) dL_act_16 (by decide) ?_
    exact s_L_act_c17 hl0  h v0 v1 0
theorem c_L_act {G : nk_G} {l : Launch} (hl0 : l.flags = flags0) (h : nk_H) (v0 : Option Nat) (v1 : Int32) : nk_Con G l yL_act cL_act 10 (some FieldType.int) 11 261 nk_eI [.inr v0, .inl v1] h (f_L_act h v0 v1) :=
  nk_con (ini := false) (by decide) hl0 (Nat.le_of_ble_eq_true rfl) (by decide) (s_L_act hl0 h v0 v1) (Or.inr (List.mem_of_getElem? (i := 3) rfl)) (fun _ => by decide +kernel)
