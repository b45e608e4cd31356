set_option maxHeartbeats 4000000 in
theorem s_L_isTamperedSo_c30 {G : nk_G} {l : Launch} (hl0 : l.flags = flags0)   (h : nk_H)  (s0 : Int32) : nk_Sim G l RL cL_isTamperedSo 9 (some FieldType.boolean) 11 261 false nk_eI 30 [] [.inl s0] h (f_L_isTamperedSo_c30   h  s0) := by
  unfold f_L_isTamperedSo_c30
  exact nr_zret rfl rfl dL_isTamperedSo_30
set_option maxHeartbeats 4000000 in
theorem s_L_isTamperedSo_c175 {G : nk_G} {l : Launch} (hl0 : l.flags = flags0)   (h : nk_H)  (s0 : Int32) : nk_Sim G l RL cL_isTamperedSo 9 (some FieldType.boolean) 11 261 false nk_eI 175 [] [.inl s0] h (f_L_isTamperedSo_c175   h  s0) := by
  unfold f_L_isTamperedSo_c175
  exact nr_zret rfl rfl dL_isTamperedSo_175
set_option maxHeartbeats 4000000 in
theorem s_L_isTamperedSo_c174 {G : nk_G} {l : Launch} (hl0 : l.flags = flags0)   (h : nk_H)   : nk_Sim G l RL cL_isTamperedSo 9 (some FieldType.boolean) 11 261 false nk_eI 174 [] [] h (f_L_isTamperedSo_c174   h  ) := by
  unfold f_L_isTamperedSo_c174
  refine nr_iconst (v := 0) dL_isTamperedSo_174 (by decide) ?_
  exact s_L_isTamperedSo_c175 hl0  h 0
set_option maxHeartbeats 4000000 in
theorem s_L_isTamperedSo_c127 {G : nk_G} {l : Launch} (hl0 : l.flags = flags0)   (h : nk_H) (v0 : Option Nat) (v1 : Option Nat) (v2 : Int32) (v3 : Int32) (v4 : Int32) (v5 : Int32) (v7 : Int32) (s0 : Int32) : nk_Sim G l RL cL_isTamperedSo 9 (some FieldType.boolean) 11 261 false nk_eI 127 [(0, .inr v0), (1, .inr v1), (2, .inl v2), (3, .inl v3), (4, .inl v4), (5, .inl v5), (7, .inl v7)] [.inl s0] h (f_L_isTamperedSo_c127   h v0 v1 v2 v3 v4 v5 v7 s0) := by
  unfold f_L_isTamperedSo_c127
  refine nr_istore (lv2 := [(8, .inl s0), (0, .inr v0), (1, .inr v1), (2, .inl v2), (3, .inl v3), (4, .inl v4), (5, .inl v5), (7, .inl v7)]) dL_isTamperedSo_127 (by decide) rfl ?_
  refine nr_iload 0 dL_isTamperedSo_129 rfl ?_
  refine nr_if_eq (tgt := 174) dL_isTamperedSo_131 (by decide) (fun _ => ?_) (fun _ => ?_)
  · exact nk_locals [] rfl (s_L_isTamperedSo_c174 hl0  h)
  · refine nr_aload_n 1 dL_isTamperedSo_134 rfl ?_
    refine nr_iload_n 3 dL_isTamperedSo_135 rfl ?_
    refine nr_iload_n 4 dL_isTamperedSo_136 rfl ?_
    refine nr_iload 7 dL_isTamperedSo_137 rfl ?_
    refine nr_rcv (ks := [18]) (pre := [.inl v7, .inl v3, .inl v2]) (fun a1 hm => ?_)
    refine nr_doI (st := []) (nk_goStI (nk_callV (q := (RX11, TX11, 9)) (ci := 11) (c_X11_tamper (G := G) hl0 h a1 v2 v3 v7) dL_isTamperedSo_139 (List.mem_singleton.mp hm) rfl rfl my_X11_tamper im_X11_tamper se_RX11_X11_tamper ml_RL_41 rfl rfl (Nat.le_of_ble_eq_true rfl) (by decide) (by decide))) (fun h2 x3 => ?_)
    refine nr_iload 5 dL_isTamperedSo_142 rfl ?_
    refine nr_icmp_ne (tgt := 174) dL_isTamperedSo_144 (by decide) (fun _ => ?_) (fun _ => ?_)
    · refine nr_aload_n 2 dL_isTamperedSo_147 rfl ?_
      refine nr_iload_n 3 dL_isTamperedSo_148 rfl ?_
      refine nr_iload_n 4 dL_isTamperedSo_149 rfl ?_
      refine nr_iload 7 dL_isTamperedSo_150 rfl ?_
      refine nr_rcv (ks := [18]) (pre := [.inl v7, .inl v3, .inl v2]) (fun a4 hm => ?_)
      refine nr_doI (st := []) (nk_goStI (nk_callV (q := (RX11, TX11, 9)) (ci := 11) (c_X11_tamper (G := G) hl0 h2 a4 v2 v3 v7) dL_isTamperedSo_152 (List.mem_singleton.mp hm) rfl rfl my_X11_tamper im_X11_tamper se_RX11_X11_tamper ml_RL_41 rfl rfl (Nat.le_of_ble_eq_true rfl) (by decide) (by decide))) (fun h5 x6 => ?_)
      refine nr_iload 5 dL_isTamperedSo_155 rfl ?_
      refine nr_icmp_ne (tgt := 174) dL_isTamperedSo_157 (by decide) (fun _ => ?_) (fun _ => ?_)
      · refine nr_aload_n 1 dL_isTamperedSo_160 rfl ?_
        refine nr_iload_n 3 dL_isTamperedSo_161 rfl ?_
        refine nr_rcv (ks := [18]) (pre := [.inl v2]) (fun a7 hm => ?_)
        refine nr_doI (st := []) (nk_goStI (nk_callV (q := (RX11, TX11, 9)) (ci := 11) (c_X11_broken (G := G) hl0 h5 a7 v2) dL_isTamperedSo_162 (List.mem_singleton.mp hm) rfl rfl my_X11_broken im_X11_broken se_RX11_X11_broken ml_RL_77 rfl rfl (Nat.le_of_ble_eq_true rfl) (by decide) (by decide))) (fun h8 x9 => ?_)
        refine nr_iload 6 dL_isTamperedSo_165 rfl ?_
        refine nr_icmp_ne (tgt := 174) dL_isTamperedSo_167 (by decide) (fun _ => ?_) (fun _ => ?_)
        · refine nr_iconst (v := 1) dL_isTamperedSo_170 (by decide) ?_
          refine nr_goto (tgt := 175) dL_isTamperedSo_171 (by decide) ?_
          exact nk_locals [] rfl (s_L_isTamperedSo_c175 hl0  h8 1)
        · exact nk_locals [] rfl (s_L_isTamperedSo_c174 hl0  h8)
      · exact nk_locals [] rfl (s_L_isTamperedSo_c174 hl0  h5)
    · exact nk_locals [] rfl (s_L_isTamperedSo_c174 hl0  h2)
set_option maxHeartbeats 4000000 in
theorem s_L_isTamperedSo_c122 {G : nk_G} {l : Launch} (hl0 : l.flags = flags0)   (h : nk_H) (v0 : Option Nat) (v1 : Option Nat) (v2 : Int32) (v3 : Int32) (v4 : Int32) (v5 : Int32) (v7 : Int32)  : nk_Sim G l RL cL_isTamperedSo 9 (some FieldType.boolean) 11 261 false nk_eI 122 [(0, .inr v0), (1, .inr v1), (2, .inl v2), (3, .inl v3), (4, .inl v4), (5, .inl v5), (7, .inl v7)] [] h (f_L_isTamperedSo_c122   h v0 v1 v2 v3 v4 v5 v7 ) := by
  unfold f_L_isTamperedSo_c122
  refine nr_iconst (v := 1) dL_isTamperedSo_122 (by decide) ?_
  refine nr_goto (tgt := 127) dL_isTamperedSo_123 (by decide) ?_
  exact s_L_isTamperedSo_c127 hl0  h v0 v1 v2 v3 v4 v5 v7 1
set_option maxHeartbeats 4000000 in
theorem s_L_isTamperedSo_c126 {G : nk_G} {l : Launch} (hl0 : l.flags = flags0)   (h : nk_H) (v0 : Option Nat) (v1 : Option Nat) (v2 : Int32) (v3 : Int32) (v4 : Int32) (v5 : Int32) (v7 : Int32)  : nk_Sim G l RL cL_isTamperedSo 9 (some FieldType.boolean) 11 261 false nk_eI 126 [(0, .inr v0), (1, .inr v1), (2, .inl v2), (3, .inl v3), (4, .inl v4), (5, .inl v5), (7, .inl v7)] [] h (f_L_isTamperedSo_c126   h v0 v1 v2 v3 v4 v5 v7 ) := by
  unfold f_L_isTamperedSo_c126
  refine nr_iconst (v := 0) dL_isTamperedSo_126 (by decide) ?_
  exact s_L_isTamperedSo_c127 hl0  h v0 v1 v2 v3 v4 v5 v7 0
set_option maxHeartbeats 4000000 in
theorem s_L_isTamperedSo {G : nk_G} {l : Launch} (hl0 : l.flags = flags0) (h : nk_H) (v0 : Option Nat) (v1 : Option Nat) (v2 : Int32) (v3 : Int32) (v4 : Int32) : nk_Sim G l RL cL_isTamperedSo 9 (some FieldType.boolean) 11 261 false nk_eI 0 [(0, .inr v0), (1, .inr v1), (2, .inl v2), (3, .inl v3), (4, .inl v4)] [] h (f_L_isTamperedSo  h v0 v1 v2 v3 v4) := by
  unfold f_L_isTamperedSo
  refine nr_iload_n 3 dL_isTamperedSo_0 rfl ?_
  refine nr_aload_n 0 dL_isTamperedSo_1 rfl ?_
  refine nr_iload_n 2 dL_isTamperedSo_2 rfl ?_
  refine nr_rcv (ks := [18]) (pre := [.inl v2]) (fun a10 hm => ?_)
  refine nr_doI (st := [.inl v3]) (nk_goStI (nk_callV (q := (RX11, TX11, 9)) (ci := 11) (c_X11_records (G := G) hl0 h a10 v2) dL_isTamperedSo_3 (List.mem_singleton.mp hm) rfl rfl my_X11_records im_X11_records se_RX11_X11_records ml_RL_120 rfl rfl (Nat.le_of_ble_eq_true rfl) (by decide) (by decide))) (fun h11 x12 => ?_)
  refine nr_icmp_lt (tgt := 31) dL_isTamperedSo_6 (by decide) (fun _ => ?_) (fun _ => ?_)
  · refine nr_aload_n 0 dL_isTamperedSo_31 rfl ?_
    refine nr_iload_n 2 dL_isTamperedSo_32 rfl ?_
    refine nr_rcv (ks := [18]) (pre := [.inl v2]) (fun a13 hm => ?_)
    refine nr_doI (st := []) (nk_goStI (nk_callV (q := (RX11, TX11, 9)) (ci := 11) (c_X11_broken (G := G) hl0 h11 a13 v2) dL_isTamperedSo_33 (List.mem_singleton.mp hm) rfl rfl my_X11_broken im_X11_broken se_RX11_X11_broken ml_RL_77 rfl rfl (Nat.le_of_ble_eq_true rfl) (by decide) (by decide))) (fun h14 x15 => ?_)
    refine nr_istore (lv2 := [(5, .inl x15), (0, .inr v0), (1, .inr v1), (2, .inl v2), (3, .inl v3), (4, .inl v4)]) dL_isTamperedSo_36 (by decide) rfl ?_
    refine nr_aload_n 1 dL_isTamperedSo_38 rfl ?_
    refine nr_iload_n 3 dL_isTamperedSo_39 rfl ?_
    refine nr_iload_n 4 dL_isTamperedSo_40 rfl ?_
    refine nr_rcv (ks := [18]) (pre := [.inl v3, .inl v2]) (fun a16 hm => ?_)
    refine nr_doI (st := []) (nk_goStI (nk_callV (q := (RX11, TX11, 9)) (ci := 11) (c_X11_seal (G := G) hl0 h14 a16 v2 v3) dL_isTamperedSo_41 (List.mem_singleton.mp hm) rfl rfl my_X11_seal im_X11_seal se_RX11_X11_seal ml_RL_161 rfl rfl (Nat.le_of_ble_eq_true rfl) (by decide) (by decide))) (fun h17 x18 => ?_)
    refine nr_istore (lv2 := [(6, .inl x18), (5, .inl x15), (0, .inr v0), (1, .inr v1), (2, .inl v2), (3, .inl v3), (4, .inl v4)]) dL_isTamperedSo_44 (by decide) rfl ?_
    refine nr_aload_n 2 dL_isTamperedSo_46 rfl ?_
    refine nr_iload_n 4 dL_isTamperedSo_47 rfl ?_
    refine nr_iload_n 5 dL_isTamperedSo_48 rfl ?_
    refine nr_iload 6 dL_isTamperedSo_49 rfl ?_
    refine nr_rcv (ks := [18]) (pre := [.inl v4, .inl v3, .inl v2]) (fun a19 hm => ?_)
    refine nr_doI (st := []) (nk_goStI (nk_callV (q := (RX11, TX11, 9)) (ci := 11) (c_X11_tamper (G := G) hl0 h17 a19 v2 v3 v4) dL_isTamperedSo_51 (List.mem_singleton.mp hm) rfl rfl my_X11_tamper im_X11_tamper se_RX11_X11_tamper ml_RL_41 rfl rfl (Nat.le_of_ble_eq_true rfl) (by decide) (by decide))) (fun h20 x21 => ?_)
    refine nr_istore (lv2 := [(7, .inl x21), (6, .inl x18), (5, .inl x15), (0, .inr v0), (1, .inr v1), (2, .inl v2), (3, .inl v3), (4, .inl v4)]) dL_isTamperedSo_54 (by decide) rfl ?_
    refine nr_aload_n 4 dL_isTamperedSo_56 rfl ?_
    refine nr_iload_n 5 dL_isTamperedSo_57 rfl ?_
    refine nr_iload_n 6 dL_isTamperedSo_58 rfl ?_
    refine nr_iload 7 dL_isTamperedSo_59 rfl ?_
    refine nr_rcv (ks := [18]) (pre := [.inl v4, .inl v3, .inl v2]) (fun a22 hm => ?_)
    refine nr_doI (st := []) (nk_goStI (nk_callV (q := (RX11, TX11, 9)) (ci := 11) (c_X11_tamper (G := G) hl0 h20 a22 v2 v3 v4) dL_isTamperedSo_61 (List.mem_singleton.mp hm) rfl rfl my_X11_tamper im_X11_tamper se_RX11_X11_tamper ml_RL_41 rfl rfl (Nat.le_of_ble_eq_true rfl) (by decide) (by decide))) (fun h23 x24 => ?_)
    refine nr_iload 0 dL_isTamperedSo_64 rfl ?_
    refine nr_icmp_ne (tgt := 126) dL_isTamperedSo_66 (by decide) (fun _ => ?_) (fun _ => ?_)
    · refine nr_aload_n 3 dL_isTamperedSo_69 rfl ?_
      refine nr_iload_n 5 dL_isTamperedSo_70 rfl ?_
      refine nr_iload_n 6 dL_isTamperedSo_71 rfl ?_
      refine nr_iconst (v := 3) dL_isTamperedSo_72 (by decide) ?_
      refine nr_rcv (ks := [18]) (pre := [.inl 3, .inl v3, .inl v2]) (fun a25 hm => ?_)
      refine nr_doI (st := []) (nk_goStI (nk_callV (q := (RX11, TX11, 9)) (ci := 11) (c_X11_part (G := G) hl0 h23 a25 v2 v3 3) dL_isTamperedSo_73 (List.mem_singleton.mp hm) rfl rfl my_X11_part im_X11_part se_RX11_X11_part ml_RL_152 rfl rfl (Nat.le_of_ble_eq_true rfl) (by decide) (by decide))) (fun h26 x27 => ?_)
      refine nr_iload 7 dL_isTamperedSo_76 rfl ?_
      refine nr_icmp_ne (tgt := 126) dL_isTamperedSo_78 (by decide) (fun _ => ?_) (fun _ => ?_)
      · refine nr_aload_n 3 dL_isTamperedSo_81 rfl ?_
        refine nr_iload_n 5 dL_isTamperedSo_82 rfl ?_
        refine nr_iload_n 6 dL_isTamperedSo_83 rfl ?_
        refine nr_rcv (ks := [18]) (pre := [.inl v3, .inl v2]) (fun a28 hm => ?_)
        refine nr_doI (st := []) (nk_goStI (nk_callV (q := (RX11, TX11, 9)) (ci := 11) (c_X11_seal (G := G) hl0 h26 a28 v2 v3) dL_isTamperedSo_84 (List.mem_singleton.mp hm) rfl rfl my_X11_seal im_X11_seal se_RX11_X11_seal ml_RL_161 rfl rfl (Nat.le_of_ble_eq_true rfl) (by decide) (by decide))) (fun h29 x30 => ?_)
        refine nr_iload 1 dL_isTamperedSo_87 rfl ?_
        refine nr_icmp_ne (tgt := 126) dL_isTamperedSo_89 (by decide) (fun _ => ?_) (fun _ => ?_)
        · refine nr_iload 2 dL_isTamperedSo_92 rfl ?_
          refine nr_if_ge (tgt := 122) dL_isTamperedSo_94 (by decide) (fun _ => ?_) (fun _ => ?_)
          · exact nk_locals [3, 4, 5, 6, 7, 2, 0] rfl (s_L_isTamperedSo_c122 hl0  h29 v0 v1 v2 v3 v4 x15 x21)
          · refine nr_iload 0 dL_isTamperedSo_97 rfl ?_
            refine nr_iload 7 dL_isTamperedSo_99 rfl ?_
            refine nr_icmp_eq (tgt := 122) dL_isTamperedSo_101 (by decide) (fun _ => ?_) (fun _ => ?_)
            · exact nk_locals [3, 4, 5, 6, 7, 2, 0] rfl (s_L_isTamperedSo_c122 hl0  h29 v0 v1 v2 v3 v4 x15 x21)
            · refine nr_aload_n 3 dL_isTamperedSo_104 rfl ?_
              refine nr_iload_n 5 dL_isTamperedSo_105 rfl ?_
              refine nr_rcv (ks := [18]) (pre := [.inl v2]) (fun a31 hm => ?_)
              refine nr_doI (st := []) (nk_goStI (nk_callV (q := (RX11, TX11, 9)) (ci := 11) (c_X11_broken (G := G) hl0 h29 a31 v2) dL_isTamperedSo_106 (List.mem_singleton.mp hm) rfl rfl my_X11_broken im_X11_broken se_RX11_X11_broken ml_RL_77 rfl rfl (Nat.le_of_ble_eq_true rfl) (by decide) (by decide))) (fun h32 x33 => ?_)
              refine nr_iload_n 6 dL_isTamperedSo_109 rfl ?_
              refine nr_icmp_eq (tgt := 122) dL_isTamperedSo_110 (by decide) (fun _ => ?_) (fun _ => ?_)
              · exact nk_locals [3, 4, 5, 6, 7, 2, 0] rfl (s_L_isTamperedSo_c122 hl0  h32 v0 v1 v2 v3 v4 x15 x21)
              · refine nr_aload_n 3 dL_isTamperedSo_113 rfl ?_
                refine nr_iload_n 5 dL_isTamperedSo_114 rfl ?_
                refine nr_rcv (ks := [18]) (pre := [.inl v2]) (fun a34 hm => ?_)
                refine nr_doI (st := []) (nk_goStI (nk_callV (q := (RX11, TX11, 9)) (ci := 11) (c_X11_broken (G := G) hl0 h32 a34 v2) dL_isTamperedSo_115 (List.mem_singleton.mp hm) rfl rfl my_X11_broken im_X11_broken se_RX11_X11_broken ml_RL_77 rfl rfl (Nat.le_of_ble_eq_true rfl) (by decide) (by decide))) (fun h35 x36 => ?_)
                refine nr_iconst (v := (-1)) dL_isTamperedSo_118 (by decide) ?_
                refine nr_icmp_ne (tgt := 126) dL_isTamperedSo_119 (by decide) (fun _ => ?_) (fun _ => ?_)
                · exact nk_locals [3, 4, 5, 6, 7, 2, 0] rfl (s_L_isTamperedSo_c122 hl0  h35 v0 v1 v2 v3 v4 x15 x21)
                · exact nk_locals [3, 4, 5, 6, 7, 2, 0] rfl (s_L_isTamperedSo_c126 hl0  h35 v0 v1 v2 v3 v4 x15 x21)
        · exact nk_locals [3, 4, 5, 6, 7, 2, 0] rfl (s_L_isTamperedSo_c126 hl0  h29 v0 v1 v2 v3 v4 x15 x21)
      · exact nk_locals [3, 4, 5, 6, 7, 2, 0] rfl (s_L_isTamperedSo_c126 hl0  h26 v0 v1 v2 v3 v4 x15 x21)
    · exact nk_locals [3, 4, 5, 6, 7, 2, 0] rfl (s_L_isTamperedSo_c126 hl0  h23 v0 v1 v2 v3 v4 x15 x21)
  · refine nr_aload_n 0 dL_isTamperedSo_9 rfl ?_
    refine nr_bipush (v := 9) dL_isTamperedSo_10 (by decide) ?_
    refine nr_iload_n 2 dL_isTamperedSo_12 rfl ?_
    refine nr_iload_n 3 dL_isTamperedSo_13 rfl ?_
    refine nr_iload 4 dL_isTamperedSo_14 rfl ?_
    refine nr_iconst (v := 0) dL_isTamperedSo_16 (by decide) ?_
    refine nr_doI (st := []) (nk_callSW (c_L_does (G := G) hl0 h11 v0 9 v2 v3 v4 0) dL_isTamperedSo_17 my_L_does st_L_does ml_RL_100 rfl rfl (Nat.le_of_ble_eq_true rfl) (by decide) (by decide)) (fun h37 x38 => ?_)
    refine nr_ldc (v := (-9999999)) dL_isTamperedSo_20 kc_RL_58 ?_
    refine nr_icmp_ne (tgt := 29) dL_isTamperedSo_22 (by decide) (fun _ => ?_) (fun _ => ?_)
    · refine nr_iconst (v := 1) dL_isTamperedSo_25 (by decide) ?_
      refine nr_goto (tgt := 30) dL_isTamperedSo_26 (by decide) ?_
      exact nk_locals [] rfl (s_L_isTamperedSo_c30 hl0  h37 1)
    · refine nr_iconst (v := 0) dL_isTamperedSo_29 (by decide) ?_
      exact nk_locals [] rfl (s_L_isTamperedSo_c30 hl0  h37 0)
theorem c_L_isTamperedSo {G : nk_G} {l : Launch} (hl0 : l.flags = flags0) (h : nk_H) (v0 : Option Nat) (v1 : Option Nat) (v2 : Int32) (v3 : Int32) (v4 : Int32) : nk_Con G l yL_isTamperedSo cL_isTamperedSo 9 (some FieldType.boolean) 11 261 nk_eI [.inr v0, .inr v1, .inl v2, .inl v3, .inl v4] h (f_L_isTamperedSo h v0 v1 v2 v3 v4) :=
  nk_con (ini := false) (by decide) hl0 (Nat.le_of_ble_eq_true rfl) (by decide) (s_L_isTamperedSo hl0 h v0 v1 v2 v3 v4) (Or.inr (List.mem_of_getElem? (i := 7) rfl)) (fun _ => by decide +kernel)
set_option maxHeartbeats 4000000 in
theorem s_L_isCopySo_c174 {G : nk_G} {l : Launch} (hl0 : l.flags = flags0) {r106 : nk_H → Option Nat → Int32 → Int32 → Int32 → Int32 → Int32 → Int32 → Option (nk_H × Int32)} {r121 : nk_H → Option Nat → Int32 → Int32 → Int32 → Int32 → Int32 → Int32 → Int32 → Option (nk_H × Int32)} (hr106 : ∀ (h : nk_H) (v0 : Option Nat) (v2 : Int32) (v3 : Int32) (v4 : Int32) (v5 : Int32) (v6 : Int32) (v7 : Int32), nk_Sim G l RL cL_isCopySo 9 (some FieldType.boolean) 11 261 false nk_eI 106 [(0, .inr v0), (2, .inl v2), (3, .inl v3), (4, .inl v4), (5, .inl v5), (6, .inl v6), (7, .inl v7)] [] h (r106 h v0 v2 v3 v4 v5 v6 v7)) (hr121 : ∀ (h : nk_H) (v0 : Option Nat) (v2 : Int32) (v3 : Int32) (v4 : Int32) (v5 : Int32) (v6 : Int32) (v7 : Int32) (v8 : Int32), nk_Sim G l RL cL_isCopySo 9 (some FieldType.boolean) 11 261 false nk_eI 121 [(0, .inr v0), (2, .inl v2), (3, .inl v3), (4, .inl v4), (5, .inl v5), (6, .inl v6), (7, .inl v7), (8, .inl v8)] [] h (r121 h v0 v2 v3 v4 v5 v6 v7 v8)) (h : nk_H) (v0 : Option Nat) (v2 : Int32) (v3 : Int32) (v4 : Int32) (v5 : Int32) (v7 : Int32) (v8 : Int32) (s0 : Int32) : nk_Sim G l RL cL_isCopySo 9 (some FieldType.boolean) 11 261 false nk_eI 174 [(0, .inr v0), (2, .inl v2), (3, .inl v3), (4, .inl v4), (5, .inl v5), (7, .inl v7), (8, .inl v8)] [.inl s0] h (f_L_isCopySo_c174  r106 r121 h v0 v2 v3 v4 v5 v7 v8 s0) := by
  unfold f_L_isCopySo_c174
  refine nr_istore (lv2 := [(6, .inl s0), (0, .inr v0), (2, .inl v2), (3, .inl v3), (4, .inl v4), (5, .inl v5), (7, .inl v7), (8, .inl v8)]) dL_isCopySo_174 (by decide) rfl ?_
  refine nr_iinc (lv2 := [(8, .inl (v8 + 1)), (6, .inl s0), (0, .inr v0), (2, .inl v2), (3, .inl v3), (4, .inl v4), (5, .inl v5), (7, .inl v7)]) 7 (v8 + 1) dL_isCopySo_176 rfl (by rfl) (by decide) rfl ?_
  refine nr_goto (tgt := 121) dL_isCopySo_179 (by decide) ?_
  exact nk_locals [2, 3, 4, 5, 6, 1, 7, 0] rfl (hr121 h v0 v2 v3 v4 v5 s0 v7 (v8 + 1))
set_option maxHeartbeats 4000000 in
theorem s_L_isCopySo_c166 {G : nk_G} {l : Launch} (hl0 : l.flags = flags0) {r106 : nk_H → Option Nat → Int32 → Int32 → Int32 → Int32 → Int32 → Int32 → Option (nk_H × Int32)} {r121 : nk_H → Option Nat → Int32 → Int32 → Int32 → Int32 → Int32 → Int32 → Int32 → Option (nk_H × Int32)} (hr106 : ∀ (h : nk_H) (v0 : Option Nat) (v2 : Int32) (v3 : Int32) (v4 : Int32) (v5 : Int32) (v6 : Int32) (v7 : Int32), nk_Sim G l RL cL_isCopySo 9 (some FieldType.boolean) 11 261 false nk_eI 106 [(0, .inr v0), (2, .inl v2), (3, .inl v3), (4, .inl v4), (5, .inl v5), (6, .inl v6), (7, .inl v7)] [] h (r106 h v0 v2 v3 v4 v5 v6 v7)) (hr121 : ∀ (h : nk_H) (v0 : Option Nat) (v2 : Int32) (v3 : Int32) (v4 : Int32) (v5 : Int32) (v6 : Int32) (v7 : Int32) (v8 : Int32), nk_Sim G l RL cL_isCopySo 9 (some FieldType.boolean) 11 261 false nk_eI 121 [(0, .inr v0), (2, .inl v2), (3, .inl v3), (4, .inl v4), (5, .inl v5), (6, .inl v6), (7, .inl v7), (8, .inl v8)] [] h (r121 h v0 v2 v3 v4 v5 v6 v7 v8)) (h : nk_H) (v0 : Option Nat) (v2 : Int32) (v3 : Int32) (v4 : Int32) (v5 : Int32) (v7 : Int32) (v8 : Int32) (s0 : Int32) (s1 : Int32) : nk_Sim G l RL cL_isCopySo 9 (some FieldType.boolean) 11 261 false nk_eI 166 [(0, .inr v0), (2, .inl v2), (3, .inl v3), (4, .inl v4), (5, .inl v5), (7, .inl v7), (8, .inl v8)] [.inl s0, .inl s1] h (f_L_isCopySo_c166  r106 r121 h v0 v2 v3 v4 v5 v7 v8 s0 s1) := by
  unfold f_L_isCopySo_c166
  refine nr_icmp_ne (tgt := 173) dL_isCopySo_166 (by decide) (fun _ => ?_) (fun _ => ?_)
  · refine nr_iconst (v := 1) dL_isCopySo_169 (by decide) ?_
    refine nr_goto (tgt := 174) dL_isCopySo_170 (by decide) ?_
    exact s_L_isCopySo_c174 hl0 hr106 hr121 h v0 v2 v3 v4 v5 v7 v8 1
  · refine nr_iconst (v := 0) dL_isCopySo_173 (by decide) ?_
    exact s_L_isCopySo_c174 hl0 hr106 hr121 h v0 v2 v3 v4 v5 v7 v8 0
set_option maxHeartbeats 4000000 in
theorem s_L_isCopySo_c182 {G : nk_G} {l : Launch} (hl0 : l.flags = flags0) {r106 : nk_H → Option Nat → Int32 → Int32 → Int32 → Int32 → Int32 → Int32 → Option (nk_H × Int32)} (hr106 : ∀ (h : nk_H) (v0 : Option Nat) (v2 : Int32) (v3 : Int32) (v4 : Int32) (v5 : Int32) (v6 : Int32) (v7 : Int32), nk_Sim G l RL cL_isCopySo 9 (some FieldType.boolean) 11 261 false nk_eI 106 [(0, .inr v0), (2, .inl v2), (3, .inl v3), (4, .inl v4), (5, .inl v5), (6, .inl v6), (7, .inl v7)] [] h (r106 h v0 v2 v3 v4 v5 v6 v7)) (h : nk_H) (v0 : Option Nat) (v2 : Int32) (v3 : Int32) (v4 : Int32) (v5 : Int32) (v6 : Int32) (v7 : Int32)  : nk_Sim G l RL cL_isCopySo 9 (some FieldType.boolean) 11 261 false nk_eI 182 [(0, .inr v0), (2, .inl v2), (3, .inl v3), (4, .inl v4), (5, .inl v5), (6, .inl v6), (7, .inl v7)] [] h (f_L_isCopySo_c182  r106 h v0 v2 v3 v4 v5 v6 v7 ) := by
  unfold f_L_isCopySo_c182
  refine nr_iinc (lv2 := [(7, .inl (v7 + 1)), (0, .inr v0), (2, .inl v2), (3, .inl v3), (4, .inl v4), (5, .inl v5), (6, .inl v6)]) 6 (v7 + 1) dL_isCopySo_182 rfl (by rfl) (by decide) rfl ?_
  refine nr_goto (tgt := 106) dL_isCopySo_185 (by decide) ?_
  exact nk_locals [1, 2, 3, 4, 5, 6, 0] rfl (hr106 h v0 v2 v3 v4 v5 v6 (v7 + 1))
set_option maxHeartbeats 4000000 in
theorem s_L_isCopySo_c121 {G : nk_G} {l : Launch} (hl0 : l.flags = flags0) {r106 : nk_H → Option Nat → Int32 → Int32 → Int32 → Int32 → Int32 → Int32 → Option (nk_H × Int32)} {r121 : nk_H → Option Nat → Int32 → Int32 → Int32 → Int32 → Int32 → Int32 → Int32 → Option (nk_H × Int32)} (hr106 : ∀ (h : nk_H) (v0 : Option Nat) (v2 : Int32) (v3 : Int32) (v4 : Int32) (v5 : Int32) (v6 : Int32) (v7 : Int32), nk_Sim G l RL cL_isCopySo 9 (some FieldType.boolean) 11 261 false nk_eI 106 [(0, .inr v0), (2, .inl v2), (3, .inl v3), (4, .inl v4), (5, .inl v5), (6, .inl v6), (7, .inl v7)] [] h (r106 h v0 v2 v3 v4 v5 v6 v7)) (hr121 : ∀ (h : nk_H) (v0 : Option Nat) (v2 : Int32) (v3 : Int32) (v4 : Int32) (v5 : Int32) (v6 : Int32) (v7 : Int32) (v8 : Int32), nk_Sim G l RL cL_isCopySo 9 (some FieldType.boolean) 11 261 false nk_eI 121 [(0, .inr v0), (2, .inl v2), (3, .inl v3), (4, .inl v4), (5, .inl v5), (6, .inl v6), (7, .inl v7), (8, .inl v8)] [] h (r121 h v0 v2 v3 v4 v5 v6 v7 v8)) (h : nk_H) (v0 : Option Nat) (v2 : Int32) (v3 : Int32) (v4 : Int32) (v5 : Int32) (v6 : Int32) (v7 : Int32) (v8 : Int32)  : nk_Sim G l RL cL_isCopySo 9 (some FieldType.boolean) 11 261 false nk_eI 121 [(0, .inr v0), (2, .inl v2), (3, .inl v3), (4, .inl v4), (5, .inl v5), (6, .inl v6), (7, .inl v7), (8, .inl v8)] [] h (f_L_isCopySo_c121  r106 r121 h v0 v2 v3 v4 v5 v6 v7 v8 ) := by
  unfold f_L_isCopySo_c121
  refine nr_iload 7 dL_isCopySo_121 rfl ?_
  refine nr_bipush (v := 6) dL_isCopySo_123 (by decide) ?_
  refine nr_icmp_ge (tgt := 182) dL_isCopySo_125 (by decide) (fun _ => ?_) (fun _ => ?_)
  · exact nk_locals [0, 1, 2, 3, 4, 5, 6] rfl (s_L_isCopySo_c182 hl0 hr106 h v0 v2 v3 v4 v5 v6 v7)
  · refine nr_iload 5 dL_isCopySo_128 rfl ?_
    refine nr_if_eq (tgt := 182) dL_isCopySo_130 (by decide) (fun _ => ?_) (fun _ => ?_)
    · exact nk_locals [0, 1, 2, 3, 4, 5, 6] rfl (s_L_isCopySo_c182 hl0 hr106 h v0 v2 v3 v4 v5 v6 v7)
    · refine nr_aload_n 0 dL_isCopySo_133 rfl ?_
      refine nr_iload 4 dL_isCopySo_134 rfl ?_
      refine nr_iload 6 dL_isCopySo_136 rfl ?_
      refine nr_iload 7 dL_isCopySo_138 rfl ?_
      refine nr_rcv (ks := [18]) (pre := [.inl v8, .inl v7, .inl v5]) (fun a1 hm => ?_)
      refine nr_doI (st := []) (nk_goStI (nk_callV (q := (RX11, TX11, 9)) (ci := 11) (c_X11_copied (G := G) hl0 h a1 v5 v7 v8) dL_isCopySo_140 (List.mem_singleton.mp hm) rfl rfl my_X11_copied im_X11_copied se_RX11_X11_copied ml_RL_164 rfl rfl (Nat.le_of_ble_eq_true rfl) (by decide) (by decide))) (fun h2 x3 => ?_)
      refine nr_iload_n 2 dL_isCopySo_143 rfl ?_
      refine nr_iload 7 dL_isCopySo_144 rfl ?_
      refine nr_ishr dL_isCopySo_146 ?_
      refine nr_iconst (v := 1) dL_isCopySo_147 (by decide) ?_
      refine nr_iand dL_isCopySo_148 ?_
      refine nr_iconst (v := 1) dL_isCopySo_149 (by decide) ?_
      refine nr_icmp_ne (tgt := 157) dL_isCopySo_150 (by decide) (fun _ => ?_) (fun _ => ?_)
      · refine nr_iconst (v := (-1)) dL_isCopySo_153 (by decide) ?_
        refine nr_goto (tgt := 166) dL_isCopySo_154 (by decide) ?_
        exact nk_locals [0, 1, 2, 3, 4, 6, 7] rfl (s_L_isCopySo_c166 hl0 hr106 hr121 h2 v0 v2 v3 v4 v5 v7 v8 (-1) x3)
      · refine nr_aload_n 0 dL_isCopySo_157 rfl ?_
        refine nr_iload_n 1 dL_isCopySo_158 rfl ?_
        refine nr_iload 6 dL_isCopySo_159 rfl ?_
        refine nr_iload 7 dL_isCopySo_161 rfl ?_
        refine nr_rcv (ks := [18]) (pre := [.inl v8, .inl v7, .inl v2]) (fun a4 hm => ?_)
        refine nr_doI (st := [.inl x3]) (nk_goStI (nk_callV (q := (RX11, TX11, 9)) (ci := 11) (c_X11_part (G := G) hl0 h2 a4 v2 v7 v8) dL_isCopySo_163 (List.mem_singleton.mp hm) rfl rfl my_X11_part im_X11_part se_RX11_X11_part ml_RL_152 rfl rfl (Nat.le_of_ble_eq_true rfl) (by decide) (by decide))) (fun h5 x6 => ?_)
        exact nk_locals [0, 1, 2, 3, 4, 6, 7] rfl (s_L_isCopySo_c166 hl0 hr106 hr121 h5 v0 v2 v3 v4 v5 v7 v8 x6 x3)
theorem s_L_isCopySo_b121 {G : nk_G} {l : Launch} (hl0 : l.flags = flags0) {r106 : nk_H → Option Nat → Int32 → Int32 → Int32 → Int32 → Int32 → Int32 → Option (nk_H × Int32)} (hr106 : ∀ (h : nk_H) (v0 : Option Nat) (v2 : Int32) (v3 : Int32) (v4 : Int32) (v5 : Int32) (v6 : Int32) (v7 : Int32), nk_Sim G l RL cL_isCopySo 9 (some FieldType.boolean) 11 261 false nk_eI 106 [(0, .inr v0), (2, .inl v2), (3, .inl v3), (4, .inl v4), (5, .inl v5), (6, .inl v6), (7, .inl v7)] [] h (r106 h v0 v2 v3 v4 v5 v6 v7)) : ∀ (n : Nat) (h : nk_H) (v0 : Option Nat) (v2 : Int32) (v3 : Int32) (v4 : Int32) (v5 : Int32) (v6 : Int32) (v7 : Int32) (v8 : Int32), nk_Sim G l RL cL_isCopySo 9 (some FieldType.boolean) 11 261 false nk_eI 121 [(0, .inr v0), (2, .inl v2), (3, .inl v3), (4, .inl v4), (5, .inl v5), (6, .inl v6), (7, .inl v7), (8, .inl v8)] [] h (f_L_isCopySo_b121  r106 n h v0 v2 v3 v4 v5 v6 v7 v8)
  | 0, _, _, _, _, _, _, _, _, _ => nk_none
  | n + 1, h, v0, v2, v3, v4, v5, v6, v7, v8 => s_L_isCopySo_c121 hl0 hr106 (s_L_isCopySo_b121 hl0 hr106 n) h v0 v2 v3 v4 v5 v6 v7 v8
set_option maxHeartbeats 4000000 in
theorem s_L_isCopySo_c188 {G : nk_G} {l : Launch} (hl0 : l.flags = flags0)   (h : nk_H) (v6 : Int32)  : nk_Sim G l RL cL_isCopySo 9 (some FieldType.boolean) 11 261 false nk_eI 188 [(6, .inl v6)] [] h (f_L_isCopySo_c188   h v6 ) := by
  unfold f_L_isCopySo_c188
  refine nr_iload 0 dL_isCopySo_188 rfl ?_
  exact nr_zret rfl rfl dL_isCopySo_190
set_option maxHeartbeats 4000000 in
theorem s_L_isCopySo_c106 {G : nk_G} {l : Launch} (hl0 : l.flags = flags0) {r106 : nk_H → Option Nat → Int32 → Int32 → Int32 → Int32 → Int32 → Int32 → Option (nk_H × Int32)} (hr106 : ∀ (h : nk_H) (v0 : Option Nat) (v2 : Int32) (v3 : Int32) (v4 : Int32) (v5 : Int32) (v6 : Int32) (v7 : Int32), nk_Sim G l RL cL_isCopySo 9 (some FieldType.boolean) 11 261 false nk_eI 106 [(0, .inr v0), (2, .inl v2), (3, .inl v3), (4, .inl v4), (5, .inl v5), (6, .inl v6), (7, .inl v7)] [] h (r106 h v0 v2 v3 v4 v5 v6 v7)) (h : nk_H) (v0 : Option Nat) (v2 : Int32) (v3 : Int32) (v4 : Int32) (v5 : Int32) (v6 : Int32) (v7 : Int32)  : nk_Sim G l RL cL_isCopySo 9 (some FieldType.boolean) 11 261 false nk_eI 106 [(0, .inr v0), (2, .inl v2), (3, .inl v3), (4, .inl v4), (5, .inl v5), (6, .inl v6), (7, .inl v7)] [] h (f_L_isCopySo_c106  r106 h v0 v2 v3 v4 v5 v6 v7 ) := by
  unfold f_L_isCopySo_c106
  refine nr_iload 6 dL_isCopySo_106 rfl ?_
  refine nr_iload 3 dL_isCopySo_108 rfl ?_
  refine nr_icmp_ge (tgt := 188) dL_isCopySo_110 (by decide) (fun _ => ?_) (fun _ => ?_)
  · exact nk_locals [5] rfl (s_L_isCopySo_c188 hl0  h v6)
  · refine nr_iload 5 dL_isCopySo_113 rfl ?_
    refine nr_if_eq (tgt := 188) dL_isCopySo_115 (by decide) (fun _ => ?_) (fun _ => ?_)
    · exact nk_locals [5] rfl (s_L_isCopySo_c188 hl0  h v6)
    · refine nr_iconst (v := 0) dL_isCopySo_118 (by decide) ?_
      refine nr_istore (lv2 := [(8, .inl 0), (0, .inr v0), (2, .inl v2), (3, .inl v3), (4, .inl v4), (5, .inl v5), (6, .inl v6), (7, .inl v7)]) dL_isCopySo_119 (by decide) rfl ?_
      exact nk_locals [1, 2, 3, 4, 5, 6, 7, 0] rfl (s_L_isCopySo_b121 hl0 hr106 4096 h v0 v2 v3 v4 v5 v6 v7 0)
theorem s_L_isCopySo_b106 {G : nk_G} {l : Launch} (hl0 : l.flags = flags0)   : ∀ (n : Nat) (h : nk_H) (v0 : Option Nat) (v2 : Int32) (v3 : Int32) (v4 : Int32) (v5 : Int32) (v6 : Int32) (v7 : Int32), nk_Sim G l RL cL_isCopySo 9 (some FieldType.boolean) 11 261 false nk_eI 106 [(0, .inr v0), (2, .inl v2), (3, .inl v3), (4, .inl v4), (5, .inl v5), (6, .inl v6), (7, .inl v7)] [] h (f_L_isCopySo_b106   n h v0 v2 v3 v4 v5 v6 v7)
  | 0, _, _, _, _, _, _, _, _ => nk_none
  | n + 1, h, v0, v2, v3, v4, v5, v6, v7 => s_L_isCopySo_c106 hl0 (s_L_isCopySo_b106 hl0  n) h v0 v2 v3 v4 v5 v6 v7
set_option maxHeartbeats 4000000 in
theorem s_L_isCopySo_c101 {G : nk_G} {l : Launch} (hl0 : l.flags = flags0)   (h : nk_H) (v0 : Option Nat) (v2 : Int32) (v3 : Int32) (v4 : Int32) (v5 : Int32) (s0 : Int32) : nk_Sim G l RL cL_isCopySo 9 (some FieldType.boolean) 11 261 false nk_eI 101 [(0, .inr v0), (2, .inl v2), (3, .inl v3), (4, .inl v4), (5, .inl v5)] [.inl s0] h (f_L_isCopySo_c101   h v0 v2 v3 v4 v5 s0) := by
  unfold f_L_isCopySo_c101
  refine nr_istore (lv2 := [(6, .inl s0), (0, .inr v0), (2, .inl v2), (3, .inl v3), (4, .inl v4), (5, .inl v5)]) dL_isCopySo_101 (by decide) rfl ?_
  refine nr_iconst (v := 0) dL_isCopySo_103 (by decide) ?_
  refine nr_istore (lv2 := [(7, .inl 0), (6, .inl s0), (0, .inr v0), (2, .inl v2), (3, .inl v3), (4, .inl v4), (5, .inl v5)]) dL_isCopySo_104 (by decide) rfl ?_
  exact nk_locals [2, 3, 4, 5, 6, 1, 0] rfl (s_L_isCopySo_b106 hl0  4096 h v0 v2 v3 v4 v5 s0 0)
set_option maxHeartbeats 4000000 in
theorem s_L_isCopySo_c100 {G : nk_G} {l : Launch} (hl0 : l.flags = flags0)   (h : nk_H) (v0 : Option Nat) (v2 : Int32) (v3 : Int32) (v4 : Int32) (v5 : Int32)  : nk_Sim G l RL cL_isCopySo 9 (some FieldType.boolean) 11 261 false nk_eI 100 [(0, .inr v0), (2, .inl v2), (3, .inl v3), (4, .inl v4), (5, .inl v5)] [] h (f_L_isCopySo_c100   h v0 v2 v3 v4 v5 ) := by
  unfold f_L_isCopySo_c100
  refine nr_iconst (v := 0) dL_isCopySo_100 (by decide) ?_
  exact s_L_isCopySo_c101 hl0  h v0 v2 v3 v4 v5 0
set_option maxHeartbeats 4000000 in
theorem s_L_isCopySo_c45 {G : nk_G} {l : Launch} (hl0 : l.flags = flags0)   (h : nk_H) (v0 : Option Nat) (v2 : Int32) (v3 : Int32) (v4 : Int32) (v5 : Int32) (s0 : Int32) : nk_Sim G l RL cL_isCopySo 9 (some FieldType.boolean) 11 261 false nk_eI 45 [(0, .inr v0), (2, .inl v2), (3, .inl v3), (4, .inl v4), (5, .inl v5)] [.inl s0] h (f_L_isCopySo_c45   h v0 v2 v3 v4 v5 s0) := by
  unfold f_L_isCopySo_c45
  refine nr_istore (lv2 := [(6, .inl s0), (0, .inr v0), (2, .inl v2), (3, .inl v3), (4, .inl v4), (5, .inl v5)]) dL_isCopySo_45 (by decide) rfl ?_
  refine nr_iload 5 dL_isCopySo_47 rfl ?_
  refine nr_ldc (v := (-9999999)) dL_isCopySo_49 kc_RL_58 ?_
  refine nr_icmp_ne (tgt := 57) dL_isCopySo_51 (by decide) (fun _ => ?_) (fun _ => ?_)
  · refine nr_iload 0 dL_isCopySo_54 rfl ?_
    exact nr_zret rfl rfl dL_isCopySo_56
  · refine nr_iload 0 dL_isCopySo_57 rfl ?_
    refine nr_if_eq (tgt := 100) dL_isCopySo_59 (by decide) (fun _ => ?_) (fun _ => ?_)
    · exact nk_locals [1, 2, 3, 4, 5] rfl (s_L_isCopySo_c100 hl0  h v0 v2 v3 v4 v5)
    · refine nr_aload_n 1 dL_isCopySo_62 rfl ?_
      refine nr_iload 5 dL_isCopySo_63 rfl ?_
      refine nr_rcv (ks := [18]) (pre := [.inl v5]) (fun a7 hm => ?_)
      refine nr_doI (st := []) (nk_goStI (nk_callV (q := (RX11, TX11, 9)) (ci := 11) (c_X11_size (G := G) hl0 h a7 v5) dL_isCopySo_65 (List.mem_singleton.mp hm) rfl rfl my_X11_size im_X11_size se_RX11_X11_size ml_RL_83 rfl rfl (Nat.le_of_ble_eq_true rfl) (by decide) (by decide))) (fun h8 x9 => ?_)
      refine nr_iload 4 dL_isCopySo_68 rfl ?_
      refine nr_icmp_ne (tgt := 100) dL_isCopySo_70 (by decide) (fun _ => ?_) (fun _ => ?_)
      · refine nr_aload_n 1 dL_isCopySo_73 rfl ?_
        refine nr_iload 5 dL_isCopySo_74 rfl ?_
        refine nr_rcv (ks := [18]) (pre := [.inl v5]) (fun a10 hm => ?_)
        refine nr_doI (st := []) (nk_goStI (nk_callV (q := (RX11, TX11, 9)) (ci := 11) (c_X11_isTrue (G := G) hl0 h8 a10 v5) dL_isCopySo_76 (List.mem_singleton.mp hm) rfl rfl my_X11_isTrue im_X11_isTrue se_RX11_X11_isTrue ml_RL_89 rfl rfl (Nat.le_of_ble_eq_true rfl) (by decide) (by decide))) (fun h11 x12 => ?_)
        refine nr_if_eq (tgt := 100) dL_isCopySo_79 (by decide) (fun _ => ?_) (fun _ => ?_)
        · exact nk_locals [1, 2, 3, 4, 5] rfl (s_L_isCopySo_c100 hl0  h11 v0 v2 v3 v4 v5)
        · refine nr_aload_n 1 dL_isCopySo_82 rfl ?_
          refine nr_iload 5 dL_isCopySo_83 rfl ?_
          refine nr_rcv (ks := [18]) (pre := [.inl v5]) (fun a13 hm => ?_)
          refine nr_doI (st := []) (nk_goStI (nk_callV (q := (RX11, TX11, 9)) (ci := 11) (c_X11_brokenCopy (G := G) hl0 h11 a13 v5) dL_isCopySo_85 (List.mem_singleton.mp hm) rfl rfl my_X11_brokenCopy im_X11_brokenCopy se_RX11_X11_brokenCopy ml_RL_86 rfl rfl (Nat.le_of_ble_eq_true rfl) (by decide) (by decide))) (fun h14 x15 => ?_)
          refine nr_aload_n 1 dL_isCopySo_88 rfl ?_
          refine nr_iload_n 2 dL_isCopySo_89 rfl ?_
          refine nr_rcv (ks := [18]) (pre := [.inl v2]) (fun a16 hm => ?_)
          refine nr_doI (st := [.inl x15]) (nk_goStI (nk_callV (q := (RX11, TX11, 9)) (ci := 11) (c_X11_broken (G := G) hl0 h14 a16 v2) dL_isCopySo_90 (List.mem_singleton.mp hm) rfl rfl my_X11_broken im_X11_broken se_RX11_X11_broken ml_RL_77 rfl rfl (Nat.le_of_ble_eq_true rfl) (by decide) (by decide))) (fun h17 x18 => ?_)
          refine nr_icmp_ne (tgt := 100) dL_isCopySo_93 (by decide) (fun _ => ?_) (fun _ => ?_)
          · refine nr_iconst (v := 1) dL_isCopySo_96 (by decide) ?_
            refine nr_goto (tgt := 101) dL_isCopySo_97 (by decide) ?_
            exact nk_locals [1, 2, 3, 4, 5] rfl (s_L_isCopySo_c101 hl0  h17 v0 v2 v3 v4 v5 1)
          · exact nk_locals [1, 2, 3, 4, 5] rfl (s_L_isCopySo_c100 hl0  h17 v0 v2 v3 v4 v5)
      · exact nk_locals [1, 2, 3, 4, 5] rfl (s_L_isCopySo_c100 hl0  h8 v0 v2 v3 v4 v5)
set_option maxHeartbeats 4000000 in
theorem s_L_isCopySo {G : nk_G} {l : Launch} (hl0 : l.flags = flags0) (h : nk_H) (v0 : Option Nat) (v1 : Option Nat) (v2 : Int32) (v3 : Int32) : nk_Sim G l RL cL_isCopySo 9 (some FieldType.boolean) 11 261 false nk_eI 0 [(0, .inr v0), (1, .inr v1), (2, .inl v2), (3, .inl v3)] [] h (f_L_isCopySo  h v0 v1 v2 v3) := by
  unfold f_L_isCopySo
  refine nr_aload_n 0 dL_isCopySo_0 rfl ?_
  refine nr_iload_n 2 dL_isCopySo_1 rfl ?_
  refine nr_rcv (ks := [18]) (pre := [.inl v2]) (fun a19 hm => ?_)
  refine nr_doI (st := []) (nk_goStI (nk_callV (q := (RX11, TX11, 9)) (ci := 11) (c_X11_records (G := G) hl0 h a19 v2) dL_isCopySo_2 (List.mem_singleton.mp hm) rfl rfl my_X11_records im_X11_records se_RX11_X11_records ml_RL_120 rfl rfl (Nat.le_of_ble_eq_true rfl) (by decide) (by decide))) (fun h20 x21 => ?_)
  refine nr_istore (lv2 := [(4, .inl x21), (0, .inr v0), (1, .inr v1), (2, .inl v2), (3, .inl v3)]) dL_isCopySo_5 (by decide) rfl ?_
  refine nr_aload_n 1 dL_isCopySo_7 rfl ?_
  refine nr_bipush (v := 10) dL_isCopySo_8 (by decide) ?_
  refine nr_iload_n 3 dL_isCopySo_10 rfl ?_
  refine nr_iconst (v := 0) dL_isCopySo_11 (by decide) ?_
  refine nr_iload 0 dL_isCopySo_12 rfl ?_
  refine nr_iconst (v := 1) dL_isCopySo_14 (by decide) ?_
  refine nr_isub dL_isCopySo_15 ?_
  refine nr_iload_n 4 dL_isCopySo_16 rfl ?_
  refine nr_doI (st := []) (nk_callSW (c_L_does (G := G) hl0 h20 v0 10 v2 0 (x21 - 1) v3) dL_isCopySo_17 my_L_does st_L_does ml_RL_100 rfl rfl (Nat.le_of_ble_eq_true rfl) (by decide) (by decide)) (fun h22 x23 => ?_)
  refine nr_istore (lv2 := [(5, .inl x23), (4, .inl x21), (0, .inr v0), (1, .inr v1), (2, .inl v2), (3, .inl v3)]) dL_isCopySo_20 (by decide) rfl ?_
  refine nr_aload_n 3 dL_isCopySo_22 rfl ?_
  refine nr_bipush (v := 10) dL_isCopySo_23 (by decide) ?_
  refine nr_iload_n 4 dL_isCopySo_25 rfl ?_
  refine nr_iconst (v := 0) dL_isCopySo_26 (by decide) ?_
  refine nr_iload 1 dL_isCopySo_27 rfl ?_
  refine nr_iconst (v := 1) dL_isCopySo_29 (by decide) ?_
  refine nr_isub dL_isCopySo_30 ?_
  refine nr_iload_n 5 dL_isCopySo_31 rfl ?_
  refine nr_doI (st := []) (nk_callSW (c_L_does (G := G) hl0 h22 v1 10 v2 0 (x21 - 1) v3) dL_isCopySo_32 my_L_does st_L_does ml_RL_100 rfl rfl (Nat.le_of_ble_eq_true rfl) (by decide) (by decide)) (fun h24 x25 => ?_)
  refine nr_iload 0 dL_isCopySo_35 rfl ?_
  refine nr_icmp_ne (tgt := 44) dL_isCopySo_37 (by decide) (fun _ => ?_) (fun _ => ?_)
  · refine nr_iconst (v := 1) dL_isCopySo_40 (by decide) ?_
    refine nr_goto (tgt := 45) dL_isCopySo_41 (by decide) ?_
    exact nk_locals [2, 4, 5, 1, 0] rfl (s_L_isCopySo_c45 hl0  h24 v0 v2 v3 x21 x23 1)
  · refine nr_iconst (v := 0) dL_isCopySo_44 (by decide) ?_
    exact nk_locals [2, 4, 5, 1, 0] rfl (s_L_isCopySo_c45 hl0  h24 v0 v2 v3 x21 x23 0)
theorem c_L_isCopySo {G : nk_G} {l : Launch} (hl0 : l.flags = flags0) (h : nk_H) (v0 : Option Nat) (v1 : Option Nat) (v2 : Int32) (v3 : Int32) : nk_Con G l yL_isCopySo cL_isCopySo 9 (some FieldType.boolean) 11 261 nk_eI [.inr v0, .inr v1, .inl v2, .inl v3] h (f_L_isCopySo h v0 v1 v2 v3) :=
  nk_con (ini := false) (by decide) hl0 (Nat.le_of_ble_eq_true rfl) (by decide) (s_L_isCopySo hl0 h v0 v1 v2 v3) (Or.inr (List.mem_of_getElem? (i := 8) rfl)) (fun _ => by decide +kernel)
