set_option maxHeartbeats 4000000 in
theorem s_L_areAlike_c172 {G : nk_G} {l : Launch} (hl0 : l.flags = flags0) {r52 : nk_H → Option Nat → Option Nat → Int32 → Int32 → Option (nk_H × Int32)} (hr52 : ∀ (h : nk_H) (v0 : Option Nat) (v1 : Option Nat) (v2 : Int32) (v3 : Int32), nk_Sim G l RL cL_areAlike 4 (some FieldType.boolean) 9 174 false nk_eI 52 [(0, .inr v0), (1, .inr v1), (2, .inl v2), (3, .inl v3)] [] h (r52 h v0 v1 v2 v3)) (h : nk_H) (v0 : Option Nat) (v1 : Option Nat) (v3 : Int32) (s0 : Int32) : nk_Sim G l RL cL_areAlike 4 (some FieldType.boolean) 9 174 false nk_eI 172 [(0, .inr v0), (1, .inr v1), (3, .inl v3)] [.inl s0] h (f_L_areAlike_c172  r52 h v0 v1 v3 s0) := by
  unfold f_L_areAlike_c172
  refine nr_istore_n (lv2 := [(2, .inl s0), (0, .inr v0), (1, .inr v1), (3, .inl v3)]) dL_areAlike_172 (by decide) rfl ?_
  refine nr_iinc (lv2 := [(3, .inl (v3 + 1)), (2, .inl s0), (0, .inr v0), (1, .inr v1)]) 3 (v3 + 1) dL_areAlike_173 rfl (by rfl) (by decide) rfl ?_
  refine nr_goto (tgt := 52) dL_areAlike_176 (by decide) ?_
  exact nk_locals [2, 3, 1, 0] rfl (hr52 h v0 v1 s0 (v3 + 1))
set_option maxHeartbeats 4000000 in
theorem s_L_areAlike_c171 {G : nk_G} {l : Launch} (hl0 : l.flags = flags0) {r52 : nk_H → Option Nat → Option Nat → Int32 → Int32 → Option (nk_H × Int32)} (hr52 : ∀ (h : nk_H) (v0 : Option Nat) (v1 : Option Nat) (v2 : Int32) (v3 : Int32), nk_Sim G l RL cL_areAlike 4 (some FieldType.boolean) 9 174 false nk_eI 52 [(0, .inr v0), (1, .inr v1), (2, .inl v2), (3, .inl v3)] [] h (r52 h v0 v1 v2 v3)) (h : nk_H) (v0 : Option Nat) (v1 : Option Nat) (v3 : Int32)  : nk_Sim G l RL cL_areAlike 4 (some FieldType.boolean) 9 174 false nk_eI 171 [(0, .inr v0), (1, .inr v1), (3, .inl v3)] [] h (f_L_areAlike_c171  r52 h v0 v1 v3 ) := by
  unfold f_L_areAlike_c171
  refine nr_iconst (v := 0) dL_areAlike_171 (by decide) ?_
  exact s_L_areAlike_c172 hl0 hr52 h v0 v1 v3 0
set_option maxHeartbeats 4000000 in
theorem s_L_areAlike_c179 {G : nk_G} {l : Launch} (hl0 : l.flags = flags0)   (h : nk_H) (v2 : Int32)  : nk_Sim G l RL cL_areAlike 4 (some FieldType.boolean) 9 174 false nk_eI 179 [(2, .inl v2)] [] h (f_L_areAlike_c179   h v2 ) := by
  unfold f_L_areAlike_c179
  refine nr_iload_n 0 dL_areAlike_179 rfl ?_
  exact nr_zret rfl rfl dL_areAlike_180
set_option maxHeartbeats 4000000 in
theorem s_L_areAlike_c52 {G : nk_G} {l : Launch} (hl0 : l.flags = flags0) {r52 : nk_H → Option Nat → Option Nat → Int32 → Int32 → Option (nk_H × Int32)} (hr52 : ∀ (h : nk_H) (v0 : Option Nat) (v1 : Option Nat) (v2 : Int32) (v3 : Int32), nk_Sim G l RL cL_areAlike 4 (some FieldType.boolean) 9 174 false nk_eI 52 [(0, .inr v0), (1, .inr v1), (2, .inl v2), (3, .inl v3)] [] h (r52 h v0 v1 v2 v3)) (h : nk_H) (v0 : Option Nat) (v1 : Option Nat) (v2 : Int32) (v3 : Int32)  : nk_Sim G l RL cL_areAlike 4 (some FieldType.boolean) 9 174 false nk_eI 52 [(0, .inr v0), (1, .inr v1), (2, .inl v2), (3, .inl v3)] [] h (f_L_areAlike_c52  r52 h v0 v1 v2 v3 ) := by
  unfold f_L_areAlike_c52
  refine nr_iload_n 3 dL_areAlike_52 rfl ?_
  refine nr_bipush (v := 6) dL_areAlike_53 (by decide) ?_
  refine nr_icmp_ge (tgt := 179) dL_areAlike_55 (by decide) (fun _ => ?_) (fun _ => ?_)
  · exact nk_locals [2] rfl (s_L_areAlike_c179 hl0  h v2)
  · refine nr_iload_n 2 dL_areAlike_58 rfl ?_
    refine nr_if_eq (tgt := 179) dL_areAlike_59 (by decide) (fun _ => ?_) (fun _ => ?_)
    · exact nk_locals [2] rfl (s_L_areAlike_c179 hl0  h v2)
    · refine nr_aload_n 0 dL_areAlike_62 rfl ?_
      refine nr_iload_n 3 dL_areAlike_63 rfl ?_
      refine nr_rcv (ks := [18]) (pre := [.inl v3]) (fun a1 hm => ?_)
      refine nr_doI (st := []) (nk_goStI (nk_callV (q := (RX11, TX11, 9)) (ci := 11) (c_X11_records (G := G) hl0 h a1 v3) dL_areAlike_64 (List.mem_singleton.mp hm) rfl rfl my_X11_records im_X11_records se_RX11_X11_records ml_RL_120 rfl rfl (Nat.le_of_ble_eq_true rfl) (by decide) (by decide))) (fun h2 x3 => ?_)
      refine nr_aload_n 1 dL_areAlike_67 rfl ?_
      refine nr_iload_n 3 dL_areAlike_68 rfl ?_
      refine nr_rcv (ks := [18]) (pre := [.inl v3]) (fun a4 hm => ?_)
      refine nr_doI (st := [.inl x3]) (nk_goStI (nk_callV (q := (RX11, TX11, 9)) (ci := 11) (c_X11_records (G := G) hl0 h2 a4 v3) dL_areAlike_69 (List.mem_singleton.mp hm) rfl rfl my_X11_records im_X11_records se_RX11_X11_records ml_RL_120 rfl rfl (Nat.le_of_ble_eq_true rfl) (by decide) (by decide))) (fun h5 x6 => ?_)
      refine nr_icmp_ne (tgt := 171) dL_areAlike_72 (by decide) (fun _ => ?_) (fun _ => ?_)
      · refine nr_aload_n 0 dL_areAlike_75 rfl ?_
        refine nr_iload_n 3 dL_areAlike_76 rfl ?_
        refine nr_rcv (ks := [18]) (pre := [.inl v3]) (fun a7 hm => ?_)
        refine nr_doI (st := []) (nk_goStI (nk_callV (q := (RX11, TX11, 9)) (ci := 11) (c_X11_mail (G := G) hl0 h5 a7 v3) dL_areAlike_77 (List.mem_singleton.mp hm) rfl rfl my_X11_mail im_X11_mail se_RX11_X11_mail ml_RL_123 rfl rfl (Nat.le_of_ble_eq_true rfl) (by decide) (by decide))) (fun h8 x9 => ?_)
        refine nr_aload_n 1 dL_areAlike_80 rfl ?_
        refine nr_iload_n 3 dL_areAlike_81 rfl ?_
        refine nr_rcv (ks := [18]) (pre := [.inl v3]) (fun a10 hm => ?_)
        refine nr_doI (st := [.inl x9]) (nk_goStI (nk_callV (q := (RX11, TX11, 9)) (ci := 11) (c_X11_mail (G := G) hl0 h8 a10 v3) dL_areAlike_82 (List.mem_singleton.mp hm) rfl rfl my_X11_mail im_X11_mail se_RX11_X11_mail ml_RL_123 rfl rfl (Nat.le_of_ble_eq_true rfl) (by decide) (by decide))) (fun h11 x12 => ?_)
        refine nr_icmp_ne (tgt := 171) dL_areAlike_85 (by decide) (fun _ => ?_) (fun _ => ?_)
        · refine nr_aload_n 0 dL_areAlike_88 rfl ?_
          refine nr_iload_n 3 dL_areAlike_89 rfl ?_
          refine nr_rcv (ks := [18]) (pre := [.inl v3]) (fun a13 hm => ?_)
          refine nr_doI (st := []) (nk_goStI (nk_callV (q := (RX11, TX11, 9)) (ci := 11) (c_X11_broken (G := G) hl0 h11 a13 v3) dL_areAlike_90 (List.mem_singleton.mp hm) rfl rfl my_X11_broken im_X11_broken se_RX11_X11_broken ml_RL_77 rfl rfl (Nat.le_of_ble_eq_true rfl) (by decide) (by decide))) (fun h14 x15 => ?_)
          refine nr_aload_n 1 dL_areAlike_93 rfl ?_
          refine nr_iload_n 3 dL_areAlike_94 rfl ?_
          refine nr_rcv (ks := [18]) (pre := [.inl v3]) (fun a16 hm => ?_)
          refine nr_doI (st := [.inl x15]) (nk_goStI (nk_callV (q := (RX11, TX11, 9)) (ci := 11) (c_X11_broken (G := G) hl0 h14 a16 v3) dL_areAlike_95 (List.mem_singleton.mp hm) rfl rfl my_X11_broken im_X11_broken se_RX11_X11_broken ml_RL_77 rfl rfl (Nat.le_of_ble_eq_true rfl) (by decide) (by decide))) (fun h17 x18 => ?_)
          refine nr_icmp_ne (tgt := 171) dL_areAlike_98 (by decide) (fun _ => ?_) (fun _ => ?_)
          · refine nr_aload_n 0 dL_areAlike_101 rfl ?_
            refine nr_iconst (v := 1) dL_areAlike_102 (by decide) ?_
            refine nr_iload_n 3 dL_areAlike_103 rfl ?_
            refine nr_iconst (v := 0) dL_areAlike_104 (by decide) ?_
            refine nr_doI (st := []) (nk_callSW (c_L_looks (G := G) hl0 h17 v0 1 v3 0) dL_areAlike_105 my_L_looks st_L_looks ml_RL_126 rfl rfl (Nat.le_of_ble_eq_true rfl) (by decide) (by decide)) (fun h19 x20 => ?_)
            refine nr_aload_n 1 dL_areAlike_108 rfl ?_
            refine nr_iconst (v := 1) dL_areAlike_109 (by decide) ?_
            refine nr_iload_n 3 dL_areAlike_110 rfl ?_
            refine nr_iconst (v := 0) dL_areAlike_111 (by decide) ?_
            refine nr_doI (st := [.inl x20]) (nk_callSW (c_L_looks (G := G) hl0 h19 v1 1 v3 0) dL_areAlike_112 my_L_looks st_L_looks ml_RL_126 rfl rfl (Nat.le_of_ble_eq_true rfl) (by decide) (by decide)) (fun h21 x22 => ?_)
            refine nr_icmp_ne (tgt := 171) dL_areAlike_115 (by decide) (fun _ => ?_) (fun _ => ?_)
            · refine nr_aload_n 0 dL_areAlike_118 rfl ?_
              refine nr_iconst (v := 3) dL_areAlike_119 (by decide) ?_
              refine nr_iload_n 3 dL_areAlike_120 rfl ?_
              refine nr_iconst (v := 0) dL_areAlike_121 (by decide) ?_
              refine nr_doI (st := []) (nk_callSW (c_L_looks (G := G) hl0 h21 v0 3 v3 0) dL_areAlike_122 my_L_looks st_L_looks ml_RL_126 rfl rfl (Nat.le_of_ble_eq_true rfl) (by decide) (by decide)) (fun h23 x24 => ?_)
              refine nr_aload_n 1 dL_areAlike_125 rfl ?_
              refine nr_iconst (v := 3) dL_areAlike_126 (by decide) ?_
              refine nr_iload_n 3 dL_areAlike_127 rfl ?_
              refine nr_iconst (v := 0) dL_areAlike_128 (by decide) ?_
              refine nr_doI (st := [.inl x24]) (nk_callSW (c_L_looks (G := G) hl0 h23 v1 3 v3 0) dL_areAlike_129 my_L_looks st_L_looks ml_RL_126 rfl rfl (Nat.le_of_ble_eq_true rfl) (by decide) (by decide)) (fun h25 x26 => ?_)
              refine nr_icmp_ne (tgt := 171) dL_areAlike_132 (by decide) (fun _ => ?_) (fun _ => ?_)
              · refine nr_aload_n 0 dL_areAlike_135 rfl ?_
                refine nr_iconst (v := 4) dL_areAlike_136 (by decide) ?_
                refine nr_iload_n 3 dL_areAlike_137 rfl ?_
                refine nr_iconst (v := 0) dL_areAlike_138 (by decide) ?_
                refine nr_doI (st := []) (nk_callSW (c_L_looks (G := G) hl0 h25 v0 4 v3 0) dL_areAlike_139 my_L_looks st_L_looks ml_RL_126 rfl rfl (Nat.le_of_ble_eq_true rfl) (by decide) (by decide)) (fun h27 x28 => ?_)
                refine nr_aload_n 1 dL_areAlike_142 rfl ?_
                refine nr_iconst (v := 4) dL_areAlike_143 (by decide) ?_
                refine nr_iload_n 3 dL_areAlike_144 rfl ?_
                refine nr_iconst (v := 0) dL_areAlike_145 (by decide) ?_
                refine nr_doI (st := [.inl x28]) (nk_callSW (c_L_looks (G := G) hl0 h27 v1 4 v3 0) dL_areAlike_146 my_L_looks st_L_looks ml_RL_126 rfl rfl (Nat.le_of_ble_eq_true rfl) (by decide) (by decide)) (fun h29 x30 => ?_)
                refine nr_icmp_ne (tgt := 171) dL_areAlike_149 (by decide) (fun _ => ?_) (fun _ => ?_)
                · refine nr_aload_n 0 dL_areAlike_152 rfl ?_
                  refine nr_iload_n 3 dL_areAlike_153 rfl ?_
                  refine nr_iconst (v := 0) dL_areAlike_154 (by decide) ?_
                  refine nr_rcv (ks := [18]) (pre := [.inl 0, .inl v3]) (fun a31 hm => ?_)
                  refine nr_doI (st := []) (nk_goStI (nk_callV (q := (RX11, TX11, 9)) (ci := 11) (c_X11_areJoined (G := G) hl0 h29 a31 v3 0) dL_areAlike_155 (List.mem_singleton.mp hm) rfl rfl my_X11_areJoined im_X11_areJoined se_RX11_X11_areJoined ml_RL_130 rfl rfl (Nat.le_of_ble_eq_true rfl) (by decide) (by decide))) (fun h32 x33 => ?_)
                  refine nr_aload_n 1 dL_areAlike_158 rfl ?_
                  refine nr_iload_n 3 dL_areAlike_159 rfl ?_
                  refine nr_iconst (v := 0) dL_areAlike_160 (by decide) ?_
                  refine nr_rcv (ks := [18]) (pre := [.inl 0, .inl v3]) (fun a34 hm => ?_)
                  refine nr_doI (st := [.inl x33]) (nk_goStI (nk_callV (q := (RX11, TX11, 9)) (ci := 11) (c_X11_areJoined (G := G) hl0 h32 a34 v3 0) dL_areAlike_161 (List.mem_singleton.mp hm) rfl rfl my_X11_areJoined im_X11_areJoined se_RX11_X11_areJoined ml_RL_130 rfl rfl (Nat.le_of_ble_eq_true rfl) (by decide) (by decide))) (fun h35 x36 => ?_)
                  refine nr_icmp_ne (tgt := 171) dL_areAlike_164 (by decide) (fun _ => ?_) (fun _ => ?_)
                  · refine nr_iconst (v := 1) dL_areAlike_167 (by decide) ?_
                    refine nr_goto (tgt := 172) dL_areAlike_168 (by decide) ?_
                    exact nk_locals [0, 1, 3] rfl (s_L_areAlike_c172 hl0 hr52 h35 v0 v1 v3 1)
                  · exact nk_locals [0, 1, 3] rfl (s_L_areAlike_c171 hl0 hr52 h35 v0 v1 v3)
                · exact nk_locals [0, 1, 3] rfl (s_L_areAlike_c171 hl0 hr52 h29 v0 v1 v3)
              · exact nk_locals [0, 1, 3] rfl (s_L_areAlike_c171 hl0 hr52 h25 v0 v1 v3)
            · exact nk_locals [0, 1, 3] rfl (s_L_areAlike_c171 hl0 hr52 h21 v0 v1 v3)
          · exact nk_locals [0, 1, 3] rfl (s_L_areAlike_c171 hl0 hr52 h17 v0 v1 v3)
        · exact nk_locals [0, 1, 3] rfl (s_L_areAlike_c171 hl0 hr52 h11 v0 v1 v3)
      · exact nk_locals [0, 1, 3] rfl (s_L_areAlike_c171 hl0 hr52 h5 v0 v1 v3)
theorem s_L_areAlike_b52 {G : nk_G} {l : Launch} (hl0 : l.flags = flags0)   : ∀ (n : Nat) (h : nk_H) (v0 : Option Nat) (v1 : Option Nat) (v2 : Int32) (v3 : Int32), nk_Sim G l RL cL_areAlike 4 (some FieldType.boolean) 9 174 false nk_eI 52 [(0, .inr v0), (1, .inr v1), (2, .inl v2), (3, .inl v3)] [] h (f_L_areAlike_b52   n h v0 v1 v2 v3)
  | 0, _, _, _, _, _ => nk_none
  | n + 1, h, v0, v1, v2, v3 => s_L_areAlike_c52 hl0 (s_L_areAlike_b52 hl0  n) h v0 v1 v2 v3
set_option maxHeartbeats 4000000 in
theorem s_L_areAlike_c49 {G : nk_G} {l : Launch} (hl0 : l.flags = flags0)   (h : nk_H) (v0 : Option Nat) (v1 : Option Nat) (s0 : Int32) : nk_Sim G l RL cL_areAlike 4 (some FieldType.boolean) 9 174 false nk_eI 49 [(0, .inr v0), (1, .inr v1)] [.inl s0] h (f_L_areAlike_c49   h v0 v1 s0) := by
  unfold f_L_areAlike_c49
  refine nr_istore_n (lv2 := [(2, .inl s0), (0, .inr v0), (1, .inr v1)]) dL_areAlike_49 (by decide) rfl ?_
  refine nr_iconst (v := 0) dL_areAlike_50 (by decide) ?_
  refine nr_istore_n (lv2 := [(3, .inl 0), (2, .inl s0), (0, .inr v0), (1, .inr v1)]) dL_areAlike_51 (by decide) rfl ?_
  exact nk_locals [2, 3, 1, 0] rfl (s_L_areAlike_b52 hl0  4096 h v0 v1 s0 0)
set_option maxHeartbeats 4000000 in
theorem s_L_areAlike_c48 {G : nk_G} {l : Launch} (hl0 : l.flags = flags0)   (h : nk_H) (v0 : Option Nat) (v1 : Option Nat)  : nk_Sim G l RL cL_areAlike 4 (some FieldType.boolean) 9 174 false nk_eI 48 [(0, .inr v0), (1, .inr v1)] [] h (f_L_areAlike_c48   h v0 v1 ) := by
  unfold f_L_areAlike_c48
  refine nr_iconst (v := 0) dL_areAlike_48 (by decide) ?_
  exact s_L_areAlike_c49 hl0  h v0 v1 0
set_option maxHeartbeats 4000000 in
theorem s_L_areAlike {G : nk_G} {l : Launch} (hl0 : l.flags = flags0) (h : nk_H) (v0 : Option Nat) (v1 : Option Nat) : nk_Sim G l RL cL_areAlike 4 (some FieldType.boolean) 9 174 false nk_eI 0 [(0, .inr v0), (1, .inr v1)] [] h (f_L_areAlike  h v0 v1) := by
  unfold f_L_areAlike
  refine nr_aload_n 0 dL_areAlike_0 rfl ?_
  refine nr_rcv (ks := [18]) (pre := []) (fun a37 hm => ?_)
  refine nr_doI (st := []) (nk_callV (q := (RX11, TX11, 9)) (ci := 11) (c_X11_hour (G := G) hl0 h a37) dL_areAlike_1 (List.mem_singleton.mp hm) rfl rfl my_X11_hour im_X11_hour se_RX11_X11_hour ml_RL_111 rfl rfl (Nat.le_of_ble_eq_true rfl) (by decide) (by decide)) (fun h38 x39 => ?_)
  refine nr_aload_n 1 dL_areAlike_4 rfl ?_
  refine nr_rcv (ks := [18]) (pre := []) (fun a40 hm => ?_)
  refine nr_doI (st := [.inl x39]) (nk_callV (q := (RX11, TX11, 9)) (ci := 11) (c_X11_hour (G := G) hl0 h38 a40) dL_areAlike_5 (List.mem_singleton.mp hm) rfl rfl my_X11_hour im_X11_hour se_RX11_X11_hour ml_RL_111 rfl rfl (Nat.le_of_ble_eq_true rfl) (by decide) (by decide)) (fun h41 x42 => ?_)
  refine nr_icmp_ne (tgt := 48) dL_areAlike_8 (by decide) (fun _ => ?_) (fun _ => ?_)
  · refine nr_aload_n 0 dL_areAlike_11 rfl ?_
    refine nr_rcv (ks := [18]) (pre := []) (fun a43 hm => ?_)
    refine nr_doI (st := []) (nk_callV (q := (RX11, TX11, 9)) (ci := 11) (c_X11_news (G := G) hl0 h41 a43) dL_areAlike_12 (List.mem_singleton.mp hm) rfl rfl my_X11_news im_X11_news se_RX11_X11_news ml_RL_114 rfl rfl (Nat.le_of_ble_eq_true rfl) (by decide) (by decide)) (fun h44 x45 => ?_)
    refine nr_aload_n 1 dL_areAlike_15 rfl ?_
    refine nr_rcv (ks := [18]) (pre := []) (fun a46 hm => ?_)
    refine nr_doI (st := [.inl x45]) (nk_callV (q := (RX11, TX11, 9)) (ci := 11) (c_X11_news (G := G) hl0 h44 a46) dL_areAlike_16 (List.mem_singleton.mp hm) rfl rfl my_X11_news im_X11_news se_RX11_X11_news ml_RL_114 rfl rfl (Nat.le_of_ble_eq_true rfl) (by decide) (by decide)) (fun h47 x48 => ?_)
    refine nr_icmp_ne (tgt := 48) dL_areAlike_19 (by decide) (fun _ => ?_) (fun _ => ?_)
    · refine nr_aload_n 0 dL_areAlike_22 rfl ?_
      refine nr_rcv (ks := [18]) (pre := []) (fun a49 hm => ?_)
      refine nr_doI (st := []) (nk_callV (q := (RX11, TX11, 9)) (ci := 11) (c_X11_powers (G := G) hl0 h47 a49) dL_areAlike_23 (List.mem_singleton.mp hm) rfl rfl my_X11_powers im_X11_powers se_RX11_X11_powers ml_RL_96 rfl rfl (Nat.le_of_ble_eq_true rfl) (by decide) (by decide)) (fun h50 x51 => ?_)
      refine nr_aload_n 1 dL_areAlike_26 rfl ?_
      refine nr_rcv (ks := [18]) (pre := []) (fun a52 hm => ?_)
      refine nr_doI (st := [.inl x51]) (nk_callV (q := (RX11, TX11, 9)) (ci := 11) (c_X11_powers (G := G) hl0 h50 a52) dL_areAlike_27 (List.mem_singleton.mp hm) rfl rfl my_X11_powers im_X11_powers se_RX11_X11_powers ml_RL_96 rfl rfl (Nat.le_of_ble_eq_true rfl) (by decide) (by decide)) (fun h53 x54 => ?_)
      refine nr_icmp_ne (tgt := 48) dL_areAlike_30 (by decide) (fun _ => ?_) (fun _ => ?_)
      · refine nr_aload_n 0 dL_areAlike_33 rfl ?_
        refine nr_rcv (ks := [18]) (pre := []) (fun a55 hm => ?_)
        refine nr_doI (st := []) (nk_callV (q := (RX11, TX11, 9)) (ci := 11) (c_X11_standing (G := G) hl0 h53 a55) dL_areAlike_34 (List.mem_singleton.mp hm) rfl rfl my_X11_standing im_X11_standing se_RX11_X11_standing ml_RL_117 rfl rfl (Nat.le_of_ble_eq_true rfl) (by decide) (by decide)) (fun h56 x57 => ?_)
        refine nr_aload_n 1 dL_areAlike_37 rfl ?_
        refine nr_rcv (ks := [18]) (pre := []) (fun a58 hm => ?_)
        refine nr_doI (st := [.inl x57]) (nk_callV (q := (RX11, TX11, 9)) (ci := 11) (c_X11_standing (G := G) hl0 h56 a58) dL_areAlike_38 (List.mem_singleton.mp hm) rfl rfl my_X11_standing im_X11_standing se_RX11_X11_standing ml_RL_117 rfl rfl (Nat.le_of_ble_eq_true rfl) (by decide) (by decide)) (fun h59 x60 => ?_)
        refine nr_icmp_ne (tgt := 48) dL_areAlike_41 (by decide) (fun _ => ?_) (fun _ => ?_)
        · refine nr_iconst (v := 1) dL_areAlike_44 (by decide) ?_
          refine nr_goto (tgt := 49) dL_areAlike_45 (by decide) ?_
          exact s_L_areAlike_c49 hl0  h59 v0 v1 1
        · exact s_L_areAlike_c48 hl0  h59 v0 v1
      · exact s_L_areAlike_c48 hl0  h53 v0 v1
    · exact s_L_areAlike_c48 hl0  h47 v0 v1
  · exact s_L_areAlike_c48 hl0  h41 v0 v1
theorem c_L_areAlike {G : nk_G} {l : Launch} (hl0 : l.flags = flags0) (h : nk_H) (v0 : Option Nat) (v1 : Option Nat) : nk_Con G l yL_areAlike cL_areAlike 4 (some FieldType.boolean) 9 174 nk_eI [.inr v0, .inr v1] h (f_L_areAlike h v0 v1) :=
  nk_con (ini := false) (by decide) hl0 (Nat.le_of_ble_eq_true rfl) (by decide) (s_L_areAlike hl0 h v0 v1) (Or.inr (List.mem_of_getElem? (i := 4) rfl)) (fun _ => by decide +kernel)
set_option maxHeartbeats 4000000 in
theorem s_L_isNewsSo_c134 {G : nk_G} {l : Launch} (hl0 : l.flags = flags0) {r53 : nk_H → Option Nat → Int32 → Int32 → Int32 → Int32 → Int32 → Int32 → Option (nk_H × Int32)} (hr53 : ∀ (h : nk_H) (v0 : Option Nat) (v1 : Int32) (v2 : Int32) (v3 : Int32) (v4 : Int32) (v5 : Int32) (v6 : Int32), nk_Sim G l RL cL_isNewsSo 8 (some FieldType.boolean) 8 128 false nk_eI 53 [(0, .inr v0), (1, .inl v1), (2, .inl v2), (3, .inl v3), (4, .inl v4), (5, .inl v5), (6, .inl v6)] [] h (r53 h v0 v1 v2 v3 v4 v5 v6)) (h : nk_H) (v0 : Option Nat) (v1 : Int32) (v2 : Int32) (v4 : Int32) (v5 : Int32) (v6 : Int32) (s0 : Int32) (s1 : Int32) : nk_Sim G l RL cL_isNewsSo 8 (some FieldType.boolean) 8 128 false nk_eI 134 [(0, .inr v0), (1, .inl v1), (2, .inl v2), (4, .inl v4), (5, .inl v5), (6, .inl v6)] [.inl s0, .inl s1] h (f_L_isNewsSo_c134  r53 h v0 v1 v2 v4 v5 v6 s0 s1) := by
  unfold f_L_isNewsSo_c134
  refine nr_iadd dL_isNewsSo_134 ?_
  refine nr_istore_n (lv2 := [(3, .inl (s1 + s0)), (0, .inr v0), (1, .inl v1), (2, .inl v2), (4, .inl v4), (5, .inl v5), (6, .inl v6)]) dL_isNewsSo_135 (by decide) rfl ?_
  refine nr_iinc (lv2 := [(6, .inl (v6 + 1)), (3, .inl (s1 + s0)), (0, .inr v0), (1, .inl v1), (2, .inl v2), (4, .inl v4), (5, .inl v5)]) 6 (v6 + 1) dL_isNewsSo_136 rfl (by rfl) (by decide) rfl ?_
  refine nr_goto (tgt := 53) dL_isNewsSo_139 (by decide) ?_
  exact nk_locals [2, 3, 4, 1, 5, 6, 0] rfl (hr53 h v0 v1 v2 (s1 + s0) v4 v5 (v6 + 1))
set_option maxHeartbeats 4000000 in
theorem s_L_isNewsSo_c133 {G : nk_G} {l : Launch} (hl0 : l.flags = flags0) {r53 : nk_H → Option Nat → Int32 → Int32 → Int32 → Int32 → Int32 → Int32 → Option (nk_H × Int32)} (hr53 : ∀ (h : nk_H) (v0 : Option Nat) (v1 : Int32) (v2 : Int32) (v3 : Int32) (v4 : Int32) (v5 : Int32) (v6 : Int32), nk_Sim G l RL cL_isNewsSo 8 (some FieldType.boolean) 8 128 false nk_eI 53 [(0, .inr v0), (1, .inl v1), (2, .inl v2), (3, .inl v3), (4, .inl v4), (5, .inl v5), (6, .inl v6)] [] h (r53 h v0 v1 v2 v3 v4 v5 v6)) (h : nk_H) (v0 : Option Nat) (v1 : Int32) (v2 : Int32) (v4 : Int32) (v5 : Int32) (v6 : Int32) (s0 : Int32) : nk_Sim G l RL cL_isNewsSo 8 (some FieldType.boolean) 8 128 false nk_eI 133 [(0, .inr v0), (1, .inl v1), (2, .inl v2), (4, .inl v4), (5, .inl v5), (6, .inl v6)] [.inl s0] h (f_L_isNewsSo_c133  r53 h v0 v1 v2 v4 v5 v6 s0) := by
  unfold f_L_isNewsSo_c133
  refine nr_iconst (v := 0) dL_isNewsSo_133 (by decide) ?_
  exact s_L_isNewsSo_c134 hl0 hr53 h v0 v1 v2 v4 v5 v6 0 s0
set_option maxHeartbeats 4000000 in
theorem s_L_isNewsSo_c110 {G : nk_G} {l : Launch} (hl0 : l.flags = flags0) {r53 : nk_H → Option Nat → Int32 → Int32 → Int32 → Int32 → Int32 → Int32 → Option (nk_H × Int32)} (hr53 : ∀ (h : nk_H) (v0 : Option Nat) (v1 : Int32) (v2 : Int32) (v3 : Int32) (v4 : Int32) (v5 : Int32) (v6 : Int32), nk_Sim G l RL cL_isNewsSo 8 (some FieldType.boolean) 8 128 false nk_eI 53 [(0, .inr v0), (1, .inl v1), (2, .inl v2), (3, .inl v3), (4, .inl v4), (5, .inl v5), (6, .inl v6)] [] h (r53 h v0 v1 v2 v3 v4 v5 v6)) (h : nk_H) (v0 : Option Nat) (v1 : Int32) (v2 : Int32) (v3 : Int32) (v4 : Int32) (v6 : Int32) (v7 : Int32) (s0 : Int32) : nk_Sim G l RL cL_isNewsSo 8 (some FieldType.boolean) 8 128 false nk_eI 110 [(0, .inr v0), (1, .inl v1), (2, .inl v2), (3, .inl v3), (4, .inl v4), (6, .inl v6), (7, .inl v7)] [.inl s0] h (f_L_isNewsSo_c110  r53 h v0 v1 v2 v3 v4 v6 v7 s0) := by
  unfold f_L_isNewsSo_c110
  refine nr_istore (lv2 := [(5, .inl s0), (0, .inr v0), (1, .inl v1), (2, .inl v2), (3, .inl v3), (4, .inl v4), (6, .inl v6), (7, .inl v7)]) dL_isNewsSo_110 (by decide) rfl ?_
  refine nr_iload_n 4 dL_isNewsSo_112 rfl ?_
  refine nr_iload 7 dL_isNewsSo_113 rfl ?_
  refine nr_if_lt (tgt := 133) dL_isNewsSo_115 (by decide) (fun _ => ?_) (fun _ => ?_)
  · exact nk_locals [1, 2, 3, 5, 0, 6] rfl (s_L_isNewsSo_c133 hl0 hr53 h v0 v1 v2 v4 s0 v6 v3)
  · refine nr_aload_n 1 dL_isNewsSo_118 rfl ?_
    refine nr_iload 5 dL_isNewsSo_119 rfl ?_
    refine nr_iload 6 dL_isNewsSo_121 rfl ?_
    refine nr_rcv (ks := [18]) (pre := [.inl v6, .inl v4]) (fun a1 hm => ?_)
    refine nr_doI (st := [.inl v3]) (nk_goStI (nk_callV (q := (RX11, TX11, 9)) (ci := 11) (c_X11_isRead (G := G) hl0 h a1 v4 v6) dL_isNewsSo_123 (List.mem_singleton.mp hm) rfl rfl my_X11_isRead im_X11_isRead se_RX11_X11_isRead ml_RL_137 rfl rfl (Nat.le_of_ble_eq_true rfl) (by decide) (by decide))) (fun h2 x3 => ?_)
    refine nr_if_ne (tgt := 133) dL_isNewsSo_126 (by decide) (fun _ => ?_) (fun _ => ?_)
    · refine nr_iconst (v := 1) dL_isNewsSo_129 (by decide) ?_
      refine nr_goto (tgt := 134) dL_isNewsSo_130 (by decide) ?_
      exact nk_locals [1, 2, 3, 5, 0, 6] rfl (s_L_isNewsSo_c134 hl0 hr53 h2 v0 v1 v2 v4 s0 v6 1 v3)
    · exact nk_locals [1, 2, 3, 5, 0, 6] rfl (s_L_isNewsSo_c133 hl0 hr53 h2 v0 v1 v2 v4 s0 v6 v3)
set_option maxHeartbeats 4000000 in
theorem s_L_isNewsSo_c105 {G : nk_G} {l : Launch} (hl0 : l.flags = flags0) {r53 : nk_H → Option Nat → Int32 → Int32 → Int32 → Int32 → Int32 → Int32 → Option (nk_H × Int32)} (hr53 : ∀ (h : nk_H) (v0 : Option Nat) (v1 : Int32) (v2 : Int32) (v3 : Int32) (v4 : Int32) (v5 : Int32) (v6 : Int32), nk_Sim G l RL cL_isNewsSo 8 (some FieldType.boolean) 8 128 false nk_eI 53 [(0, .inr v0), (1, .inl v1), (2, .inl v2), (3, .inl v3), (4, .inl v4), (5, .inl v5), (6, .inl v6)] [] h (r53 h v0 v1 v2 v3 v4 v5 v6)) (h : nk_H) (v0 : Option Nat) (v1 : Int32) (v2 : Int32) (v3 : Int32) (v4 : Int32) (v6 : Int32) (v7 : Int32)  : nk_Sim G l RL cL_isNewsSo 8 (some FieldType.boolean) 8 128 false nk_eI 105 [(0, .inr v0), (1, .inl v1), (2, .inl v2), (3, .inl v3), (4, .inl v4), (6, .inl v6), (7, .inl v7)] [] h (f_L_isNewsSo_c105  r53 h v0 v1 v2 v3 v4 v6 v7 ) := by
  unfold f_L_isNewsSo_c105
  refine nr_iconst (v := 1) dL_isNewsSo_105 (by decide) ?_
  refine nr_goto (tgt := 110) dL_isNewsSo_106 (by decide) ?_
  exact s_L_isNewsSo_c110 hl0 hr53 h v0 v1 v2 v3 v4 v6 v7 1
set_option maxHeartbeats 4000000 in
theorem s_L_isNewsSo_c109 {G : nk_G} {l : Launch} (hl0 : l.flags = flags0) {r53 : nk_H → Option Nat → Int32 → Int32 → Int32 → Int32 → Int32 → Int32 → Option (nk_H × Int32)} (hr53 : ∀ (h : nk_H) (v0 : Option Nat) (v1 : Int32) (v2 : Int32) (v3 : Int32) (v4 : Int32) (v5 : Int32) (v6 : Int32), nk_Sim G l RL cL_isNewsSo 8 (some FieldType.boolean) 8 128 false nk_eI 53 [(0, .inr v0), (1, .inl v1), (2, .inl v2), (3, .inl v3), (4, .inl v4), (5, .inl v5), (6, .inl v6)] [] h (r53 h v0 v1 v2 v3 v4 v5 v6)) (h : nk_H) (v0 : Option Nat) (v1 : Int32) (v2 : Int32) (v3 : Int32) (v4 : Int32) (v6 : Int32) (v7 : Int32)  : nk_Sim G l RL cL_isNewsSo 8 (some FieldType.boolean) 8 128 false nk_eI 109 [(0, .inr v0), (1, .inl v1), (2, .inl v2), (3, .inl v3), (4, .inl v4), (6, .inl v6), (7, .inl v7)] [] h (f_L_isNewsSo_c109  r53 h v0 v1 v2 v3 v4 v6 v7 ) := by
  unfold f_L_isNewsSo_c109
  refine nr_iconst (v := 0) dL_isNewsSo_109 (by decide) ?_
  exact s_L_isNewsSo_c110 hl0 hr53 h v0 v1 v2 v3 v4 v6 v7 0
set_option maxHeartbeats 4000000 in
theorem s_L_isNewsSo_c206 {G : nk_G} {l : Launch} (hl0 : l.flags = flags0)   (h : nk_H)  (s0 : Int32) : nk_Sim G l RL cL_isNewsSo 8 (some FieldType.boolean) 8 128 false nk_eI 206 [] [.inl s0] h (f_L_isNewsSo_c206   h  s0) := by
  unfold f_L_isNewsSo_c206
  exact nr_zret rfl rfl dL_isNewsSo_206
set_option maxHeartbeats 4000000 in
theorem s_L_isNewsSo_c201 {G : nk_G} {l : Launch} (hl0 : l.flags = flags0)   (h : nk_H)   : nk_Sim G l RL cL_isNewsSo 8 (some FieldType.boolean) 8 128 false nk_eI 201 [] [] h (f_L_isNewsSo_c201   h  ) := by
  unfold f_L_isNewsSo_c201
  refine nr_iconst (v := 1) dL_isNewsSo_201 (by decide) ?_
  refine nr_goto (tgt := 206) dL_isNewsSo_202 (by decide) ?_
  exact s_L_isNewsSo_c206 hl0  h 1
set_option maxHeartbeats 4000000 in
theorem s_L_isNewsSo_c205 {G : nk_G} {l : Launch} (hl0 : l.flags = flags0)   (h : nk_H)   : nk_Sim G l RL cL_isNewsSo 8 (some FieldType.boolean) 8 128 false nk_eI 205 [] [] h (f_L_isNewsSo_c205   h  ) := by
  unfold f_L_isNewsSo_c205
  refine nr_iconst (v := 0) dL_isNewsSo_205 (by decide) ?_
  exact s_L_isNewsSo_c206 hl0  h 0
set_option maxHeartbeats 4000000 in
theorem s_L_isNewsSo_c142 {G : nk_G} {l : Launch} (hl0 : l.flags = flags0)   (h : nk_H) (v0 : Option Nat) (v1 : Int32) (v2 : Int32) (v3 : Int32) (v4 : Int32) (v5 : Int32)  : nk_Sim G l RL cL_isNewsSo 8 (some FieldType.boolean) 8 128 false nk_eI 142 [(0, .inr v0), (1, .inl v1), (2, .inl v2), (3, .inl v3), (4, .inl v4), (5, .inl v5)] [] h (f_L_isNewsSo_c142   h v0 v1 v2 v3 v4 v5 ) := by
  unfold f_L_isNewsSo_c142
  refine nr_iload 5 dL_isNewsSo_142 rfl ?_
  refine nr_if_eq (tgt := 205) dL_isNewsSo_144 (by decide) (fun _ => ?_) (fun _ => ?_)
  · exact nk_locals [] rfl (s_L_isNewsSo_c205 hl0  h)
  · refine nr_aload_n 0 dL_isNewsSo_147 rfl ?_
    refine nr_iload 4 dL_isNewsSo_148 rfl ?_
    refine nr_rcv (ks := [18]) (pre := [.inl v4]) (fun a4 hm => ?_)
    refine nr_doI (st := []) (nk_goStI (nk_callV (q := (RX11, TX11, 9)) (ci := 11) (c_X11_mail (G := G) hl0 h a4 v4) dL_isNewsSo_150 (List.mem_singleton.mp hm) rfl rfl my_X11_mail im_X11_mail se_RX11_X11_mail ml_RL_123 rfl rfl (Nat.le_of_ble_eq_true rfl) (by decide) (by decide))) (fun h5 x6 => ?_)
    refine nr_iload_n 3 dL_isNewsSo_153 rfl ?_
    refine nr_icmp_ne (tgt := 205) dL_isNewsSo_154 (by decide) (fun _ => ?_) (fun _ => ?_)
    · refine nr_aload_n 0 dL_isNewsSo_157 rfl ?_
      refine nr_iload 4 dL_isNewsSo_158 rfl ?_
      refine nr_iload 4 dL_isNewsSo_160 rfl ?_
      refine nr_rcv (ks := [18]) (pre := [.inl v4, .inl v4]) (fun a7 hm => ?_)
      refine nr_doI (st := []) (nk_goStI (nk_callV (q := (RX11, TX11, 9)) (ci := 11) (c_X11_areJoined (G := G) hl0 h5 a7 v4 v4) dL_isNewsSo_162 (List.mem_singleton.mp hm) rfl rfl my_X11_areJoined im_X11_areJoined se_RX11_X11_areJoined ml_RL_130 rfl rfl (Nat.le_of_ble_eq_true rfl) (by decide) (by decide))) (fun h8 x9 => ?_)
      refine nr_if_ne (tgt := 205) dL_isNewsSo_165 (by decide) (fun _ => ?_) (fun _ => ?_)
      · refine nr_iload_n 2 dL_isNewsSo_168 rfl ?_
        refine nr_if_eq (tgt := 201) dL_isNewsSo_169 (by decide) (fun _ => ?_) (fun _ => ?_)
        · exact nk_locals [] rfl (s_L_isNewsSo_c201 hl0  h8)
        · refine nr_aload_n 0 dL_isNewsSo_172 rfl ?_
          refine nr_iload 4 dL_isNewsSo_173 rfl ?_
          refine nr_iload_n 1 dL_isNewsSo_175 rfl ?_
          refine nr_iconst (v := 4) dL_isNewsSo_176 (by decide) ?_
          refine nr_ishr dL_isNewsSo_177 ?_
          refine nr_iload_n 2 dL_isNewsSo_178 rfl ?_
          refine nr_doI (st := [.inl v4, .inr v0]) (nk_callS (c_L_low (G := G) hl0 h8 (v1 >>> (4 &&& 31)) v2) dL_isNewsSo_179 my_L_low st_L_low ml_RL_93 rfl rfl (Nat.le_of_ble_eq_true rfl) (by decide) (by decide)) (fun h10 x11 => ?_)
          refine nr_rcv (ks := [18]) (pre := [.inl x11, .inl v4]) (fun a12 hm => ?_)
          refine nr_doI (st := []) (nk_goStI (nk_callV (q := (RX11, TX11, 9)) (ci := 11) (c_X11_cameByLinks (G := G) hl0 h10 a12 v4 x11) dL_isNewsSo_182 (List.mem_singleton.mp hm) rfl rfl my_X11_cameByLinks im_X11_cameByLinks se_RX11_X11_cameByLinks ml_RL_140 rfl rfl (Nat.le_of_ble_eq_true rfl) (by decide) (by decide))) (fun h13 x14 => ?_)
          refine nr_aload_n 0 dL_isNewsSo_185 rfl ?_
          refine nr_iload 4 dL_isNewsSo_186 rfl ?_
          refine nr_iload_n 1 dL_isNewsSo_188 rfl ?_
          refine nr_iconst (v := 4) dL_isNewsSo_189 (by decide) ?_
          refine nr_ishr dL_isNewsSo_190 ?_
          refine nr_iload_n 2 dL_isNewsSo_191 rfl ?_
          refine nr_doI (st := [.inl v4, .inr v0, .inl x14]) (nk_callS (c_L_low (G := G) hl0 h13 (v1 >>> (4 &&& 31)) v2) dL_isNewsSo_192 my_L_low st_L_low ml_RL_93 rfl rfl (Nat.le_of_ble_eq_true rfl) (by decide) (by decide)) (fun h15 x16 => ?_)
          refine nr_rcv (ks := [18]) (pre := [.inl x16, .inl v4]) (fun a17 hm => ?_)
          refine nr_doI (st := [.inl x14]) (nk_goStI (nk_callV (q := (RX11, TX11, 9)) (ci := 11) (c_X11_came (G := G) hl0 h15 a17 v4 x16) dL_isNewsSo_195 (List.mem_singleton.mp hm) rfl rfl my_X11_came im_X11_came se_RX11_X11_came ml_RL_134 rfl rfl (Nat.le_of_ble_eq_true rfl) (by decide) (by decide))) (fun h18 x19 => ?_)
          refine nr_icmp_ne (tgt := 205) dL_isNewsSo_198 (by decide) (fun _ => ?_) (fun _ => ?_)
          · exact nk_locals [] rfl (s_L_isNewsSo_c201 hl0  h18)
          · exact nk_locals [] rfl (s_L_isNewsSo_c205 hl0  h18)
      · exact nk_locals [] rfl (s_L_isNewsSo_c205 hl0  h8)
    · exact nk_locals [] rfl (s_L_isNewsSo_c205 hl0  h5)
set_option maxHeartbeats 4000000 in
theorem s_L_isNewsSo_c53 {G : nk_G} {l : Launch} (hl0 : l.flags = flags0) {r53 : nk_H → Option Nat → Int32 → Int32 → Int32 → Int32 → Int32 → Int32 → Option (nk_H × Int32)} (hr53 : ∀ (h : nk_H) (v0 : Option Nat) (v1 : Int32) (v2 : Int32) (v3 : Int32) (v4 : Int32) (v5 : Int32) (v6 : Int32), nk_Sim G l RL cL_isNewsSo 8 (some FieldType.boolean) 8 128 false nk_eI 53 [(0, .inr v0), (1, .inl v1), (2, .inl v2), (3, .inl v3), (4, .inl v4), (5, .inl v5), (6, .inl v6)] [] h (r53 h v0 v1 v2 v3 v4 v5 v6)) (h : nk_H) (v0 : Option Nat) (v1 : Int32) (v2 : Int32) (v3 : Int32) (v4 : Int32) (v5 : Int32) (v6 : Int32)  : nk_Sim G l RL cL_isNewsSo 8 (some FieldType.boolean) 8 128 false nk_eI 53 [(0, .inr v0), (1, .inl v1), (2, .inl v2), (3, .inl v3), (4, .inl v4), (5, .inl v5), (6, .inl v6)] [] h (f_L_isNewsSo_c53  r53 h v0 v1 v2 v3 v4 v5 v6 ) := by
  unfold f_L_isNewsSo_c53
  refine nr_iload 6 dL_isNewsSo_53 rfl ?_
  refine nr_iload_n 2 dL_isNewsSo_55 rfl ?_
  refine nr_icmp_ge (tgt := 142) dL_isNewsSo_56 (by decide) (fun _ => ?_) (fun _ => ?_)
  · exact nk_locals [0, 1, 2, 3, 4, 5] rfl (s_L_isNewsSo_c142 hl0  h v0 v1 v2 v3 v4 v5)
  · refine nr_iload 5 dL_isNewsSo_59 rfl ?_
    refine nr_if_eq (tgt := 142) dL_isNewsSo_61 (by decide) (fun _ => ?_) (fun _ => ?_)
    · exact nk_locals [0, 1, 2, 3, 4, 5] rfl (s_L_isNewsSo_c142 hl0  h v0 v1 v2 v3 v4 v5)
    · refine nr_aload_n 0 dL_isNewsSo_64 rfl ?_
      refine nr_iload 4 dL_isNewsSo_65 rfl ?_
      refine nr_iload 6 dL_isNewsSo_67 rfl ?_
      refine nr_rcv (ks := [18]) (pre := [.inl v6, .inl v4]) (fun a20 hm => ?_)
      refine nr_doI (st := []) (nk_goStI (nk_callV (q := (RX11, TX11, 9)) (ci := 11) (c_X11_came (G := G) hl0 h a20 v4 v6) dL_isNewsSo_69 (List.mem_singleton.mp hm) rfl rfl my_X11_came im_X11_came se_RX11_X11_came ml_RL_134 rfl rfl (Nat.le_of_ble_eq_true rfl) (by decide) (by decide))) (fun h21 x22 => ?_)
      refine nr_istore (lv2 := [(7, .inl x22), (0, .inr v0), (1, .inl v1), (2, .inl v2), (3, .inl v3), (4, .inl v4), (5, .inl v5), (6, .inl v6)]) dL_isNewsSo_72 (by decide) rfl ?_
      refine nr_iload 0 dL_isNewsSo_74 rfl ?_
      refine nr_iconst (v := (-1)) dL_isNewsSo_76 (by decide) ?_
      refine nr_icmp_lt (tgt := 109) dL_isNewsSo_77 (by decide) (fun _ => ?_) (fun _ => ?_)
      · exact nk_locals [1, 2, 3, 4, 5, 7, 0] rfl (s_L_isNewsSo_c109 hl0 hr53 h21 v0 v1 v2 v3 v4 v6 x22)
      · refine nr_iload 0 dL_isNewsSo_80 rfl ?_
        refine nr_aload_n 1 dL_isNewsSo_82 rfl ?_
        refine nr_rcv (ks := [18]) (pre := []) (fun a23 hm => ?_)
        refine nr_doI (st := [.inl x22]) (nk_callV (q := (RX11, TX11, 9)) (ci := 11) (c_X11_hour (G := G) hl0 h21 a23) dL_isNewsSo_83 (List.mem_singleton.mp hm) rfl rfl my_X11_hour im_X11_hour se_RX11_X11_hour ml_RL_111 rfl rfl (Nat.le_of_ble_eq_true rfl) (by decide) (by decide)) (fun h24 x25 => ?_)
        refine nr_icmp_gt (tgt := 109) dL_isNewsSo_86 (by decide) (fun _ => ?_) (fun _ => ?_)
        · exact nk_locals [1, 2, 3, 4, 5, 7, 0] rfl (s_L_isNewsSo_c109 hl0 hr53 h24 v0 v1 v2 v3 v4 v6 x22)
        · refine nr_iload 0 dL_isNewsSo_89 rfl ?_
          refine nr_if_ge (tgt := 105) dL_isNewsSo_91 (by decide) (fun _ => ?_) (fun _ => ?_)
          · exact nk_locals [1, 2, 3, 4, 5, 7, 0] rfl (s_L_isNewsSo_c105 hl0 hr53 h24 v0 v1 v2 v3 v4 v6 x22)
          · refine nr_aload_n 1 dL_isNewsSo_94 rfl ?_
            refine nr_iload 5 dL_isNewsSo_95 rfl ?_
            refine nr_iload 7 dL_isNewsSo_97 rfl ?_
            refine nr_rcv (ks := [18]) (pre := [.inl v6, .inl v4]) (fun a26 hm => ?_)
            refine nr_doI (st := []) (nk_goStI (nk_callV (q := (RX11, TX11, 9)) (ci := 11) (c_X11_isRead (G := G) hl0 h24 a26 v4 v6) dL_isNewsSo_99 (List.mem_singleton.mp hm) rfl rfl my_X11_isRead im_X11_isRead se_RX11_X11_isRead ml_RL_137 rfl rfl (Nat.le_of_ble_eq_true rfl) (by decide) (by decide))) (fun h27 x28 => ?_)
            refine nr_if_ne (tgt := 109) dL_isNewsSo_102 (by decide) (fun _ => ?_) (fun _ => ?_)
            · exact nk_locals [1, 2, 3, 4, 5, 7, 0] rfl (s_L_isNewsSo_c105 hl0 hr53 h27 v0 v1 v2 v3 v4 v6 x22)
            · exact nk_locals [1, 2, 3, 4, 5, 7, 0] rfl (s_L_isNewsSo_c109 hl0 hr53 h27 v0 v1 v2 v3 v4 v6 x22)
theorem s_L_isNewsSo_b53 {G : nk_G} {l : Launch} (hl0 : l.flags = flags0)   : ∀ (n : Nat) (h : nk_H) (v0 : Option Nat) (v1 : Int32) (v2 : Int32) (v3 : Int32) (v4 : Int32) (v5 : Int32) (v6 : Int32), nk_Sim G l RL cL_isNewsSo 8 (some FieldType.boolean) 8 128 false nk_eI 53 [(0, .inr v0), (1, .inl v1), (2, .inl v2), (3, .inl v3), (4, .inl v4), (5, .inl v5), (6, .inl v6)] [] h (f_L_isNewsSo_b53   n h v0 v1 v2 v3 v4 v5 v6)
  | 0, _, _, _, _, _, _, _, _ => nk_none
  | n + 1, h, v0, v1, v2, v3, v4, v5, v6 => s_L_isNewsSo_c53 hl0 (s_L_isNewsSo_b53 hl0  n) h v0 v1 v2 v3 v4 v5 v6
set_option maxHeartbeats 4000000 in
theorem s_L_isNewsSo_c48 {G : nk_G} {l : Launch} (hl0 : l.flags = flags0)   (h : nk_H) (v0 : Option Nat) (v1 : Int32) (v2 : Int32) (v3 : Int32) (v4 : Int32) (s0 : Int32) : nk_Sim G l RL cL_isNewsSo 8 (some FieldType.boolean) 8 128 false nk_eI 48 [(0, .inr v0), (1, .inl v1), (2, .inl v2), (3, .inl v3), (4, .inl v4)] [.inl s0] h (f_L_isNewsSo_c48   h v0 v1 v2 v3 v4 s0) := by
  unfold f_L_isNewsSo_c48
  refine nr_istore (lv2 := [(5, .inl s0), (0, .inr v0), (1, .inl v1), (2, .inl v2), (3, .inl v3), (4, .inl v4)]) dL_isNewsSo_48 (by decide) rfl ?_
  refine nr_iconst (v := 0) dL_isNewsSo_50 (by decide) ?_
  refine nr_istore (lv2 := [(6, .inl 0), (5, .inl s0), (0, .inr v0), (1, .inl v1), (2, .inl v2), (3, .inl v3), (4, .inl v4)]) dL_isNewsSo_51 (by decide) rfl ?_
  exact nk_locals [2, 3, 4, 5, 6, 1, 0] rfl (s_L_isNewsSo_b53 hl0  4096 h v0 v1 v2 v3 v4 s0 0)
set_option maxHeartbeats 4000000 in
theorem s_L_isNewsSo_c47 {G : nk_G} {l : Launch} (hl0 : l.flags = flags0)   (h : nk_H) (v0 : Option Nat) (v1 : Int32) (v2 : Int32) (v3 : Int32) (v4 : Int32)  : nk_Sim G l RL cL_isNewsSo 8 (some FieldType.boolean) 8 128 false nk_eI 47 [(0, .inr v0), (1, .inl v1), (2, .inl v2), (3, .inl v3), (4, .inl v4)] [] h (f_L_isNewsSo_c47   h v0 v1 v2 v3 v4 ) := by
  unfold f_L_isNewsSo_c47
  refine nr_iconst (v := 0) dL_isNewsSo_47 (by decide) ?_
  exact s_L_isNewsSo_c48 hl0  h v0 v1 v2 v3 v4 0
set_option maxHeartbeats 4000000 in
theorem s_L_isNewsSo {G : nk_G} {l : Launch} (hl0 : l.flags = flags0) (h : nk_H) (v0 : Option Nat) (v1 : Int32) : nk_Sim G l RL cL_isNewsSo 8 (some FieldType.boolean) 8 128 false nk_eI 0 [(0, .inr v0), (1, .inl v1)] [] h (f_L_isNewsSo  h v0 v1) := by
  unfold f_L_isNewsSo
  refine nr_aload_n 0 dL_isNewsSo_0 rfl ?_
  refine nr_rcv (ks := [18]) (pre := []) (fun a29 hm => ?_)
  refine nr_doI (st := []) (nk_callV (q := (RX11, TX11, 9)) (ci := 11) (c_X11_news (G := G) hl0 h a29) dL_isNewsSo_1 (List.mem_singleton.mp hm) rfl rfl my_X11_news im_X11_news se_RX11_X11_news ml_RL_114 rfl rfl (Nat.le_of_ble_eq_true rfl) (by decide) (by decide)) (fun h30 x31 => ?_)
  refine nr_istore_n (lv2 := [(2, .inl x31), (0, .inr v0), (1, .inl v1)]) dL_isNewsSo_4 (by decide) rfl ?_
  refine nr_iconst (v := 0) dL_isNewsSo_5 (by decide) ?_
  refine nr_istore_n (lv2 := [(3, .inl 0), (2, .inl x31), (0, .inr v0), (1, .inl v1)]) dL_isNewsSo_6 (by decide) rfl ?_
  refine nr_iload_n 3 dL_isNewsSo_7 rfl ?_
  refine nr_bipush (v := 6) dL_isNewsSo_8 (by decide) ?_
  refine nr_doI (st := []) (nk_callS (c_L_low (G := G) hl0 h30 v1 6) dL_isNewsSo_10 my_L_low st_L_low ml_RL_93 rfl rfl (Nat.le_of_ble_eq_true rfl) (by decide) (by decide)) (fun h32 x33 => ?_)
  refine nr_istore (lv2 := [(4, .inl x33), (3, .inl 0), (2, .inl x31), (0, .inr v0), (1, .inl v1)]) dL_isNewsSo_13 (by decide) rfl ?_
  refine nr_iload_n 2 dL_isNewsSo_15 rfl ?_
  refine nr_if_lt (tgt := 47) dL_isNewsSo_16 (by decide) (fun _ => ?_) (fun _ => ?_)
  · exact nk_locals [3, 4, 2, 1, 0] rfl (s_L_isNewsSo_c47 hl0  h32 v0 v1 x31 0 x33)
  · refine nr_iload_n 2 dL_isNewsSo_19 rfl ?_
    refine nr_sipush (v := 160) dL_isNewsSo_20 (by decide) ?_
    refine nr_icmp_gt (tgt := 47) dL_isNewsSo_23 (by decide) (fun _ => ?_) (fun _ => ?_)
    · exact nk_locals [3, 4, 2, 1, 0] rfl (s_L_isNewsSo_c47 hl0  h32 v0 v1 x31 0 x33)
    · refine nr_aload_n 3 dL_isNewsSo_26 rfl ?_
      refine nr_rcv (ks := [18]) (pre := []) (fun a34 hm => ?_)
      refine nr_doI (st := []) (nk_callV (q := (RX11, TX11, 9)) (ci := 11) (c_X11_hour (G := G) hl0 h32 a34) dL_isNewsSo_27 (List.mem_singleton.mp hm) rfl rfl my_X11_hour im_X11_hour se_RX11_X11_hour ml_RL_111 rfl rfl (Nat.le_of_ble_eq_true rfl) (by decide) (by decide)) (fun h35 x36 => ?_)
      refine nr_if_lt (tgt := 47) dL_isNewsSo_30 (by decide) (fun _ => ?_) (fun _ => ?_)
      · exact nk_locals [3, 4, 2, 1, 0] rfl (s_L_isNewsSo_c47 hl0  h35 v0 v1 x31 0 x33)
      · refine nr_aload_n 3 dL_isNewsSo_33 rfl ?_
        refine nr_rcv (ks := [18]) (pre := []) (fun a37 hm => ?_)
        refine nr_doI (st := []) (nk_callV (q := (RX11, TX11, 9)) (ci := 11) (c_X11_hour (G := G) hl0 h35 a37) dL_isNewsSo_34 (List.mem_singleton.mp hm) rfl rfl my_X11_hour im_X11_hour se_RX11_X11_hour ml_RL_111 rfl rfl (Nat.le_of_ble_eq_true rfl) (by decide) (by decide)) (fun h38 x39 => ?_)
        refine nr_sipush (v := 400) dL_isNewsSo_37 (by decide) ?_
        refine nr_icmp_gt (tgt := 47) dL_isNewsSo_40 (by decide) (fun _ => ?_) (fun _ => ?_)
        · exact nk_locals [3, 4, 2, 1, 0] rfl (s_L_isNewsSo_c47 hl0  h38 v0 v1 x31 0 x33)
        · refine nr_iconst (v := 1) dL_isNewsSo_43 (by decide) ?_
          refine nr_goto (tgt := 48) dL_isNewsSo_44 (by decide) ?_
          exact nk_locals [3, 4, 2, 1, 0] rfl (s_L_isNewsSo_c48 hl0  h38 v0 v1 x31 0 x33 1)
theorem c_L_isNewsSo {G : nk_G} {l : Launch} (hl0 : l.flags = flags0) (h : nk_H) (v0 : Option Nat) (v1 : Int32) : nk_Con G l yL_isNewsSo cL_isNewsSo 8 (some FieldType.boolean) 8 128 nk_eI [.inr v0, .inl v1] h (f_L_isNewsSo h v0 v1) :=
  nk_con (ini := false) (by decide) hl0 (Nat.le_of_ble_eq_true rfl) (by decide) (s_L_isNewsSo hl0 h v0 v1) (Or.inr (List.mem_of_getElem? (i := 5) rfl)) (fun _ => by decide +kernel)
set_option maxHeartbeats 4000000 in
theorem s_L_isActSo_c28 {G : nk_G} {l : Launch} (hl0 : l.flags = flags0)   (h : nk_H)  (s0 : Int32) : nk_Sim G l RL cL_isActSo 17 (some FieldType.boolean) 11 261 false nk_eI 28 [] [.inl s0] h (f_L_isActSo_c28   h  s0) := by
  unfold f_L_isActSo_c28
  exact nr_zret rfl rfl dL_isActSo_28
set_option maxHeartbeats 4000000 in
theorem s_L_isActSo_c260 {G : nk_G} {l : Launch} (hl0 : l.flags = flags0)   (h : nk_H)  (s0 : Int32) : nk_Sim G l RL cL_isActSo 17 (some FieldType.boolean) 11 261 false nk_eI 260 [] [.inl s0] h (f_L_isActSo_c260   h  s0) := by
  unfold f_L_isActSo_c260
  exact nr_zret rfl rfl dL_isActSo_260
set_option maxHeartbeats 4000000 in
theorem s_L_isActSo_c259 {G : nk_G} {l : Launch} (hl0 : l.flags = flags0)   (h : nk_H)   : nk_Sim G l RL cL_isActSo 17 (some FieldType.boolean) 11 261 false nk_eI 259 [] [] h (f_L_isActSo_c259   h  ) := by
  unfold f_L_isActSo_c259
  refine nr_iconst (v := 0) dL_isActSo_259 (by decide) ?_
  exact s_L_isActSo_c260 hl0  h 0
set_option maxHeartbeats 4000000 in
theorem s_L_isActSo_c483 {G : nk_G} {l : Launch} (hl0 : l.flags = flags0)   (h : nk_H)  (s0 : Int32) : nk_Sim G l RL cL_isActSo 17 (some FieldType.boolean) 11 261 false nk_eI 483 [] [.inl s0] h (f_L_isActSo_c483   h  s0) := by
  unfold f_L_isActSo_c483
  exact nr_zret rfl rfl dL_isActSo_483
set_option maxHeartbeats 4000000 in
theorem s_L_isActSo_c482 {G : nk_G} {l : Launch} (hl0 : l.flags = flags0)   (h : nk_H)   : nk_Sim G l RL cL_isActSo 17 (some FieldType.boolean) 11 261 false nk_eI 482 [] [] h (f_L_isActSo_c482   h  ) := by
  unfold f_L_isActSo_c482
  refine nr_iconst (v := 0) dL_isActSo_482 (by decide) ?_
  exact s_L_isActSo_c483 hl0  h 0
set_option maxHeartbeats 4000000 in
theorem s_L_isActSo_c474 {G : nk_G} {l : Launch} (hl0 : l.flags = flags0)   (h : nk_H)  (s0 : Int32) (s1 : Int32) (s2 : Int32) : nk_Sim G l RL cL_isActSo 17 (some FieldType.boolean) 11 261 false nk_eI 474 [] [.inl s0, .inl s1, .inl s2] h (f_L_isActSo_c474   h  s0 s1 s2) := by
  unfold f_L_isActSo_c474
  refine nr_iadd dL_isActSo_474 ?_
  refine nr_icmp_ne (tgt := 482) dL_isActSo_475 (by decide) (fun _ => ?_) (fun _ => ?_)
  · refine nr_iconst (v := 1) dL_isActSo_478 (by decide) ?_
    refine nr_goto (tgt := 483) dL_isActSo_479 (by decide) ?_
    exact s_L_isActSo_c483 hl0  h 1
  · exact s_L_isActSo_c482 hl0  h
set_option maxHeartbeats 4000000 in
theorem s_L_isActSo_c450 {G : nk_G} {l : Launch} (hl0 : l.flags = flags0)   (h : nk_H) (v0 : Option Nat) (v2 : Int32) (v13 : Int32) (v14 : Int32) (s0 : Int32) (s1 : Int32) : nk_Sim G l RL cL_isActSo 17 (some FieldType.boolean) 11 261 false nk_eI 450 [(0, .inr v0), (2, .inl v2), (13, .inl v13), (14, .inl v14)] [.inl s0, .inl s1] h (f_L_isActSo_c450   h v0 v2 v13 v14 s0 s1) := by
  unfold f_L_isActSo_c450
  refine nr_icmp_ne (tgt := 482) dL_isActSo_450 (by decide) (fun _ => ?_) (fun _ => ?_)
  · refine nr_aload_n 0 dL_isActSo_453 rfl ?_
    refine nr_rcv (ks := [18]) (pre := []) (fun a1 hm => ?_)
    refine nr_doI (st := []) (nk_callV (q := (RX11, TX11, 9)) (ci := 11) (c_X11_standing (G := G) hl0 h a1) dL_isActSo_454 (List.mem_singleton.mp hm) rfl rfl my_X11_standing im_X11_standing se_RX11_X11_standing ml_RL_117 rfl rfl (Nat.le_of_ble_eq_true rfl) (by decide) (by decide)) (fun h2 x3 => ?_)
    refine nr_iload 2 dL_isActSo_457 rfl ?_
    refine nr_aload_n 0 dL_isActSo_459 rfl ?_
    refine nr_iload_n 1 dL_isActSo_460 rfl ?_
    refine nr_iload 3 dL_isActSo_461 rfl ?_
    refine nr_rcv (ks := [18]) (pre := [.inl v14, .inl v2]) (fun a4 hm => ?_)
    refine nr_doI (st := [.inl v13, .inl x3]) (nk_goStI (nk_callV (q := (RX11, TX11, 9)) (ci := 11) (c_X11_stands (G := G) hl0 h2 a4 v2 v14) dL_isActSo_463 (List.mem_singleton.mp hm) rfl rfl my_X11_stands im_X11_stands se_RX11_X11_stands ml_RL_155 rfl rfl (Nat.le_of_ble_eq_true rfl) (by decide) (by decide))) (fun h5 x6 => ?_)
    refine nr_if_eq (tgt := 473) dL_isActSo_466 (by decide) (fun _ => ?_) (fun _ => ?_)
    · refine nr_iconst (v := 0) dL_isActSo_473 (by decide) ?_
      exact nk_locals [] rfl (s_L_isActSo_c474 hl0  h5 0 v13 x3)
    · refine nr_iconst (v := 1) dL_isActSo_469 (by decide) ?_
      refine nr_goto (tgt := 474) dL_isActSo_470 (by decide) ?_
      exact nk_locals [] rfl (s_L_isActSo_c474 hl0  h5 1 v13 x3)
  · exact nk_locals [] rfl (s_L_isActSo_c482 hl0  h)
set_option maxHeartbeats 4000000 in
theorem s_L_isActSo_c367 {G : nk_G} {l : Launch} (hl0 : l.flags = flags0)   (h : nk_H) (v0 : Option Nat) (v2 : Int32) (v4 : Int32) (v5 : Int32) (v6 : Int32) (v13 : Int32) (v14 : Int32) (s0 : Int32) : nk_Sim G l RL cL_isActSo 17 (some FieldType.boolean) 11 261 false nk_eI 367 [(0, .inr v0), (2, .inl v2), (4, .inl v4), (5, .inl v5), (6, .inl v6), (13, .inl v13), (14, .inl v14)] [.inl s0] h (f_L_isActSo_c367   h v0 v2 v4 v5 v6 v13 v14 s0) := by
  unfold f_L_isActSo_c367
  refine nr_istore (lv2 := [(15, .inl s0), (0, .inr v0), (2, .inl v2), (4, .inl v4), (5, .inl v5), (6, .inl v6), (13, .inl v13), (14, .inl v14)]) dL_isActSo_367 (by decide) rfl ?_
  refine nr_iload 0 dL_isActSo_369 rfl ?_
  refine nr_if_eq (tgt := 482) dL_isActSo_371 (by decide) (fun _ => ?_) (fun _ => ?_)
  · exact nk_locals [] rfl (s_L_isActSo_c482 hl0  h)
  · refine nr_aload_n 1 dL_isActSo_374 rfl ?_
    refine nr_iload_n 2 dL_isActSo_375 rfl ?_
    refine nr_iload 7 dL_isActSo_376 rfl ?_
    refine nr_iconst (v := 0) dL_isActSo_378 (by decide) ?_
    refine nr_rcv (ks := [18]) (pre := [.inl 0, .inl v14, .inl v2]) (fun a7 hm => ?_)
    refine nr_doI (st := []) (nk_goStI (nk_callV (q := (RX11, TX11, 9)) (ci := 11) (c_X11_part (G := G) hl0 h a7 v2 v14 0) dL_isActSo_379 (List.mem_singleton.mp hm) rfl rfl my_X11_part im_X11_part se_RX11_X11_part ml_RL_152 rfl rfl (Nat.le_of_ble_eq_true rfl) (by decide) (by decide))) (fun h8 x9 => ?_)
    refine nr_iload 5 dL_isActSo_382 rfl ?_
    refine nr_icmp_ne (tgt := 482) dL_isActSo_384 (by decide) (fun _ => ?_) (fun _ => ?_)
    · refine nr_aload_n 1 dL_isActSo_387 rfl ?_
      refine nr_iload_n 2 dL_isActSo_388 rfl ?_
      refine nr_iload 7 dL_isActSo_389 rfl ?_
      refine nr_iconst (v := 1) dL_isActSo_391 (by decide) ?_
      refine nr_rcv (ks := [18]) (pre := [.inl 1, .inl v14, .inl v2]) (fun a10 hm => ?_)
      refine nr_doI (st := []) (nk_goStI (nk_callV (q := (RX11, TX11, 9)) (ci := 11) (c_X11_part (G := G) hl0 h8 a10 v2 v14 1) dL_isActSo_392 (List.mem_singleton.mp hm) rfl rfl my_X11_part im_X11_part se_RX11_X11_part ml_RL_152 rfl rfl (Nat.le_of_ble_eq_true rfl) (by decide) (by decide))) (fun h11 x12 => ?_)
      refine nr_iload 4 dL_isActSo_395 rfl ?_
      refine nr_icmp_ne (tgt := 482) dL_isActSo_397 (by decide) (fun _ => ?_) (fun _ => ?_)
      · refine nr_aload_n 1 dL_isActSo_400 rfl ?_
        refine nr_iload_n 2 dL_isActSo_401 rfl ?_
        refine nr_iload 7 dL_isActSo_402 rfl ?_
        refine nr_iconst (v := 3) dL_isActSo_404 (by decide) ?_
        refine nr_rcv (ks := [18]) (pre := [.inl 3, .inl v14, .inl v2]) (fun a13 hm => ?_)
        refine nr_doI (st := []) (nk_goStI (nk_callV (q := (RX11, TX11, 9)) (ci := 11) (c_X11_part (G := G) hl0 h11 a13 v2 v14 3) dL_isActSo_405 (List.mem_singleton.mp hm) rfl rfl my_X11_part im_X11_part se_RX11_X11_part ml_RL_152 rfl rfl (Nat.le_of_ble_eq_true rfl) (by decide) (by decide))) (fun h14 x15 => ?_)
        refine nr_iload 3 dL_isActSo_408 rfl ?_
        refine nr_icmp_ne (tgt := 482) dL_isActSo_410 (by decide) (fun _ => ?_) (fun _ => ?_)
        · refine nr_aload_n 1 dL_isActSo_413 rfl ?_
          refine nr_iload_n 2 dL_isActSo_414 rfl ?_
          refine nr_iload 7 dL_isActSo_415 rfl ?_
          refine nr_iconst (v := 5) dL_isActSo_417 (by decide) ?_
          refine nr_rcv (ks := [18]) (pre := [.inl 5, .inl v14, .inl v2]) (fun a16 hm => ?_)
          refine nr_doI (st := []) (nk_goStI (nk_callV (q := (RX11, TX11, 9)) (ci := 11) (c_X11_part (G := G) hl0 h14 a16 v2 v14 5) dL_isActSo_418 (List.mem_singleton.mp hm) rfl rfl my_X11_part im_X11_part se_RX11_X11_part ml_RL_152 rfl rfl (Nat.le_of_ble_eq_true rfl) (by decide) (by decide))) (fun h17 x18 => ?_)
          refine nr_aload_n 1 dL_isActSo_421 rfl ?_
          refine nr_rcv (ks := [18]) (pre := []) (fun a19 hm => ?_)
          refine nr_doI (st := [.inl x18]) (nk_callV (q := (RX11, TX11, 9)) (ci := 11) (c_X11_hour (G := G) hl0 h17 a19) dL_isActSo_422 (List.mem_singleton.mp hm) rfl rfl my_X11_hour im_X11_hour se_RX11_X11_hour ml_RL_111 rfl rfl (Nat.le_of_ble_eq_true rfl) (by decide) (by decide)) (fun h20 x21 => ?_)
          refine nr_icmp_ne (tgt := 482) dL_isActSo_425 (by decide) (fun _ => ?_) (fun _ => ?_)
          · refine nr_aload_n 1 dL_isActSo_428 rfl ?_
            refine nr_iload_n 2 dL_isActSo_429 rfl ?_
            refine nr_iload 7 dL_isActSo_430 rfl ?_
            refine nr_rcv (ks := [18]) (pre := [.inl v14, .inl v2]) (fun a22 hm => ?_)
            refine nr_doI (st := []) (nk_goStI (nk_callV (q := (RX11, TX11, 9)) (ci := 11) (c_X11_stands (G := G) hl0 h20 a22 v2 v14) dL_isActSo_432 (List.mem_singleton.mp hm) rfl rfl my_X11_stands im_X11_stands se_RX11_X11_stands ml_RL_155 rfl rfl (Nat.le_of_ble_eq_true rfl) (by decide) (by decide))) (fun h23 x24 => ?_)
            refine nr_aload_n 1 dL_isActSo_435 rfl ?_
            refine nr_iload_n 2 dL_isActSo_436 rfl ?_
            refine nr_iload 7 dL_isActSo_437 rfl ?_
            refine nr_rcv (ks := [18]) (pre := [.inl v14, .inl v2]) (fun a25 hm => ?_)
            refine nr_doI (st := [.inl x24]) (nk_goStI (nk_callV (q := (RX11, TX11, 9)) (ci := 11) (c_X11_fault (G := G) hl0 h23 a25 v2 v14) dL_isActSo_439 (List.mem_singleton.mp hm) rfl rfl my_X11_fault im_X11_fault se_RX11_X11_fault ml_RL_158 rfl rfl (Nat.le_of_ble_eq_true rfl) (by decide) (by decide))) (fun h26 x27 => ?_)
            refine nr_if_ne (tgt := 449) dL_isActSo_442 (by decide) (fun _ => ?_) (fun _ => ?_)
            · refine nr_iconst (v := 1) dL_isActSo_445 (by decide) ?_
              refine nr_goto (tgt := 450) dL_isActSo_446 (by decide) ?_
              exact nk_locals [1, 2, 6, 7] rfl (s_L_isActSo_c450 hl0  h26 v0 v2 v13 v14 1 x24)
            · refine nr_iconst (v := 0) dL_isActSo_449 (by decide) ?_
              exact nk_locals [1, 2, 6, 7] rfl (s_L_isActSo_c450 hl0  h26 v0 v2 v13 v14 0 x24)
          · exact nk_locals [] rfl (s_L_isActSo_c482 hl0  h20)
        · exact nk_locals [] rfl (s_L_isActSo_c482 hl0  h14)
      · exact nk_locals [] rfl (s_L_isActSo_c482 hl0  h11)
    · exact nk_locals [] rfl (s_L_isActSo_c482 hl0  h8)
set_option maxHeartbeats 4000000 in
theorem s_L_isActSo_c366 {G : nk_G} {l : Launch} (hl0 : l.flags = flags0)   (h : nk_H) (v0 : Option Nat) (v2 : Int32) (v4 : Int32) (v5 : Int32) (v6 : Int32) (v13 : Int32) (v14 : Int32)  : nk_Sim G l RL cL_isActSo 17 (some FieldType.boolean) 11 261 false nk_eI 366 [(0, .inr v0), (2, .inl v2), (4, .inl v4), (5, .inl v5), (6, .inl v6), (13, .inl v13), (14, .inl v14)] [] h (f_L_isActSo_c366   h v0 v2 v4 v5 v6 v13 v14 ) := by
  unfold f_L_isActSo_c366
  refine nr_iconst (v := 0) dL_isActSo_366 (by decide) ?_
  exact s_L_isActSo_c367 hl0  h v0 v2 v4 v5 v6 v13 v14 0
set_option maxHeartbeats 4000000 in
theorem s_L_isActSo_c328 {G : nk_G} {l : Launch} (hl0 : l.flags = flags0)   (h : nk_H) (v0 : Option Nat) (v2 : Int32) (v4 : Int32) (v5 : Int32) (v6 : Int32) (v13 : Int32) (v14 : Int32) (v16 : Int32)  : nk_Sim G l RL cL_isActSo 17 (some FieldType.boolean) 11 261 false nk_eI 328 [(0, .inr v0), (2, .inl v2), (4, .inl v4), (5, .inl v5), (6, .inl v6), (13, .inl v13), (14, .inl v14), (16, .inl v16)] [] h (f_L_isActSo_c328   h v0 v2 v4 v5 v6 v13 v14 v16 ) := by
  unfold f_L_isActSo_c328
  refine nr_aload_n 0 dL_isActSo_328 rfl ?_
  refine nr_iload_n 1 dL_isActSo_329 rfl ?_
  refine nr_iload 3 dL_isActSo_330 rfl ?_
  refine nr_rcv (ks := [18]) (pre := [.inl v5, .inl v2]) (fun a28 hm => ?_)
  refine nr_doI (st := []) (nk_goStI (nk_callV (q := (RX11, TX11, 9)) (ci := 11) (c_X11_isGood (G := G) hl0 h a28 v2 v5) dL_isActSo_332 (List.mem_singleton.mp hm) rfl rfl my_X11_isGood im_X11_isGood se_RX11_X11_isGood ml_RL_149 rfl rfl (Nat.le_of_ble_eq_true rfl) (by decide) (by decide))) (fun h29 x30 => ?_)
  refine nr_if_eq (tgt := 366) dL_isActSo_335 (by decide) (fun _ => ?_) (fun _ => ?_)
  · exact nk_locals [0, 1, 2, 3, 4, 5, 6] rfl (s_L_isActSo_c366 hl0  h29 v0 v2 v4 v5 v6 v13 v14)
  · refine nr_aload_n 0 dL_isActSo_338 rfl ?_
    refine nr_iload_n 1 dL_isActSo_339 rfl ?_
    refine nr_iload 7 dL_isActSo_340 rfl ?_
    refine nr_rcv (ks := [18]) (pre := [.inl v16, .inl v2]) (fun a31 hm => ?_)
    refine nr_doI (st := []) (nk_goStI (nk_callV (q := (RX11, TX11, 9)) (ci := 11) (c_X11_came (G := G) hl0 h29 a31 v2 v16) dL_isActSo_342 (List.mem_singleton.mp hm) rfl rfl my_X11_came im_X11_came se_RX11_X11_came ml_RL_134 rfl rfl (Nat.le_of_ble_eq_true rfl) (by decide) (by decide))) (fun h32 x33 => ?_)
    refine nr_aload_n 0 dL_isActSo_345 rfl ?_
    refine nr_rcv (ks := [18]) (pre := []) (fun a34 hm => ?_)
    refine nr_doI (st := [.inl x33]) (nk_callV (q := (RX11, TX11, 9)) (ci := 11) (c_X11_hour (G := G) hl0 h32 a34) dL_isActSo_346 (List.mem_singleton.mp hm) rfl rfl my_X11_hour im_X11_hour se_RX11_X11_hour ml_RL_111 rfl rfl (Nat.le_of_ble_eq_true rfl) (by decide) (by decide)) (fun h35 x36 => ?_)
    refine nr_icmp_ne (tgt := 366) dL_isActSo_349 (by decide) (fun _ => ?_) (fun _ => ?_)
    · refine nr_aload_n 0 dL_isActSo_352 rfl ?_
      refine nr_iload_n 1 dL_isActSo_353 rfl ?_
      refine nr_iload 7 dL_isActSo_354 rfl ?_
      refine nr_rcv (ks := [18]) (pre := [.inl v16, .inl v2]) (fun a37 hm => ?_)
      refine nr_doI (st := []) (nk_goStI (nk_callV (q := (RX11, TX11, 9)) (ci := 11) (c_X11_isRead (G := G) hl0 h35 a37 v2 v16) dL_isActSo_356 (List.mem_singleton.mp hm) rfl rfl my_X11_isRead im_X11_isRead se_RX11_X11_isRead ml_RL_137 rfl rfl (Nat.le_of_ble_eq_true rfl) (by decide) (by decide))) (fun h38 x39 => ?_)
      refine nr_if_eq (tgt := 366) dL_isActSo_359 (by decide) (fun _ => ?_) (fun _ => ?_)
      · exact nk_locals [0, 1, 2, 3, 4, 5, 6] rfl (s_L_isActSo_c366 hl0  h38 v0 v2 v4 v5 v6 v13 v14)
      · refine nr_iconst (v := 1) dL_isActSo_362 (by decide) ?_
        refine nr_goto (tgt := 367) dL_isActSo_363 (by decide) ?_
        exact nk_locals [0, 1, 2, 3, 4, 5, 6] rfl (s_L_isActSo_c367 hl0  h38 v0 v2 v4 v5 v6 v13 v14 1)
    · exact nk_locals [0, 1, 2, 3, 4, 5, 6] rfl (s_L_isActSo_c366 hl0  h35 v0 v2 v4 v5 v6 v13 v14)
set_option maxHeartbeats 4000000 in
theorem s_L_isActSo_c219 {G : nk_G} {l : Launch} (hl0 : l.flags = flags0)   (h : nk_H) (v0 : Option Nat) (v2 : Int32) (v4 : Int32) (v5 : Int32) (v6 : Int32) (v7 : Int32) (v9 : Int32) (v10 : Int32) (v12 : Int32) (v13 : Int32) (v14 : Int32) (s0 : Int32) : nk_Sim G l RL cL_isActSo 17 (some FieldType.boolean) 11 261 false nk_eI 219 [(0, .inr v0), (2, .inl v2), (4, .inl v4), (5, .inl v5), (6, .inl v6), (7, .inl v7), (9, .inl v9), (10, .inl v10), (12, .inl v12), (13, .inl v13), (14, .inl v14)] [.inl s0] h (f_L_isActSo_c219   h v0 v2 v4 v5 v6 v7 v9 v10 v12 v13 v14 s0) := by
  unfold f_L_isActSo_c219
  refine nr_istore (lv2 := [(15, .inl s0), (0, .inr v0), (2, .inl v2), (4, .inl v4), (5, .inl v5), (6, .inl v6), (7, .inl v7), (9, .inl v9), (10, .inl v10), (12, .inl v12), (13, .inl v13), (14, .inl v14)]) dL_isActSo_219 (by decide) rfl ?_
  refine nr_iload 11 dL_isActSo_221 rfl ?_
  refine nr_ldc (v := (-9999999)) dL_isActSo_223 kc_RL_58 ?_
  refine nr_icmp_ne (tgt := 261) dL_isActSo_225 (by decide) (fun _ => ?_) (fun _ => ?_)
  · refine nr_iload 0 dL_isActSo_228 rfl ?_
    refine nr_if_eq (tgt := 259) dL_isActSo_230 (by decide) (fun _ => ?_) (fun _ => ?_)
    · exact nk_locals [] rfl (s_L_isActSo_c259 hl0  h)
    · refine nr_aload_n 1 dL_isActSo_233 rfl ?_
      refine nr_iload_n 2 dL_isActSo_234 rfl ?_
      refine nr_rcv (ks := [18]) (pre := [.inl v2]) (fun a40 hm => ?_)
      refine nr_doI (st := []) (nk_goStI (nk_callV (q := (RX11, TX11, 9)) (ci := 11) (c_X11_records (G := G) hl0 h a40 v2) dL_isActSo_235 (List.mem_singleton.mp hm) rfl rfl my_X11_records im_X11_records se_RX11_X11_records ml_RL_120 rfl rfl (Nat.le_of_ble_eq_true rfl) (by decide) (by decide))) (fun h41 x42 => ?_)
      refine nr_iload 9 dL_isActSo_238 rfl ?_
      refine nr_icmp_ne (tgt := 259) dL_isActSo_240 (by decide) (fun _ => ?_) (fun _ => ?_)
      · refine nr_aload_n 1 dL_isActSo_243 rfl ?_
        refine nr_iload_n 2 dL_isActSo_244 rfl ?_
        refine nr_iload 4 dL_isActSo_245 rfl ?_
        refine nr_rcv (ks := [18]) (pre := [.inl v5, .inl v2]) (fun a43 hm => ?_)
        refine nr_doI (st := []) (nk_goStI (nk_callV (q := (RX11, TX11, 9)) (ci := 11) (c_X11_done (G := G) hl0 h41 a43 v2 v5) dL_isActSo_247 (List.mem_singleton.mp hm) rfl rfl my_X11_done im_X11_done se_RX11_X11_done ml_RL_80 rfl rfl (Nat.le_of_ble_eq_true rfl) (by decide) (by decide))) (fun h44 x45 => ?_)
        refine nr_iload 7 dL_isActSo_250 rfl ?_
        refine nr_icmp_ne (tgt := 259) dL_isActSo_252 (by decide) (fun _ => ?_) (fun _ => ?_)
        · refine nr_iconst (v := 1) dL_isActSo_255 (by decide) ?_
          refine nr_goto (tgt := 260) dL_isActSo_256 (by decide) ?_
          exact nk_locals [] rfl (s_L_isActSo_c260 hl0  h44 1)
        · exact nk_locals [] rfl (s_L_isActSo_c259 hl0  h44)
      · exact nk_locals [] rfl (s_L_isActSo_c259 hl0  h41)
  · refine nr_aload_n 1 dL_isActSo_261 rfl ?_
    refine nr_iload_n 2 dL_isActSo_262 rfl ?_
    refine nr_iload 11 dL_isActSo_263 rfl ?_
    refine nr_rcv (ks := [18]) (pre := [.inl v14, .inl v2]) (fun a46 hm => ?_)
    refine nr_doI (st := []) (nk_goStI (nk_callV (q := (RX11, TX11, 9)) (ci := 11) (c_X11_pieceOf (G := G) hl0 h a46 v2 v14) dL_isActSo_265 (List.mem_singleton.mp hm) rfl rfl my_X11_pieceOf im_X11_pieceOf se_RX11_X11_pieceOf ml_RL_146 rfl rfl (Nat.le_of_ble_eq_true rfl) (by decide) (by decide))) (fun h47 x48 => ?_)
    refine nr_istore (lv2 := [(16, .inl x48), (15, .inl s0), (0, .inr v0), (2, .inl v2), (4, .inl v4), (5, .inl v5), (6, .inl v6), (7, .inl v7), (9, .inl v9), (10, .inl v10), (12, .inl v12), (13, .inl v13), (14, .inl v14)]) dL_isActSo_268 (by decide) rfl ?_
    refine nr_iload 1 dL_isActSo_270 rfl ?_
    refine nr_if_eq (tgt := 366) dL_isActSo_272 (by decide) (fun _ => ?_) (fun _ => ?_)
    · exact nk_locals [2, 3, 4, 5, 6, 11, 12] rfl (s_L_isActSo_c366 hl0  h47 v0 v2 v4 v5 v6 v13 v14)
    · refine nr_iload 12 dL_isActSo_275 rfl ?_
      refine nr_iload 10 dL_isActSo_277 rfl ?_
      refine nr_icmp_ne (tgt := 366) dL_isActSo_279 (by decide) (fun _ => ?_) (fun _ => ?_)
      · refine nr_iload 0 dL_isActSo_282 rfl ?_
        refine nr_aload_n 2 dL_isActSo_284 rfl ?_
        refine nr_rcv (ks := [18]) (pre := []) (fun a49 hm => ?_)
        refine nr_doI (st := [.inl x48]) (nk_callV (q := (RX11, TX11, 9)) (ci := 11) (c_X11_news (G := G) hl0 h47 a49) dL_isActSo_285 (List.mem_singleton.mp hm) rfl rfl my_X11_news im_X11_news se_RX11_X11_news ml_RL_114 rfl rfl (Nat.le_of_ble_eq_true rfl) (by decide) (by decide)) (fun h50 x51 => ?_)
        refine nr_iconst (v := 1) dL_isActSo_288 (by decide) ?_
        refine nr_isub dL_isActSo_289 ?_
        refine nr_icmp_ne (tgt := 366) dL_isActSo_290 (by decide) (fun _ => ?_) (fun _ => ?_)
        · refine nr_aload_n 2 dL_isActSo_293 rfl ?_
          refine nr_iload_n 3 dL_isActSo_294 rfl ?_
          refine nr_iload 5 dL_isActSo_295 rfl ?_
          refine nr_rcv (ks := [18]) (pre := [.inl v5, .inl v2]) (fun a52 hm => ?_)
          refine nr_doI (st := []) (nk_goStI (nk_callV (q := (RX11, TX11, 9)) (ci := 11) (c_X11_done (G := G) hl0 h50 a52 v2 v5) dL_isActSo_297 (List.mem_singleton.mp hm) rfl rfl my_X11_done im_X11_done se_RX11_X11_done ml_RL_80 rfl rfl (Nat.le_of_ble_eq_true rfl) (by decide) (by decide))) (fun h53 x54 => ?_)
          refine nr_iload 8 dL_isActSo_300 rfl ?_
          refine nr_iload 4 dL_isActSo_302 rfl ?_
          refine nr_iadd dL_isActSo_304 ?_
          refine nr_icmp_ne (tgt := 366) dL_isActSo_305 (by decide) (fun _ => ?_) (fun _ => ?_)
          · refine nr_iload 7 dL_isActSo_308 rfl ?_
            refine nr_if_lt (tgt := 328) dL_isActSo_310 (by decide) (fun _ => ?_) (fun _ => ?_)
            · exact nk_locals [2, 3, 4, 5, 6, 11, 12, 0] rfl (s_L_isActSo_c328 hl0  h53 v0 v2 v4 v5 v6 v13 v14 x48)
            · refine nr_aload_n 2 dL_isActSo_313 rfl ?_
              refine nr_iload_n 3 dL_isActSo_314 rfl ?_
              refine nr_iload 7 dL_isActSo_315 rfl ?_
              refine nr_rcv (ks := [18]) (pre := [.inl v7, .inl v2]) (fun a55 hm => ?_)
              refine nr_doI (st := []) (nk_goStI (nk_callV (q := (RX11, TX11, 9)) (ci := 11) (c_X11_done (G := G) hl0 h53 a55 v2 v7) dL_isActSo_317 (List.mem_singleton.mp hm) rfl rfl my_X11_done im_X11_done se_RX11_X11_done ml_RL_80 rfl rfl (Nat.le_of_ble_eq_true rfl) (by decide) (by decide))) (fun h56 x57 => ?_)
              refine nr_iload 9 dL_isActSo_320 rfl ?_
              refine nr_iload 4 dL_isActSo_322 rfl ?_
              refine nr_iadd dL_isActSo_324 ?_
              refine nr_icmp_ne (tgt := 366) dL_isActSo_325 (by decide) (fun _ => ?_) (fun _ => ?_)
              · exact nk_locals [2, 3, 4, 5, 6, 11, 12, 0] rfl (s_L_isActSo_c328 hl0  h56 v0 v2 v4 v5 v6 v13 v14 x48)
              · exact nk_locals [2, 3, 4, 5, 6, 11, 12] rfl (s_L_isActSo_c366 hl0  h56 v0 v2 v4 v5 v6 v13 v14)
          · exact nk_locals [2, 3, 4, 5, 6, 11, 12] rfl (s_L_isActSo_c366 hl0  h53 v0 v2 v4 v5 v6 v13 v14)
        · exact nk_locals [2, 3, 4, 5, 6, 11, 12] rfl (s_L_isActSo_c366 hl0  h50 v0 v2 v4 v5 v6 v13 v14)
      · exact nk_locals [2, 3, 4, 5, 6, 11, 12] rfl (s_L_isActSo_c366 hl0  h47 v0 v2 v4 v5 v6 v13 v14)
set_option maxHeartbeats 4000000 in
theorem s_L_isActSo_c218 {G : nk_G} {l : Launch} (hl0 : l.flags = flags0)   (h : nk_H) (v0 : Option Nat) (v2 : Int32) (v4 : Int32) (v5 : Int32) (v6 : Int32) (v7 : Int32) (v9 : Int32) (v10 : Int32) (v12 : Int32) (v13 : Int32) (v14 : Int32)  : nk_Sim G l RL cL_isActSo 17 (some FieldType.boolean) 11 261 false nk_eI 218 [(0, .inr v0), (2, .inl v2), (4, .inl v4), (5, .inl v5), (6, .inl v6), (7, .inl v7), (9, .inl v9), (10, .inl v10), (12, .inl v12), (13, .inl v13), (14, .inl v14)] [] h (f_L_isActSo_c218   h v0 v2 v4 v5 v6 v7 v9 v10 v12 v13 v14 ) := by
  unfold f_L_isActSo_c218
  refine nr_iconst (v := 0) dL_isActSo_218 (by decide) ?_
  exact s_L_isActSo_c219 hl0  h v0 v2 v4 v5 v6 v7 v9 v10 v12 v13 v14 0
set_option maxHeartbeats 4000000 in
theorem s_L_isActSo_c205 {G : nk_G} {l : Launch} (hl0 : l.flags = flags0)   (h : nk_H) (v0 : Option Nat) (v2 : Int32) (v4 : Int32) (v5 : Int32) (v6 : Int32) (v7 : Int32) (v9 : Int32) (v10 : Int32) (v11 : Int32) (v12 : Int32) (v13 : Int32) (v14 : Int32)  : nk_Sim G l RL cL_isActSo 17 (some FieldType.boolean) 11 261 false nk_eI 205 [(0, .inr v0), (2, .inl v2), (4, .inl v4), (5, .inl v5), (6, .inl v6), (7, .inl v7), (9, .inl v9), (10, .inl v10), (11, .inl v11), (12, .inl v12), (13, .inl v13), (14, .inl v14)] [] h (f_L_isActSo_c205   h v0 v2 v4 v5 v6 v7 v9 v10 v11 v12 v13 v14 ) := by
  unfold f_L_isActSo_c205
  refine nr_iload 8 dL_isActSo_205 rfl ?_
  refine nr_aload_n 0 dL_isActSo_207 rfl ?_
  refine nr_rcv (ks := [18]) (pre := []) (fun a58 hm => ?_)
  refine nr_doI (st := [.inl v11]) (nk_callV (q := (RX11, TX11, 9)) (ci := 11) (c_X11_powers (G := G) hl0 h a58) dL_isActSo_208 (List.mem_singleton.mp hm) rfl rfl my_X11_powers im_X11_powers se_RX11_X11_powers ml_RL_96 rfl rfl (Nat.le_of_ble_eq_true rfl) (by decide) (by decide)) (fun h59 x60 => ?_)
  refine nr_icmp_gt (tgt := 218) dL_isActSo_211 (by decide) (fun _ => ?_) (fun _ => ?_)
  · exact nk_locals [0, 1, 2, 3, 4, 5, 6, 7, 9, 10, 11] rfl (s_L_isActSo_c218 hl0  h59 v0 v2 v4 v5 v6 v7 v9 v10 v12 v13 v14)
  · refine nr_iconst (v := 1) dL_isActSo_214 (by decide) ?_
    refine nr_goto (tgt := 219) dL_isActSo_215 (by decide) ?_
    exact nk_locals [0, 1, 2, 3, 4, 5, 6, 7, 9, 10, 11] rfl (s_L_isActSo_c219 hl0  h59 v0 v2 v4 v5 v6 v7 v9 v10 v12 v13 v14 1)
set_option maxHeartbeats 4000000 in
theorem s_L_isActSo_c192 {G : nk_G} {l : Launch} (hl0 : l.flags = flags0)   (h : nk_H) (v0 : Option Nat) (v2 : Int32) (v4 : Int32) (v5 : Int32) (v6 : Int32) (v7 : Int32) (v8 : Int32) (v9 : Int32) (v10 : Int32) (v11 : Int32) (v12 : Int32) (v13 : Int32) (v14 : Int32) (s0 : Int32) (s1 : Int32) : nk_Sim G l RL cL_isActSo 17 (some FieldType.boolean) 11 261 false nk_eI 192 [(0, .inr v0), (2, .inl v2), (4, .inl v4), (5, .inl v5), (6, .inl v6), (7, .inl v7), (8, .inl v8), (9, .inl v9), (10, .inl v10), (11, .inl v11), (12, .inl v12), (13, .inl v13), (14, .inl v14)] [.inl s0, .inl s1] h (f_L_isActSo_c192   h v0 v2 v4 v5 v6 v7 v8 v9 v10 v11 v12 v13 v14 s0 s1) := by
  unfold f_L_isActSo_c192
  refine nr_icmp_ne (tgt := 218) dL_isActSo_192 (by decide) (fun _ => ?_) (fun _ => ?_)
  · refine nr_iload 6 dL_isActSo_195 rfl ?_
    refine nr_if_gt (tgt := 205) dL_isActSo_197 (by decide) (fun _ => ?_) (fun _ => ?_)
    · exact nk_locals [0, 1, 2, 3, 4, 5, 7, 8, 9, 10, 11, 12] rfl (s_L_isActSo_c205 hl0  h v0 v2 v4 v5 v6 v7 v9 v10 v11 v12 v13 v14)
    · refine nr_iload 9 dL_isActSo_200 rfl ?_
      refine nr_if_le (tgt := 218) dL_isActSo_202 (by decide) (fun _ => ?_) (fun _ => ?_)
      · exact nk_locals [0, 1, 2, 3, 4, 5, 7, 8, 10, 11, 12] rfl (s_L_isActSo_c218 hl0  h v0 v2 v4 v5 v6 v7 v9 v10 v12 v13 v14)
      · exact nk_locals [0, 1, 2, 3, 4, 5, 7, 8, 9, 10, 11, 12] rfl (s_L_isActSo_c205 hl0  h v0 v2 v4 v5 v6 v7 v9 v10 v11 v12 v13 v14)
  · exact nk_locals [0, 1, 2, 3, 4, 5, 7, 8, 10, 11, 12] rfl (s_L_isActSo_c218 hl0  h v0 v2 v4 v5 v6 v7 v9 v10 v12 v13 v14)
set_option maxHeartbeats 4000000 in
theorem s_L_isActSo_c187 {G : nk_G} {l : Launch} (hl0 : l.flags = flags0)   (h : nk_H) (v0 : Option Nat) (v2 : Int32) (v4 : Int32) (v5 : Int32) (v6 : Int32) (v7 : Int32) (v8 : Int32) (v9 : Int32) (v10 : Int32) (v11 : Int32) (v12 : Int32) (v13 : Int32) (v14 : Int32) (s0 : Int32) : nk_Sim G l RL cL_isActSo 17 (some FieldType.boolean) 11 261 false nk_eI 187 [(0, .inr v0), (2, .inl v2), (4, .inl v4), (5, .inl v5), (6, .inl v6), (7, .inl v7), (8, .inl v8), (9, .inl v9), (10, .inl v10), (11, .inl v11), (12, .inl v12), (13, .inl v13), (14, .inl v14)] [.inl s0] h (f_L_isActSo_c187   h v0 v2 v4 v5 v6 v7 v8 v9 v10 v11 v12 v13 v14 s0) := by
  unfold f_L_isActSo_c187
  refine nr_iconst (v := 1) dL_isActSo_187 (by decide) ?_
  refine nr_goto (tgt := 192) dL_isActSo_188 (by decide) ?_
  exact s_L_isActSo_c192 hl0  h v0 v2 v4 v5 v6 v7 v8 v9 v10 v11 v12 v13 v14 1 s0
set_option maxHeartbeats 4000000 in
theorem s_L_isActSo_c191 {G : nk_G} {l : Launch} (hl0 : l.flags = flags0)   (h : nk_H) (v0 : Option Nat) (v2 : Int32) (v4 : Int32) (v5 : Int32) (v6 : Int32) (v7 : Int32) (v8 : Int32) (v9 : Int32) (v10 : Int32) (v11 : Int32) (v12 : Int32) (v13 : Int32) (v14 : Int32) (s0 : Int32) : nk_Sim G l RL cL_isActSo 17 (some FieldType.boolean) 11 261 false nk_eI 191 [(0, .inr v0), (2, .inl v2), (4, .inl v4), (5, .inl v5), (6, .inl v6), (7, .inl v7), (8, .inl v8), (9, .inl v9), (10, .inl v10), (11, .inl v11), (12, .inl v12), (13, .inl v13), (14, .inl v14)] [.inl s0] h (f_L_isActSo_c191   h v0 v2 v4 v5 v6 v7 v8 v9 v10 v11 v12 v13 v14 s0) := by
  unfold f_L_isActSo_c191
  refine nr_iconst (v := 0) dL_isActSo_191 (by decide) ?_
  exact s_L_isActSo_c192 hl0  h v0 v2 v4 v5 v6 v7 v8 v9 v10 v11 v12 v13 v14 0 s0
set_option maxHeartbeats 4000000 in
theorem s_L_isActSo_c162 {G : nk_G} {l : Launch} (hl0 : l.flags = flags0)   (h : nk_H) (v0 : Option Nat) (v2 : Int32) (v4 : Int32) (v5 : Int32) (v6 : Int32) (v7 : Int32) (v8 : Int32) (v9 : Int32) (v10 : Int32) (v11 : Int32) (v12 : Int32) (v13 : Int32) (v14 : Int32) (s0 : Int32) : nk_Sim G l RL cL_isActSo 17 (some FieldType.boolean) 11 261 false nk_eI 162 [(0, .inr v0), (2, .inl v2), (4, .inl v4), (5, .inl v5), (6, .inl v6), (7, .inl v7), (8, .inl v8), (9, .inl v9), (10, .inl v10), (11, .inl v11), (12, .inl v12), (13, .inl v13), (14, .inl v14)] [.inl s0] h (f_L_isActSo_c162   h v0 v2 v4 v5 v6 v7 v8 v9 v10 v11 v12 v13 v14 s0) := by
  unfold f_L_isActSo_c162
  refine nr_iload 6 dL_isActSo_162 rfl ?_
  refine nr_if_gt (tgt := 187) dL_isActSo_164 (by decide) (fun _ => ?_) (fun _ => ?_)
  · exact s_L_isActSo_c187 hl0  h v0 v2 v4 v5 v6 v7 v8 v9 v10 v11 v12 v13 v14 s0
  · refine nr_aload_n 0 dL_isActSo_167 rfl ?_
    refine nr_rcv (ks := [18]) (pre := []) (fun a61 hm => ?_)
    refine nr_doI (st := [.inl s0]) (nk_callV (q := (RX11, TX11, 9)) (ci := 11) (c_X11_news (G := G) hl0 h a61) dL_isActSo_168 (List.mem_singleton.mp hm) rfl rfl my_X11_news im_X11_news se_RX11_X11_news ml_RL_114 rfl rfl (Nat.le_of_ble_eq_true rfl) (by decide) (by decide)) (fun h62 x63 => ?_)
    refine nr_sipush (v := 160) dL_isActSo_171 (by decide) ?_
    refine nr_icmp_ne (tgt := 191) dL_isActSo_174 (by decide) (fun _ => ?_) (fun _ => ?_)
    · refine nr_aload_n 0 dL_isActSo_177 rfl ?_
      refine nr_iload_n 1 dL_isActSo_178 rfl ?_
      refine nr_rcv (ks := [18]) (pre := [.inl v2]) (fun a64 hm => ?_)
      refine nr_doI (st := [.inl s0]) (nk_goStI (nk_callV (q := (RX11, TX11, 9)) (ci := 11) (c_X11_records (G := G) hl0 h62 a64 v2) dL_isActSo_179 (List.mem_singleton.mp hm) rfl rfl my_X11_records im_X11_records se_RX11_X11_records ml_RL_120 rfl rfl (Nat.le_of_ble_eq_true rfl) (by decide) (by decide))) (fun h65 x66 => ?_)
      refine nr_iload 10 dL_isActSo_182 rfl ?_
      refine nr_icmp_ne (tgt := 191) dL_isActSo_184 (by decide) (fun _ => ?_) (fun _ => ?_)
      · exact s_L_isActSo_c187 hl0  h65 v0 v2 v4 v5 v6 v7 v8 v9 v10 v11 v12 v13 v14 s0
      · exact s_L_isActSo_c191 hl0  h65 v0 v2 v4 v5 v6 v7 v8 v9 v10 v11 v12 v13 v14 s0
    · exact s_L_isActSo_c191 hl0  h62 v0 v2 v4 v5 v6 v7 v8 v9 v10 v11 v12 v13 v14 s0
set_option maxHeartbeats 4000000 in
theorem s_L_isActSo_c91 {G : nk_G} {l : Launch} (hl0 : l.flags = flags0)   (h : nk_H) (v0 : Option Nat) (v1 : Option Nat) (v2 : Int32) (v4 : Int32) (v5 : Int32) (v6 : Int32) (v7 : Int32) (v8 : Int32) (v9 : Int32) (s0 : Int32) : nk_Sim G l RL cL_isActSo 17 (some FieldType.boolean) 11 261 false nk_eI 91 [(0, .inr v0), (1, .inr v1), (2, .inl v2), (4, .inl v4), (5, .inl v5), (6, .inl v6), (7, .inl v7), (8, .inl v8), (9, .inl v9)] [.inl s0] h (f_L_isActSo_c91   h v0 v1 v2 v4 v5 v6 v7 v8 v9 s0) := by
  unfold f_L_isActSo_c91
  refine nr_istore (lv2 := [(10, .inl s0), (0, .inr v0), (1, .inr v1), (2, .inl v2), (4, .inl v4), (5, .inl v5), (6, .inl v6), (7, .inl v7), (8, .inl v8), (9, .inl v9)]) dL_isActSo_91 (by decide) rfl ?_
  refine nr_aload_n 1 dL_isActSo_93 rfl ?_
  refine nr_iload_n 3 dL_isActSo_94 rfl ?_
  refine nr_iload 6 dL_isActSo_95 rfl ?_
  refine nr_iload 4 dL_isActSo_97 rfl ?_
  refine nr_rcv (ks := [18]) (pre := [.inl v4, .inl v6, .inl v2]) (fun a67 hm => ?_)
  refine nr_doI (st := []) (nk_goStI (nk_callV (q := (RX11, TX11, 9)) (ci := 11) (c_X11_choices (G := G) hl0 h a67 v2 v6 v4) dL_isActSo_99 (List.mem_singleton.mp hm) rfl rfl my_X11_choices im_X11_choices se_RX11_X11_choices ml_RL_53 rfl rfl (Nat.le_of_ble_eq_true rfl) (by decide) (by decide))) (fun h68 x69 => ?_)
  refine nr_istore (lv2 := [(11, .inl x69), (10, .inl s0), (0, .inr v0), (1, .inr v1), (2, .inl v2), (4, .inl v4), (5, .inl v5), (6, .inl v6), (7, .inl v7), (8, .inl v8), (9, .inl v9)]) dL_isActSo_102 (by decide) rfl ?_
  refine nr_aload_n 2 dL_isActSo_104 rfl ?_
  refine nr_iload_n 4 dL_isActSo_105 rfl ?_
  refine nr_rcv (ks := [18]) (pre := [.inl v2]) (fun a70 hm => ?_)
  refine nr_doI (st := []) (nk_goStI (nk_callV (q := (RX11, TX11, 9)) (ci := 11) (c_X11_records (G := G) hl0 h68 a70 v2) dL_isActSo_106 (List.mem_singleton.mp hm) rfl rfl my_X11_records im_X11_records se_RX11_X11_records ml_RL_120 rfl rfl (Nat.le_of_ble_eq_true rfl) (by decide) (by decide))) (fun h71 x72 => ?_)
  refine nr_istore (lv2 := [(12, .inl x72), (11, .inl x69), (10, .inl s0), (0, .inr v0), (1, .inr v1), (2, .inl v2), (4, .inl v4), (5, .inl v5), (6, .inl v6), (7, .inl v7), (8, .inl v8), (9, .inl v9)]) dL_isActSo_109 (by decide) rfl ?_
  refine nr_aload_n 3 dL_isActSo_111 rfl ?_
  refine nr_rcv (ks := [18]) (pre := []) (fun a73 hm => ?_)
  refine nr_doI (st := []) (nk_callV (q := (RX11, TX11, 9)) (ci := 11) (c_X11_standing (G := G) hl0 h71 a73) dL_isActSo_112 (List.mem_singleton.mp hm) rfl rfl my_X11_standing im_X11_standing se_RX11_X11_standing ml_RL_117 rfl rfl (Nat.le_of_ble_eq_true rfl) (by decide) (by decide)) (fun h74 x75 => ?_)
  refine nr_istore (lv2 := [(13, .inl x75), (12, .inl x72), (11, .inl x69), (10, .inl s0), (0, .inr v0), (1, .inr v1), (2, .inl v2), (4, .inl v4), (5, .inl v5), (6, .inl v6), (7, .inl v7), (8, .inl v8), (9, .inl v9)]) dL_isActSo_115 (by decide) rfl ?_
  refine nr_aload_n 4 dL_isActSo_117 rfl ?_
  refine nr_bipush (v := 8) dL_isActSo_118 (by decide) ?_
  refine nr_iload_n 6 dL_isActSo_120 rfl ?_
  refine nr_iload 9 dL_isActSo_121 rfl ?_
  refine nr_iload 8 dL_isActSo_123 rfl ?_
  refine nr_iload 7 dL_isActSo_125 rfl ?_
  refine nr_doI (st := []) (nk_callSW (c_L_does (G := G) hl0 h74 v0 8 v2 v6 v5 v4) dL_isActSo_127 my_L_does st_L_does ml_RL_100 rfl rfl (Nat.le_of_ble_eq_true rfl) (by decide) (by decide)) (fun h76 x77 => ?_)
  refine nr_istore (lv2 := [(14, .inl x77), (13, .inl x75), (12, .inl x72), (11, .inl x69), (10, .inl s0), (0, .inr v0), (1, .inr v1), (2, .inl v2), (4, .inl v4), (5, .inl v5), (6, .inl v6), (7, .inl v7), (8, .inl v8), (9, .inl v9)]) dL_isActSo_130 (by decide) rfl ?_
  refine nr_aload_n 6 dL_isActSo_132 rfl ?_
  refine nr_bipush (v := 8) dL_isActSo_133 (by decide) ?_
  refine nr_iload_n 7 dL_isActSo_135 rfl ?_
  refine nr_iload 10 dL_isActSo_136 rfl ?_
  refine nr_iload 9 dL_isActSo_138 rfl ?_
  refine nr_iload 8 dL_isActSo_140 rfl ?_
  refine nr_doI (st := []) (nk_callSW (c_L_does (G := G) hl0 h76 v1 8 v2 v6 v5 v4) dL_isActSo_142 my_L_does st_L_does ml_RL_100 rfl rfl (Nat.le_of_ble_eq_true rfl) (by decide) (by decide)) (fun h78 x79 => ?_)
  refine nr_iload 0 dL_isActSo_145 rfl ?_
  refine nr_icmp_ne (tgt := 218) dL_isActSo_147 (by decide) (fun _ => ?_) (fun _ => ?_)
  · refine nr_iload 0 dL_isActSo_150 rfl ?_
    refine nr_ldc (v := (-9999999)) dL_isActSo_152 kc_RL_58 ?_
    refine nr_icmp_ne (tgt := 161) dL_isActSo_154 (by decide) (fun _ => ?_) (fun _ => ?_)
    · refine nr_iconst (v := 1) dL_isActSo_157 (by decide) ?_
      refine nr_goto (tgt := 162) dL_isActSo_158 (by decide) ?_
      exact nk_locals [5, 7, 8, 9, 10, 11, 12, 13, 4, 3, 2, 1, 0] rfl (s_L_isActSo_c162 hl0  h78 v0 v2 v4 v5 v6 v7 v8 v9 s0 x69 x72 x75 x77 1)
    · refine nr_iconst (v := 0) dL_isActSo_161 (by decide) ?_
      exact nk_locals [5, 7, 8, 9, 10, 11, 12, 13, 4, 3, 2, 1, 0] rfl (s_L_isActSo_c162 hl0  h78 v0 v2 v4 v5 v6 v7 v8 v9 s0 x69 x72 x75 x77 0)
  · exact nk_locals [5, 7, 8, 9, 10, 11, 13, 4, 2, 1, 0] rfl (s_L_isActSo_c218 hl0  h78 v0 v2 v4 v5 v6 v7 v9 s0 x72 x75 x77)
set_option maxHeartbeats 4000000 in
theorem s_L_isActSo {G : nk_G} {l : Launch} (hl0 : l.flags = flags0) (h : nk_H) (v0 : Option Nat) (v1 : Option Nat) (v2 : Int32) (v3 : Int32) (v4 : Int32) : nk_Sim G l RL cL_isActSo 17 (some FieldType.boolean) 11 261 false nk_eI 0 [(0, .inr v0), (1, .inr v1), (2, .inl v2), (3, .inl v3), (4, .inl v4)] [] h (f_L_isActSo  h v0 v1 v2 v3 v4) := by
  unfold f_L_isActSo
  refine nr_aload_n 0 dL_isActSo_0 rfl ?_
  refine nr_rcv (ks := [18]) (pre := []) (fun a80 hm => ?_)
  refine nr_doI (st := []) (nk_callV (q := (RX11, TX11, 9)) (ci := 11) (c_X11_powers (G := G) hl0 h a80) dL_isActSo_1 (List.mem_singleton.mp hm) rfl rfl my_X11_powers im_X11_powers se_RX11_X11_powers ml_RL_96 rfl rfl (Nat.le_of_ble_eq_true rfl) (by decide) (by decide)) (fun h81 x82 => ?_)
  refine nr_if_ne (tgt := 29) dL_isActSo_4 (by decide) (fun _ => ?_) (fun _ => ?_)
  · refine nr_aload_n 0 dL_isActSo_7 rfl ?_
    refine nr_bipush (v := 8) dL_isActSo_8 (by decide) ?_
    refine nr_iload_n 2 dL_isActSo_10 rfl ?_
    refine nr_iconst (v := 0) dL_isActSo_11 (by decide) ?_
    refine nr_iconst (v := 0) dL_isActSo_12 (by decide) ?_
    refine nr_iload 4 dL_isActSo_13 rfl ?_
    refine nr_doI (st := []) (nk_callSW (c_L_does (G := G) hl0 h81 v0 8 v2 0 0 v4) dL_isActSo_15 my_L_does st_L_does ml_RL_100 rfl rfl (Nat.le_of_ble_eq_true rfl) (by decide) (by decide)) (fun h83 x84 => ?_)
    refine nr_ldc (v := (-9999999)) dL_isActSo_18 kc_RL_58 ?_
    refine nr_icmp_ne (tgt := 27) dL_isActSo_20 (by decide) (fun _ => ?_) (fun _ => ?_)
    · refine nr_iconst (v := 1) dL_isActSo_23 (by decide) ?_
      refine nr_goto (tgt := 28) dL_isActSo_24 (by decide) ?_
      exact nk_locals [] rfl (s_L_isActSo_c28 hl0  h83 1)
    · refine nr_iconst (v := 0) dL_isActSo_27 (by decide) ?_
      exact nk_locals [] rfl (s_L_isActSo_c28 hl0  h83 0)
  · refine nr_iload_n 3 dL_isActSo_29 rfl ?_
    refine nr_aload_n 0 dL_isActSo_30 rfl ?_
    refine nr_rcv (ks := [18]) (pre := []) (fun a85 hm => ?_)
    refine nr_doI (st := [.inl v3]) (nk_callV (q := (RX11, TX11, 9)) (ci := 11) (c_X11_powers (G := G) hl0 h81 a85) dL_isActSo_31 (List.mem_singleton.mp hm) rfl rfl my_X11_powers im_X11_powers se_RX11_X11_powers ml_RL_96 rfl rfl (Nat.le_of_ble_eq_true rfl) (by decide) (by decide)) (fun h86 x87 => ?_)
    refine nr_iremN dL_isActSo_34 ?_
    refine nr_istore (lv2 := [(5, .inl (v3 - v3 / x87 * x87)), (0, .inr v0), (1, .inr v1), (2, .inl v2), (3, .inl v3), (4, .inl v4)]) dL_isActSo_35 (by decide) rfl ?_
    refine nr_aload_n 1 dL_isActSo_37 rfl ?_
    refine nr_iload 0 dL_isActSo_38 rfl ?_
    refine nr_rcv (ks := [18]) (pre := [.inl (v3 - v3 / x87 * x87)]) (fun a88 hm => ?_)
    refine nr_doI (st := []) (nk_goStI (nk_callV (q := (RX11, TX11, 9)) (ci := 11) (c_X11_holder (G := G) hl0 h86 a88 (v3 - v3 / x87 * x87)) dL_isActSo_40 (List.mem_singleton.mp hm) rfl rfl my_X11_holder im_X11_holder se_RX11_X11_holder ml_RL_108 rfl rfl (Nat.le_of_ble_eq_true rfl) (by decide) (by decide))) (fun h89 x90 => ?_)
    refine nr_istore (lv2 := [(6, .inl x90), (5, .inl (v3 - v3 / x87 * x87)), (0, .inr v0), (1, .inr v1), (2, .inl v2), (3, .inl v3), (4, .inl v4)]) dL_isActSo_43 (by decide) rfl ?_
    refine nr_aload_n 2 dL_isActSo_45 rfl ?_
    refine nr_iload 1 dL_isActSo_46 rfl ?_
    refine nr_rcv (ks := [18]) (pre := [.inl (v3 - v3 / x87 * x87)]) (fun a91 hm => ?_)
    refine nr_doI (st := []) (nk_goStI (nk_callV (q := (RX11, TX11, 9)) (ci := 11) (c_X11_source (G := G) hl0 h89 a91 (v3 - v3 / x87 * x87)) dL_isActSo_48 (List.mem_singleton.mp hm) rfl rfl my_X11_source im_X11_source se_RX11_X11_source ml_RL_143 rfl rfl (Nat.le_of_ble_eq_true rfl) (by decide) (by decide))) (fun h92 x93 => ?_)
    refine nr_istore (lv2 := [(7, .inl x93), (6, .inl x90), (5, .inl (v3 - v3 / x87 * x87)), (0, .inr v0), (1, .inr v1), (2, .inl v2), (3, .inl v3), (4, .inl v4)]) dL_isActSo_51 (by decide) rfl ?_
    refine nr_aload_n 3 dL_isActSo_53 rfl ?_
    refine nr_iload_n 5 dL_isActSo_54 rfl ?_
    refine nr_iload 1 dL_isActSo_55 rfl ?_
    refine nr_iload 2 dL_isActSo_57 rfl ?_
    refine nr_iload 7 dL_isActSo_59 rfl ?_
    refine nr_rcv (ks := [18]) (pre := [.inl v4, .inl (v3 - v3 / x87 * x87), .inl x90, .inl v2]) (fun a94 hm => ?_)
    refine nr_doI (st := []) (nk_goStI (nk_callV (q := (RX11, TX11, 9)) (ci := 11) (c_X11_against (G := G) hl0 h92 a94 v2 x90 (v3 - v3 / x87 * x87) v4) dL_isActSo_61 (List.mem_singleton.mp hm) rfl rfl my_X11_against im_X11_against se_RX11_X11_against ml_RL_50 rfl rfl (Nat.le_of_ble_eq_true rfl) (by decide) (by decide))) (fun h95 x96 => ?_)
    refine nr_istore (lv2 := [(8, .inl x96), (7, .inl x93), (6, .inl x90), (5, .inl (v3 - v3 / x87 * x87)), (0, .inr v0), (1, .inr v1), (2, .inl v2), (3, .inl v3), (4, .inl v4)]) dL_isActSo_64 (by decide) rfl ?_
    refine nr_aload_n 4 dL_isActSo_66 rfl ?_
    refine nr_iload_n 6 dL_isActSo_67 rfl ?_
    refine nr_iload 3 dL_isActSo_68 rfl ?_
    refine nr_rcv (ks := [18]) (pre := [.inl (v3 - v3 / x87 * x87), .inl v2]) (fun a97 hm => ?_)
    refine nr_doI (st := []) (nk_goStI (nk_callV (q := (RX11, TX11, 9)) (ci := 11) (c_X11_done (G := G) hl0 h95 a97 v2 (v3 - v3 / x87 * x87)) dL_isActSo_70 (List.mem_singleton.mp hm) rfl rfl my_X11_done im_X11_done se_RX11_X11_done ml_RL_80 rfl rfl (Nat.le_of_ble_eq_true rfl) (by decide) (by decide))) (fun h98 x99 => ?_)
    refine nr_istore (lv2 := [(9, .inl x99), (8, .inl x96), (7, .inl x93), (6, .inl x90), (5, .inl (v3 - v3 / x87 * x87)), (0, .inr v0), (1, .inr v1), (2, .inl v2), (3, .inl v3), (4, .inl v4)]) dL_isActSo_73 (by decide) rfl ?_
    refine nr_iload 2 dL_isActSo_75 rfl ?_
    refine nr_if_ge (tgt := 84) dL_isActSo_77 (by decide) (fun _ => ?_) (fun _ => ?_)
    · refine nr_aload_n 5 dL_isActSo_84 rfl ?_
      refine nr_iload_n 7 dL_isActSo_85 rfl ?_
      refine nr_iload 2 dL_isActSo_86 rfl ?_
      refine nr_rcv (ks := [18]) (pre := [.inl x93, .inl v2]) (fun a100 hm => ?_)
      refine nr_doI (st := []) (nk_goStI (nk_callV (q := (RX11, TX11, 9)) (ci := 11) (c_X11_done (G := G) hl0 h98 a100 v2 x93) dL_isActSo_88 (List.mem_singleton.mp hm) rfl rfl my_X11_done im_X11_done se_RX11_X11_done ml_RL_80 rfl rfl (Nat.le_of_ble_eq_true rfl) (by decide) (by decide))) (fun h101 x102 => ?_)
      exact nk_locals [5, 6, 7, 9, 4, 3, 2, 1, 0] rfl (s_L_isActSo_c91 hl0  h101 v0 v1 v2 v4 (v3 - v3 / x87 * x87) x90 x93 x96 x99 x102)
    · refine nr_iconst (v := 0) dL_isActSo_80 (by decide) ?_
      refine nr_goto (tgt := 91) dL_isActSo_81 (by decide) ?_
      exact nk_locals [5, 6, 7, 9, 4, 3, 2, 1, 0] rfl (s_L_isActSo_c91 hl0  h98 v0 v1 v2 v4 (v3 - v3 / x87 * x87) x90 x93 x96 x99 0)
theorem c_L_isActSo {G : nk_G} {l : Launch} (hl0 : l.flags = flags0) (h : nk_H) (v0 : Option Nat) (v1 : Option Nat) (v2 : Int32) (v3 : Int32) (v4 : Int32) : nk_Con G l yL_isActSo cL_isActSo 17 (some FieldType.boolean) 11 261 nk_eI [.inr v0, .inr v1, .inl v2, .inl v3, .inl v4] h (f_L_isActSo h v0 v1 v2 v3 v4) :=
  nk_con (ini := false) (by decide) hl0 (Nat.le_of_ble_eq_true rfl) (by decide) (s_L_isActSo hl0 h v0 v1 v2 v3 v4) (Or.inr (List.mem_of_getElem? (i := 6) rfl)) (fun _ => by decide +kernel)
