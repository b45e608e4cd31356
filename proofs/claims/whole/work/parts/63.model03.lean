set_option maxHeartbeats 4000000 in
theorem s_X12_tamper_c30 {G : nk_G} {l : Launch} (hl0 : l.flags = flags0)   (h : nk_H) (t0 : Nat) (v1 : Int32) (v2 : Int32) (v3 : Int32) (s0 : Int32) (s1 : Option Nat) : nk_Sim G l RX12 cX12_tamper 6 (some FieldType.int) 3 64 false nk_eI 30 [(0, .inr (some t0)), (1, .inl v1), (2, .inl v2), (3, .inl v3)] [.inl s0, .inr s1] h (f_X12_tamper_c30   h t0 v1 v2 v3 s0 s1) := by
  unfold f_X12_tamper_c30
  refine nr_rcv (ks := [19]) (pre := [.inl s0]) (fun a1 hm => ?_)
  refine nr_doI (st := []) (nk_callV (q := (RX12, TX12, 45)) (ci := 12) (c_X12_holds (G := G) hl0 h a1 s0) dX12_tamper_30 (List.mem_singleton.mp hm) rfl rfl my_X12_holds im_X12_holds se_RX12_X12_holds ml_RX12_143 rfl rfl (Nat.le_of_ble_eq_true rfl) (by decide) (by decide)) (fun h2 x3 => ?_)
  refine nr_if_ne (tgt := 38) dX12_tamper_33 (by decide) (fun _ => ?_) (fun _ => ?_)
  · refine nr_iconst (v := 0) dX12_tamper_36 (by decide) ?_
    exact nr_iret rfl rfl dX12_tamper_37
  · refine nr_bipush (v := 6) dX12_tamper_38 (by decide) ?_
    refine nr_aload_n 0 dX12_tamper_40 rfl ?_
    refine nr_getP [19] 31 dX12_tamper_41 fk_RX12_82 (fun x4 => ?_)
    refine nr_sipush (v := 160) dX12_tamper_44 (by decide) ?_
    refine nr_iload_n 1 dX12_tamper_47 rfl ?_
    refine nr_imul dX12_tamper_48 ?_
    refine nr_iload_n 2 dX12_tamper_49 rfl ?_
    refine nr_iadd dX12_tamper_50 ?_
    refine nr_iaload dX12_tamper_51 (fun x5 => ?_)
    refine nr_imul dX12_tamper_52 ?_
    refine nr_iconst (v := 3) dX12_tamper_53 (by decide) ?_
    refine nr_iadd dX12_tamper_54 ?_
    refine nr_istore (lv2 := [(4, .inl ((6 * x5) + 3)), (0, .inr (some t0)), (1, .inl v1), (2, .inl v2), (3, .inl v3)]) dX12_tamper_55 (by decide) rfl ?_
    refine nr_aload_n 1 dX12_tamper_57 rfl ?_
    refine nr_getP [19] 33 dX12_tamper_58 fk_RX12_88 (fun x6 => ?_)
    refine nr_iload 0 dX12_tamper_61 rfl ?_
    refine nr_iaload dX12_tamper_63 (fun x7 => ?_)
    refine nr_istore (lv2 := [(5, .inl x7), (4, .inl ((6 * x5) + 3)), (0, .inr (some t0)), (1, .inl v1), (2, .inl v2), (3, .inl v3)]) dX12_tamper_64 (by decide) rfl ?_
    refine nr_aload_n 2 dX12_tamper_66 rfl ?_
    refine nr_getP [19] 33 dX12_tamper_67 fk_RX12_88 (fun x8 => ?_)
    refine nr_iload 1 dX12_tamper_70 rfl ?_
    refine nr_iload_n 5 dX12_tamper_72 rfl ?_
    refine nr_iastore dX12_tamper_73 (fun h9 => ?_)
    refine nr_iload 0 dX12_tamper_74 rfl ?_
    exact nr_iret rfl rfl dX12_tamper_76
set_option maxHeartbeats 4000000 in
theorem s_X12_tamper {G : nk_G} {l : Launch} (hl0 : l.flags = flags0) (h : nk_H) (t0 : Nat) (v1 : Int32) (v2 : Int32) (v3 : Int32) : nk_Sim G l RX12 cX12_tamper 6 (some FieldType.int) 3 64 false nk_eI 0 [(0, .inr (some t0)), (1, .inl v1), (2, .inl v2), (3, .inl v3)] [] h (f_X12_tamper  h t0 v1 v2 v3) := by
  unfold f_X12_tamper
  refine nr_aload_n 0 dX12_tamper_0 rfl ?_
  refine nr_aload_n 0 dX12_tamper_1 rfl ?_
  refine nr_iload_n 1 dX12_tamper_2 rfl ?_
  refine nr_iload_n 2 dX12_tamper_3 rfl ?_
  refine nr_rcv (ks := [19]) (pre := [.inl v2, .inl v1]) (fun a10 hm => ?_)
  refine nr_doI (st := [.inr (some t0)]) (nk_callV (q := (RX12, TX12, 45)) (ci := 12) (c_X12_isRecord (G := G) hl0 h a10 v1 v2) dX12_tamper_4 (List.mem_singleton.mp hm) rfl rfl my_X12_isRecord im_X12_isRecord se_RX12_X12_isRecord ml_RX12_269 rfl rfl (Nat.le_of_ble_eq_true rfl) (by decide) (by decide)) (fun h11 x12 => ?_)
  refine nr_if_ne (tgt := 14) dX12_tamper_7 (by decide) (fun _ => ?_) (fun _ => ?_)
  · refine nr_iconst (v := 1) dX12_tamper_10 (by decide) ?_
    refine nr_goto (tgt := 30) dX12_tamper_11 (by decide) ?_
    exact s_X12_tamper_c30 hl0  h11 t0 v1 v2 v3 1 (some t0)
  · refine nr_iload_n 3 dX12_tamper_14 rfl ?_
    refine nr_iconst (v := 1) dX12_tamper_15 (by decide) ?_
    refine nr_sipush (v := 10000) dX12_tamper_16 (by decide) ?_
    refine nr_doI (st := [.inr (some t0)]) (nk_callS (c_X12_in (G := G) hl0 h11 v3 1 10000) dX12_tamper_19 my_X12_in st_X12_in ml_RX12_124 rfl rfl (Nat.le_of_ble_eq_true rfl) (by decide) (by decide)) (fun h13 x14 => ?_)
    refine nr_if_eq (tgt := 29) dX12_tamper_22 (by decide) (fun _ => ?_) (fun _ => ?_)
    · refine nr_iconst (v := 2) dX12_tamper_29 (by decide) ?_
      exact s_X12_tamper_c30 hl0  h13 t0 v1 v2 v3 2 (some t0)
    · refine nr_iconst (v := 0) dX12_tamper_25 (by decide) ?_
      refine nr_goto (tgt := 30) dX12_tamper_26 (by decide) ?_
      exact s_X12_tamper_c30 hl0  h13 t0 v1 v2 v3 0 (some t0)
theorem c_X12_tamper {G : nk_G} {l : Launch} (hl0 : l.flags = flags0) (h : nk_H) (t0 : Nat) (v1 : Int32) (v2 : Int32) (v3 : Int32) : nk_Con G l yX12_tamper cX12_tamper 6 (some FieldType.int) 3 64 nk_eI [.inr (some t0), .inl v1, .inl v2, .inl v3] h (f_X12_tamper h t0 v1 v2 v3) :=
  nk_con (ini := false) (by decide) hl0 (Nat.le_of_ble_eq_true rfl) (by decide) (s_X12_tamper hl0 h t0 v1 v2 v3)
set_option maxHeartbeats 4000000 in
theorem s_X12_isLeftOut_c19 {G : nk_G} {l : Launch} (hl0 : l.flags = flags0)   (h : nk_H)  (s0 : Int32) : nk_Sim G l RX12 cX12_isLeftOut 3 (some FieldType.boolean) 0 0 false nk_eI 19 [] [.inl s0] h (f_X12_isLeftOut_c19   h  s0) := by
  unfold f_X12_isLeftOut_c19
  exact nr_zret rfl rfl dX12_isLeftOut_19
set_option maxHeartbeats 4000000 in
theorem s_X12_isLeftOut {G : nk_G} {l : Launch} (hl0 : l.flags = flags0) (h : nk_H) (t0 : Nat) (v1 : Int32) (v2 : Int32) : nk_Sim G l RX12 cX12_isLeftOut 3 (some FieldType.boolean) 0 0 false nk_eI 0 [(0, .inr (some t0)), (1, .inl v1), (2, .inl v2)] [] h (f_X12_isLeftOut  h t0 v1 v2) := by
  unfold f_X12_isLeftOut
  refine nr_aload_n 0 dX12_isLeftOut_0 rfl ?_
  refine nr_getP [19] 41 dX12_isLeftOut_1 fk_RX12_109 (fun x1 => ?_)
  refine nr_iload_n 1 dX12_isLeftOut_4 rfl ?_
  refine nr_iaload dX12_isLeftOut_5 (fun x2 => ?_)
  refine nr_iload_n 2 dX12_isLeftOut_6 rfl ?_
  refine nr_ishr dX12_isLeftOut_7 ?_
  refine nr_iconst (v := 1) dX12_isLeftOut_8 (by decide) ?_
  refine nr_iand dX12_isLeftOut_9 ?_
  refine nr_iconst (v := 1) dX12_isLeftOut_10 (by decide) ?_
  refine nr_icmp_ne (tgt := 18) dX12_isLeftOut_11 (by decide) (fun _ => ?_) (fun _ => ?_)
  · refine nr_iconst (v := 1) dX12_isLeftOut_14 (by decide) ?_
    refine nr_goto (tgt := 19) dX12_isLeftOut_15 (by decide) ?_
    exact nk_locals [] rfl (s_X12_isLeftOut_c19 hl0  h 1)
  · refine nr_iconst (v := 0) dX12_isLeftOut_18 (by decide) ?_
    exact nk_locals [] rfl (s_X12_isLeftOut_c19 hl0  h 0)
theorem c_X12_isLeftOut {G : nk_G} {l : Launch} (hl0 : l.flags = flags0) (h : nk_H) (t0 : Nat) (v1 : Int32) (v2 : Int32) : nk_Con G l yX12_isLeftOut cX12_isLeftOut 3 (some FieldType.boolean) 0 0 nk_eI [.inr (some t0), .inl v1, .inl v2] h (f_X12_isLeftOut h t0 v1 v2) :=
  nk_con (ini := false) (by decide) hl0 (Nat.le_of_ble_eq_true rfl) (by decide) (s_X12_isLeftOut hl0 h t0 v1 v2)
set_option maxHeartbeats 4000000 in
theorem s_X12_copies_c99 {G : nk_G} {l : Launch} (hl0 : l.flags = flags0) {r35 : nk_H → Nat → Int32 → Int32 → Int32 → Int32 → Int32 → Int32 → Option (nk_H × Unit)} (hr35 : ∀ (h : nk_H) (t0 : Nat) (v1 : Int32) (v2 : Int32) (v3 : Int32) (v4 : Int32) (v5 : Int32) (v6 : Int32), nk_Sim G l RX12 cX12_copies 8 (none : Option FieldType) 2 44 false nk_eV 35 [(0, .inr (some t0)), (1, .inl v1), (2, .inl v2), (3, .inl v3), (4, .inl v4), (5, .inl v5), (6, .inl v6)] [] h (r35 h t0 v1 v2 v3 v4 v5 v6)) (h : nk_H) (t0 : Nat) (v1 : Int32) (v2 : Int32) (v3 : Int32) (v4 : Int32) (v5 : Int32) (v6 : Int32) (s0 : Int32) (s1 : Int32) (s2 : Option Nat) : nk_Sim G l RX12 cX12_copies 8 (none : Option FieldType) 2 44 false nk_eV 99 [(0, .inr (some t0)), (1, .inl v1), (2, .inl v2), (3, .inl v3), (4, .inl v4), (5, .inl v5), (6, .inl v6)] [.inl s0, .inl s1, .inr s2] h (f_X12_copies_c99  r35 h t0 v1 v2 v3 v4 v5 v6 s0 s1 s2) := by
  unfold f_X12_copies_c99
  refine nr_iastore dX12_copies_99 (fun h1 => ?_)
  refine nr_iinc (lv2 := [(6, .inl (v6 + 1)), (0, .inr (some t0)), (1, .inl v1), (2, .inl v2), (3, .inl v3), (4, .inl v4), (5, .inl v5)]) 6 (v6 + 1) dX12_copies_100 rfl (by rfl) (by decide) rfl ?_
  refine nr_goto (tgt := 35) dX12_copies_103 (by decide) ?_
  exact nk_locals [1, 2, 3, 4, 5, 6, 0] rfl (hr35 h1 t0 v1 v2 v3 v4 v5 (v6 + 1))
set_option maxHeartbeats 4000000 in
theorem s_X12_copies_c35 {G : nk_G} {l : Launch} (hl0 : l.flags = flags0) {r35 : nk_H → Nat → Int32 → Int32 → Int32 → Int32 → Int32 → Int32 → Option (nk_H × Unit)} (hr35 : ∀ (h : nk_H) (t0 : Nat) (v1 : Int32) (v2 : Int32) (v3 : Int32) (v4 : Int32) (v5 : Int32) (v6 : Int32), nk_Sim G l RX12 cX12_copies 8 (none : Option FieldType) 2 44 false nk_eV 35 [(0, .inr (some t0)), (1, .inl v1), (2, .inl v2), (3, .inl v3), (4, .inl v4), (5, .inl v5), (6, .inl v6)] [] h (r35 h t0 v1 v2 v3 v4 v5 v6)) (h : nk_H) (t0 : Nat) (v1 : Int32) (v2 : Int32) (v3 : Int32) (v4 : Int32) (v5 : Int32) (v6 : Int32)  : nk_Sim G l RX12 cX12_copies 8 (none : Option FieldType) 2 44 false nk_eV 35 [(0, .inr (some t0)), (1, .inl v1), (2, .inl v2), (3, .inl v3), (4, .inl v4), (5, .inl v5), (6, .inl v6)] [] h (f_X12_copies_c35  r35 h t0 v1 v2 v3 v4 v5 v6 ) := by
  unfold f_X12_copies_c35
  refine nr_iload 6 dX12_copies_35 rfl ?_
  refine nr_bipush (v := 6) dX12_copies_37 (by decide) ?_
  refine nr_icmp_ge (tgt := 106) dX12_copies_39 (by decide) (fun _ => ?_) (fun _ => ?_)
  · refine nr_aload_n 0 dX12_copies_106 rfl ?_
    refine nr_getP [19] 44 dX12_copies_107 fk_RX12_118 (fun x2 => ?_)
    refine nr_sipush (v := 160) dX12_copies_110 (by decide) ?_
    refine nr_iload_n 1 dX12_copies_113 rfl ?_
    refine nr_imul dX12_copies_114 ?_
    refine nr_iload_n 2 dX12_copies_115 rfl ?_
    refine nr_iadd dX12_copies_116 ?_
    refine nr_aload_n 0 dX12_copies_117 rfl ?_
    refine nr_getP [19] 35 dX12_copies_118 fk_RX12_94 (fun x3 => ?_)
    refine nr_iload 5 dX12_copies_121 rfl ?_
    refine nr_iaload dX12_copies_123 (fun x4 => ?_)
    refine nr_iastore dX12_copies_124 (fun h5 => ?_)
    exact nr_vret rfl rfl dX12_copies_125
  · refine nr_aload_n 0 dX12_copies_42 rfl ?_
    refine nr_getP [19] 33 dX12_copies_43 fk_RX12_88 (fun x6 => ?_)
    refine nr_bipush (v := 6) dX12_copies_46 (by decide) ?_
    refine nr_iload 5 dX12_copies_48 rfl ?_
    refine nr_imul dX12_copies_50 ?_
    refine nr_iload 6 dX12_copies_51 rfl ?_
    refine nr_iadd dX12_copies_53 ?_
    refine nr_iaload dX12_copies_54 (fun x7 => ?_)
    refine nr_istore (lv2 := [(7, .inl x7), (0, .inr (some t0)), (1, .inl v1), (2, .inl v2), (3, .inl v3), (4, .inl v4), (5, .inl v5), (6, .inl v6)]) dX12_copies_55 (by decide) rfl ?_
    refine nr_aload_n 1 dX12_copies_57 rfl ?_
    refine nr_getP [19] 43 dX12_copies_58 fk_RX12_115 (fun x8 => ?_)
    refine nr_bipush (v := 6) dX12_copies_61 (by decide) ?_
    refine nr_sipush (v := 160) dX12_copies_63 (by decide) ?_
    refine nr_iload_n 2 dX12_copies_66 rfl ?_
    refine nr_imul dX12_copies_67 ?_
    refine nr_iload_n 3 dX12_copies_68 rfl ?_
    refine nr_iadd dX12_copies_69 ?_
    refine nr_imul dX12_copies_70 ?_
    refine nr_iload 7 dX12_copies_71 rfl ?_
    refine nr_iadd dX12_copies_73 ?_
    refine nr_aload_n 1 dX12_copies_74 rfl ?_
    refine nr_iload_n 2 dX12_copies_75 rfl ?_
    refine nr_iload 7 dX12_copies_76 rfl ?_
    refine nr_rcv (ks := [19]) (pre := [.inl v6, .inl v1]) (fun a9 hm => ?_)
    refine nr_doI (st := [.inl ((6 * ((160 * v1) + v2)) + v6), .inr x8]) (nk_callV (q := (RX12, TX12, 45)) (ci := 12) (c_X12_isLeftOut (G := G) hl0 h a9 v1 v6) dX12_copies_78 (List.mem_singleton.mp hm) rfl rfl my_X12_isLeftOut im_X12_isLeftOut se_RX12_X12_isLeftOut ml_RX12_272 rfl rfl (Nat.le_of_ble_eq_true rfl) (by decide) (by decide)) (fun h10 x11 => ?_)
    refine nr_if_eq (tgt := 97) dX12_copies_81 (by decide) (fun _ => ?_) (fun _ => ?_)
    · refine nr_iload 0 dX12_copies_97 rfl ?_
      exact nk_locals [1, 2, 3, 4, 5, 6, 7] rfl (s_X12_copies_c99 hl0 hr35 h10 t0 v1 v2 v3 v4 v5 v6 x7 ((6 * ((160 * v1) + v2)) + v6) x8)
    · refine nr_iload_n 4 dX12_copies_84 rfl ?_
      refine nr_iload 5 dX12_copies_85 rfl ?_
      refine nr_iload 7 dX12_copies_87 rfl ?_
      refine nr_iload 0 dX12_copies_89 rfl ?_
      refine nr_doI (st := [.inl ((6 * ((160 * v1) + v2)) + v6), .inr x8]) (nk_callS (c_X12_markOf (G := G) hl0 h10 v3 v4 v6 x7) dX12_copies_91 my_X12_markOf st_X12_markOf ml_RX12_245 rfl rfl (Nat.le_of_ble_eq_true rfl) (by decide) (by decide)) (fun h12 x13 => ?_)
      refine nr_goto (tgt := 99) dX12_copies_94 (by decide) ?_
      exact nk_locals [1, 2, 3, 4, 5, 6, 7] rfl (s_X12_copies_c99 hl0 hr35 h12 t0 v1 v2 v3 v4 v5 v6 x13 ((6 * ((160 * v1) + v2)) + v6) x8)
theorem s_X12_copies_b35 {G : nk_G} {l : Launch} (hl0 : l.flags = flags0)   : ∀ (n : Nat) (h : nk_H) (t0 : Nat) (v1 : Int32) (v2 : Int32) (v3 : Int32) (v4 : Int32) (v5 : Int32) (v6 : Int32), nk_Sim G l RX12 cX12_copies 8 (none : Option FieldType) 2 44 false nk_eV 35 [(0, .inr (some t0)), (1, .inl v1), (2, .inl v2), (3, .inl v3), (4, .inl v4), (5, .inl v5), (6, .inl v6)] [] h (f_X12_copies_b35   n h t0 v1 v2 v3 v4 v5 v6)
  | 0, _, _, _, _, _, _, _, _ => nk_none
  | n + 1, h, t0, v1, v2, v3, v4, v5, v6 => s_X12_copies_c35 hl0 (s_X12_copies_b35 hl0  n) h t0 v1 v2 v3 v4 v5 v6
set_option maxHeartbeats 4000000 in
theorem s_X12_copies {G : nk_G} {l : Launch} (hl0 : l.flags = flags0) (h : nk_H) (t0 : Nat) (v1 : Int32) (v2 : Int32) : nk_Sim G l RX12 cX12_copies 8 (none : Option FieldType) 2 44 false nk_eV 0 [(0, .inr (some t0)), (1, .inl v1), (2, .inl v2)] [] h (f_X12_copies  h t0 v1 v2) := by
  unfold f_X12_copies
  refine nr_aload_n 0 dX12_copies_0 rfl ?_
  refine nr_getP [19] 38 dX12_copies_1 fk_RX12_100 (fun x14 => ?_)
  refine nr_iload_n 1 dX12_copies_4 rfl ?_
  refine nr_iaload dX12_copies_5 (fun x15 => ?_)
  refine nr_istore_n (lv2 := [(3, .inl x15), (0, .inr (some t0)), (1, .inl v1), (2, .inl v2)]) dX12_copies_6 (by decide) rfl ?_
  refine nr_aload_n 1 dX12_copies_7 rfl ?_
  refine nr_getP [19] 39 dX12_copies_8 fk_RX12_103 (fun x16 => ?_)
  refine nr_iload_n 2 dX12_copies_11 rfl ?_
  refine nr_iaload dX12_copies_12 (fun x17 => ?_)
  refine nr_iload_n 3 dX12_copies_13 rfl ?_
  refine nr_iadd dX12_copies_14 ?_
  refine nr_istore (lv2 := [(4, .inl (x17 + v2)), (3, .inl x15), (0, .inr (some t0)), (1, .inl v1), (2, .inl v2)]) dX12_copies_15 (by decide) rfl ?_
  refine nr_aload_n 2 dX12_copies_17 rfl ?_
  refine nr_getP [19] 31 dX12_copies_18 fk_RX12_82 (fun x18 => ?_)
  refine nr_sipush (v := 160) dX12_copies_21 (by decide) ?_
  refine nr_iload_n 1 dX12_copies_24 rfl ?_
  refine nr_imul dX12_copies_25 ?_
  refine nr_iload 0 dX12_copies_26 rfl ?_
  refine nr_iadd dX12_copies_28 ?_
  refine nr_iaload dX12_copies_29 (fun x19 => ?_)
  refine nr_istore (lv2 := [(5, .inl x19), (4, .inl (x17 + v2)), (3, .inl x15), (0, .inr (some t0)), (1, .inl v1), (2, .inl v2)]) dX12_copies_30 (by decide) rfl ?_
  refine nr_iconst (v := 0) dX12_copies_32 (by decide) ?_
  refine nr_istore (lv2 := [(6, .inl 0), (5, .inl x19), (4, .inl (x17 + v2)), (3, .inl x15), (0, .inr (some t0)), (1, .inl v1), (2, .inl v2)]) dX12_copies_33 (by decide) rfl ?_
  exact nk_locals [4, 5, 6, 3, 2, 1, 0] rfl (s_X12_copies_b35 hl0  4096 h t0 v1 v2 x15 (x17 + v2) x19 0)
theorem c_X12_copies {G : nk_G} {l : Launch} (hl0 : l.flags = flags0) (h : nk_H) (t0 : Nat) (v1 : Int32) (v2 : Int32) : nk_Con G l yX12_copies cX12_copies 8 (none : Option FieldType) 2 44 nk_eV [.inr (some t0), .inl v1, .inl v2] h (f_X12_copies h t0 v1 v2) :=
  nk_con (ini := false) (by decide) hl0 (Nat.le_of_ble_eq_true rfl) (by decide) (s_X12_copies hl0 h t0 v1 v2)
set_option maxHeartbeats 4000000 in
theorem s_X12_copy_c140 {G : nk_G} {l : Launch} (hl0 : l.flags = flags0) {r140 : nk_H → Nat → Int32 → Int32 → Int32 → Option (nk_H × Int32)} (hr140 : ∀ (h : nk_H) (t0 : Nat) (v2 : Int32) (v3 : Int32) (v6 : Int32), nk_Sim G l RX12 cX12_copy 7 (some FieldType.int) 3 71 false nk_eI 140 [(0, .inr (some t0)), (2, .inl v2), (3, .inl v3), (6, .inl v6)] [] h (r140 h t0 v2 v3 v6)) (h : nk_H) (t0 : Nat) (v2 : Int32) (v3 : Int32) (v6 : Int32)  : nk_Sim G l RX12 cX12_copy 7 (some FieldType.int) 3 71 false nk_eI 140 [(0, .inr (some t0)), (2, .inl v2), (3, .inl v3), (6, .inl v6)] [] h (f_X12_copy_c140  r140 h t0 v2 v3 v6 ) := by
  unfold f_X12_copy_c140
  refine nr_iload 3 dX12_copy_140 rfl ?_
  refine nr_iload_n 2 dX12_copy_142 rfl ?_
  refine nr_iload_n 1 dX12_copy_143 rfl ?_
  refine nr_isub dX12_copy_144 ?_
  refine nr_icmp_gt (tgt := 164) dX12_copy_145 (by decide) (fun _ => ?_) (fun _ => ?_)
  · refine nr_aload_n 0 dX12_copy_164 rfl ?_
    refine nr_dup dX12_copy_165 ?_
    refine nr_getI [19] 37 dX12_copy_166 fk_RX12_275 (fun x1 => ?_)
    refine nr_iconst (v := 1) dX12_copy_169 (by decide) ?_
    refine nr_iadd dX12_copy_170 ?_
    refine nr_putI [19] 37 dX12_copy_171 fk_RX12_275 fw_RX12_275_n (fun h2 => ?_)
    refine nr_aload_n 0 dX12_copy_174 rfl ?_
    refine nr_getI [19] 37 dX12_copy_175 fk_RX12_275 (fun x3 => ?_)
    refine nr_iconst (v := 1) dX12_copy_178 (by decide) ?_
    refine nr_isub dX12_copy_179 ?_
    exact nr_iret rfl rfl dX12_copy_180
  · refine nr_aload_n 0 dX12_copy_148 rfl ?_
    refine nr_aload_n 0 dX12_copy_149 rfl ?_
    refine nr_getI [19] 37 dX12_copy_150 fk_RX12_275 (fun x4 => ?_)
    refine nr_iload 3 dX12_copy_153 rfl ?_
    refine nr_rcv (ks := [19]) (pre := [.inl v6, .inl x4]) (fun a5 hm => ?_)
    refine nr_doV (st := []) (nk_callV (q := (RX12, TX12, 45)) (ci := 12) (c_X12_copies (G := G) hl0 h a5 x4 v6) dX12_copy_155 (List.mem_singleton.mp hm) rfl rfl my_X12_copies im_X12_copies se_RX12_X12_copies ml_RX12_278 rfl rfl (Nat.le_of_ble_eq_true rfl) (by decide) (by decide)) (fun h6 x7 => ?_)
    refine nr_iinc (lv2 := [(6, .inl (v6 + 1)), (0, .inr (some t0)), (2, .inl v2), (3, .inl v3)]) 3 (v6 + 1) dX12_copy_158 rfl (by rfl) (by decide) rfl ?_
    refine nr_goto (tgt := 140) dX12_copy_161 (by decide) ?_
    exact nk_locals [1, 2, 3, 0] rfl (hr140 h6 t0 v2 v3 (v6 + 1))
theorem s_X12_copy_b140 {G : nk_G} {l : Launch} (hl0 : l.flags = flags0)   : ∀ (n : Nat) (h : nk_H) (t0 : Nat) (v2 : Int32) (v3 : Int32) (v6 : Int32), nk_Sim G l RX12 cX12_copy 7 (some FieldType.int) 3 71 false nk_eI 140 [(0, .inr (some t0)), (2, .inl v2), (3, .inl v3), (6, .inl v6)] [] h (f_X12_copy_b140   n h t0 v2 v3 v6)
  | 0, _, _, _, _, _ => nk_none
  | n + 1, h, t0, v2, v3, v6 => s_X12_copy_c140 hl0 (s_X12_copy_b140 hl0  n) h t0 v2 v3 v6
set_option maxHeartbeats 4000000 in
theorem s_X12_copy_c69 {G : nk_G} {l : Launch} (hl0 : l.flags = flags0)   (h : nk_H) (t0 : Nat) (v1 : Int32) (v2 : Int32) (v3 : Int32) (v4 : Int32) (s0 : Int32) (s1 : Option Nat) : nk_Sim G l RX12 cX12_copy 7 (some FieldType.int) 3 71 false nk_eI 69 [(0, .inr (some t0)), (1, .inl v1), (2, .inl v2), (3, .inl v3), (4, .inl v4)] [.inl s0, .inr s1] h (f_X12_copy_c69   h t0 v1 v2 v3 v4 s0 s1) := by
  unfold f_X12_copy_c69
  refine nr_rcv (ks := [19]) (pre := [.inl s0]) (fun a8 hm => ?_)
  refine nr_doI (st := []) (nk_callV (q := (RX12, TX12, 45)) (ci := 12) (c_X12_holds (G := G) hl0 h a8 s0) dX12_copy_69 (List.mem_singleton.mp hm) rfl rfl my_X12_holds im_X12_holds se_RX12_X12_holds ml_RX12_143 rfl rfl (Nat.le_of_ble_eq_true rfl) (by decide) (by decide)) (fun h9 x10 => ?_)
  refine nr_if_ne (tgt := 77) dX12_copy_72 (by decide) (fun _ => ?_) (fun _ => ?_)
  · refine nr_iconst (v := 0) dX12_copy_75 (by decide) ?_
    exact nr_iret rfl rfl dX12_copy_76
  · refine nr_aload_n 0 dX12_copy_77 rfl ?_
    refine nr_getP [19] 38 dX12_copy_78 fk_RX12_100 (fun x11 => ?_)
    refine nr_aload_n 0 dX12_copy_81 rfl ?_
    refine nr_getI [19] 37 dX12_copy_82 fk_RX12_275 (fun x12 => ?_)
    refine nr_iload_n 1 dX12_copy_85 rfl ?_
    refine nr_iastore dX12_copy_86 (fun h13 => ?_)
    refine nr_aload_n 0 dX12_copy_87 rfl ?_
    refine nr_getP [19] 39 dX12_copy_88 fk_RX12_103 (fun x14 => ?_)
    refine nr_aload_n 0 dX12_copy_91 rfl ?_
    refine nr_getI [19] 37 dX12_copy_92 fk_RX12_275 (fun x15 => ?_)
    refine nr_iload_n 2 dX12_copy_95 rfl ?_
    refine nr_iastore dX12_copy_96 (fun h16 => ?_)
    refine nr_aload_n 0 dX12_copy_97 rfl ?_
    refine nr_getP [19] 40 dX12_copy_98 fk_RX12_106 (fun x17 => ?_)
    refine nr_aload_n 0 dX12_copy_101 rfl ?_
    refine nr_getI [19] 37 dX12_copy_102 fk_RX12_275 (fun x18 => ?_)
    refine nr_iload_n 3 dX12_copy_105 rfl ?_
    refine nr_iload_n 2 dX12_copy_106 rfl ?_
    refine nr_isub dX12_copy_107 ?_
    refine nr_iconst (v := 1) dX12_copy_108 (by decide) ?_
    refine nr_iadd dX12_copy_109 ?_
    refine nr_iastore dX12_copy_110 (fun h19 => ?_)
    refine nr_aload_n 0 dX12_copy_111 rfl ?_
    refine nr_getP [19] 41 dX12_copy_112 fk_RX12_109 (fun x20 => ?_)
    refine nr_aload_n 0 dX12_copy_115 rfl ?_
    refine nr_getI [19] 37 dX12_copy_116 fk_RX12_275 (fun x21 => ?_)
    refine nr_iload 4 dX12_copy_119 rfl ?_
    refine nr_iastore dX12_copy_121 (fun h22 => ?_)
    refine nr_aload_n 0 dX12_copy_122 rfl ?_
    refine nr_getP [19] 42 dX12_copy_123 fk_RX12_112 (fun x23 => ?_)
    refine nr_aload_n 0 dX12_copy_126 rfl ?_
    refine nr_getI [19] 37 dX12_copy_127 fk_RX12_275 (fun x24 => ?_)
    refine nr_aload_n 0 dX12_copy_130 rfl ?_
    refine nr_iload_n 1 dX12_copy_131 rfl ?_
    refine nr_iload_n 2 dX12_copy_132 rfl ?_
    refine nr_rcv (ks := [19]) (pre := [.inl v2, .inl v1]) (fun a25 hm => ?_)
    refine nr_doI (st := [.inl x24, .inr x23]) (nk_callV (q := (RX12, TX12, 45)) (ci := 12) (c_X12_sealAhead (G := G) hl0 h22 a25 v1 v2) dX12_copy_133 (List.mem_singleton.mp hm) rfl rfl my_X12_sealAhead im_X12_sealAhead se_RX12_X12_sealAhead ml_RX12_248 rfl rfl (Nat.le_of_ble_eq_true rfl) (by decide) (by decide)) (fun h26 x27 => ?_)
    refine nr_iastore dX12_copy_136 (fun h28 => ?_)
    refine nr_iconst (v := 0) dX12_copy_137 (by decide) ?_
    refine nr_istore (lv2 := [(6, .inl 0), (0, .inr (some t0)), (1, .inl v1), (2, .inl v2), (3, .inl v3), (4, .inl v4)]) dX12_copy_138 (by decide) rfl ?_
    exact nk_locals [1, 3, 4, 0] rfl (s_X12_copy_b140 hl0  4096 h28 t0 v2 v3 0)
set_option maxHeartbeats 4000000 in
theorem s_X12_copy_c51 {G : nk_G} {l : Launch} (hl0 : l.flags = flags0)   (h : nk_H) (t0 : Nat) (v1 : Int32) (v2 : Int32) (v3 : Int32) (v4 : Int32) (s0 : Option Nat) : nk_Sim G l RX12 cX12_copy 7 (some FieldType.int) 3 71 false nk_eI 51 [(0, .inr (some t0)), (1, .inl v1), (2, .inl v2), (3, .inl v3), (4, .inl v4)] [.inr s0] h (f_X12_copy_c51   h t0 v1 v2 v3 v4 s0) := by
  unfold f_X12_copy_c51
  refine nr_iconst (v := 2) dX12_copy_51 (by decide) ?_
  refine nr_goto (tgt := 69) dX12_copy_52 (by decide) ?_
  exact s_X12_copy_c69 hl0  h t0 v1 v2 v3 v4 2 s0
set_option maxHeartbeats 4000000 in
theorem s_X12_copy_c23 {G : nk_G} {l : Launch} (hl0 : l.flags = flags0)   (h : nk_H) (t0 : Nat) (v1 : Int32) (v2 : Int32) (v3 : Int32) (v4 : Int32) (s0 : Int32) : nk_Sim G l RX12 cX12_copy 7 (some FieldType.int) 3 71 false nk_eI 23 [(0, .inr (some t0)), (1, .inl v1), (2, .inl v2), (3, .inl v3), (4, .inl v4)] [.inl s0] h (f_X12_copy_c23   h t0 v1 v2 v3 v4 s0) := by
  unfold f_X12_copy_c23
  refine nr_istore (lv2 := [(5, .inl s0), (0, .inr (some t0)), (1, .inl v1), (2, .inl v2), (3, .inl v3), (4, .inl v4)]) dX12_copy_23 (by decide) rfl ?_
  refine nr_aload_n 1 dX12_copy_25 rfl ?_
  refine nr_iload 0 dX12_copy_26 rfl ?_
  refine nr_if_ne (tgt := 35) dX12_copy_28 (by decide) (fun _ => ?_) (fun _ => ?_)
  · refine nr_iconst (v := 1) dX12_copy_31 (by decide) ?_
    refine nr_goto (tgt := 69) dX12_copy_32 (by decide) ?_
    exact nk_locals [1, 2, 3, 4, 5] rfl (s_X12_copy_c69 hl0  h t0 v1 v2 v3 v4 1 (some t0))
  · refine nr_iload_n 4 dX12_copy_35 rfl ?_
    refine nr_iload_n 3 dX12_copy_36 rfl ?_
    refine nr_icmp_lt (tgt := 51) dX12_copy_37 (by decide) (fun _ => ?_) (fun _ => ?_)
    · exact nk_locals [1, 2, 3, 4, 5] rfl (s_X12_copy_c51 hl0  h t0 v1 v2 v3 v4 (some t0))
    · refine nr_iload 5 dX12_copy_40 rfl ?_
      refine nr_iconst (v := 0) dX12_copy_42 (by decide) ?_
      refine nr_bipush (v := 63) dX12_copy_43 (by decide) ?_
      refine nr_doI (st := [.inr (some t0)]) (nk_callS (c_X12_in (G := G) hl0 h v4 0 63) dX12_copy_45 my_X12_in st_X12_in ml_RX12_124 rfl rfl (Nat.le_of_ble_eq_true rfl) (by decide) (by decide)) (fun h29 x30 => ?_)
      refine nr_if_ne (tgt := 55) dX12_copy_48 (by decide) (fun _ => ?_) (fun _ => ?_)
      · exact nk_locals [1, 2, 3, 4, 5] rfl (s_X12_copy_c51 hl0  h29 t0 v1 v2 v3 v4 (some t0))
      · refine nr_aload_n 1 dX12_copy_55 rfl ?_
        refine nr_getI [19] 37 dX12_copy_56 fk_RX12_275 (fun x31 => ?_)
        refine nr_bipush (v := 12) dX12_copy_59 (by decide) ?_
        refine nr_icmp_ne (tgt := 68) dX12_copy_61 (by decide) (fun _ => ?_) (fun _ => ?_)
        · refine nr_iconst (v := 3) dX12_copy_64 (by decide) ?_
          refine nr_goto (tgt := 69) dX12_copy_65 (by decide) ?_
          exact nk_locals [1, 2, 3, 4, 5] rfl (s_X12_copy_c69 hl0  h29 t0 v1 v2 v3 v4 3 (some t0))
        · refine nr_iconst (v := 0) dX12_copy_68 (by decide) ?_
          exact nk_locals [1, 2, 3, 4, 5] rfl (s_X12_copy_c69 hl0  h29 t0 v1 v2 v3 v4 0 (some t0))
set_option maxHeartbeats 4000000 in
theorem s_X12_copy_c22 {G : nk_G} {l : Launch} (hl0 : l.flags = flags0)   (h : nk_H) (t0 : Nat) (v1 : Int32) (v2 : Int32) (v3 : Int32) (v4 : Int32)  : nk_Sim G l RX12 cX12_copy 7 (some FieldType.int) 3 71 false nk_eI 22 [(0, .inr (some t0)), (1, .inl v1), (2, .inl v2), (3, .inl v3), (4, .inl v4)] [] h (f_X12_copy_c22   h t0 v1 v2 v3 v4 ) := by
  unfold f_X12_copy_c22
  refine nr_iconst (v := 0) dX12_copy_22 (by decide) ?_
  exact s_X12_copy_c23 hl0  h t0 v1 v2 v3 v4 0
set_option maxHeartbeats 4000000 in
theorem s_X12_copy {G : nk_G} {l : Launch} (hl0 : l.flags = flags0) (h : nk_H) (t0 : Nat) (v1 : Int32) (v2 : Int32) (v3 : Int32) (v4 : Int32) : nk_Sim G l RX12 cX12_copy 7 (some FieldType.int) 3 71 false nk_eI 0 [(0, .inr (some t0)), (1, .inl v1), (2, .inl v2), (3, .inl v3), (4, .inl v4)] [] h (f_X12_copy  h t0 v1 v2 v3 v4) := by
  unfold f_X12_copy
  refine nr_aload_n 0 dX12_copy_0 rfl ?_
  refine nr_iload_n 1 dX12_copy_1 rfl ?_
  refine nr_iload_n 2 dX12_copy_2 rfl ?_
  refine nr_rcv (ks := [19]) (pre := [.inl v2, .inl v1]) (fun a32 hm => ?_)
  refine nr_doI (st := []) (nk_callV (q := (RX12, TX12, 45)) (ci := 12) (c_X12_isRecord (G := G) hl0 h a32 v1 v2) dX12_copy_3 (List.mem_singleton.mp hm) rfl rfl my_X12_isRecord im_X12_isRecord se_RX12_X12_isRecord ml_RX12_269 rfl rfl (Nat.le_of_ble_eq_true rfl) (by decide) (by decide)) (fun h33 x34 => ?_)
  refine nr_if_eq (tgt := 22) dX12_copy_6 (by decide) (fun _ => ?_) (fun _ => ?_)
  · exact s_X12_copy_c22 hl0  h33 t0 v1 v2 v3 v4
  · refine nr_aload_n 0 dX12_copy_9 rfl ?_
    refine nr_iload_n 1 dX12_copy_10 rfl ?_
    refine nr_iload_n 3 dX12_copy_11 rfl ?_
    refine nr_rcv (ks := [19]) (pre := [.inl v3, .inl v1]) (fun a35 hm => ?_)
    refine nr_doI (st := []) (nk_callV (q := (RX12, TX12, 45)) (ci := 12) (c_X12_isRecord (G := G) hl0 h33 a35 v1 v3) dX12_copy_12 (List.mem_singleton.mp hm) rfl rfl my_X12_isRecord im_X12_isRecord se_RX12_X12_isRecord ml_RX12_269 rfl rfl (Nat.le_of_ble_eq_true rfl) (by decide) (by decide)) (fun h36 x37 => ?_)
    refine nr_if_eq (tgt := 22) dX12_copy_15 (by decide) (fun _ => ?_) (fun _ => ?_)
    · exact s_X12_copy_c22 hl0  h36 t0 v1 v2 v3 v4
    · refine nr_iconst (v := 1) dX12_copy_18 (by decide) ?_
      refine nr_goto (tgt := 23) dX12_copy_19 (by decide) ?_
      exact s_X12_copy_c23 hl0  h36 t0 v1 v2 v3 v4 1
theorem c_X12_copy {G : nk_G} {l : Launch} (hl0 : l.flags = flags0) (h : nk_H) (t0 : Nat) (v1 : Int32) (v2 : Int32) (v3 : Int32) (v4 : Int32) : nk_Con G l yX12_copy cX12_copy 7 (some FieldType.int) 3 71 nk_eI [.inr (some t0), .inl v1, .inl v2, .inl v3, .inl v4] h (f_X12_copy h t0 v1 v2 v3 v4) :=
  nk_con (ini := false) (by decide) hl0 (Nat.le_of_ble_eq_true rfl) (by decide) (s_X12_copy hl0 h t0 v1 v2 v3 v4)
set_option maxHeartbeats 4000000 in
theorem s_X12_isCopy {G : nk_G} {l : Launch} (hl0 : l.flags = flags0) (h : nk_H) (t0 : Nat) (v1 : Int32) : nk_Sim G l RX12 cX12_isCopy 2 (some FieldType.boolean) 1 22 false nk_eI 0 [(0, .inr (some t0)), (1, .inl v1)] [] h (f_X12_isCopy  h t0 v1) := by
  unfold f_X12_isCopy
  refine nr_iload_n 1 dX12_isCopy_0 rfl ?_
  refine nr_iconst (v := 0) dX12_isCopy_1 (by decide) ?_
  refine nr_aload_n 0 dX12_isCopy_2 rfl ?_
  refine nr_getI [19] 37 dX12_isCopy_3 fk_RX12_275 (fun x1 => ?_)
  refine nr_iconst (v := 1) dX12_isCopy_6 (by decide) ?_
  refine nr_isub dX12_isCopy_7 ?_
  refine nr_doI (st := []) (nk_callS (c_X12_in (G := G) hl0 h v1 0 (x1 - 1)) dX12_isCopy_8 my_X12_in st_X12_in ml_RX12_124 rfl rfl (Nat.le_of_ble_eq_true rfl) (by decide) (by decide)) (fun h2 x3 => ?_)
  exact nr_zret rfl rfl dX12_isCopy_11
theorem c_X12_isCopy {G : nk_G} {l : Launch} (hl0 : l.flags = flags0) (h : nk_H) (t0 : Nat) (v1 : Int32) : nk_Con G l yX12_isCopy cX12_isCopy 2 (some FieldType.boolean) 1 22 nk_eI [.inr (some t0), .inl v1] h (f_X12_isCopy h t0 v1) :=
  nk_con (ini := false) (by decide) hl0 (Nat.le_of_ble_eq_true rfl) (by decide) (s_X12_isCopy hl0 h t0 v1)
set_option maxHeartbeats 4000000 in
theorem s_X12_isCopied_c38 {G : nk_G} {l : Launch} (hl0 : l.flags = flags0)   (h : nk_H)  (s0 : Int32) : nk_Sim G l RX12 cX12_isCopied 4 (some FieldType.boolean) 2 43 false nk_eI 38 [] [.inl s0] h (f_X12_isCopied_c38   h  s0) := by
  unfold f_X12_isCopied_c38
  exact nr_zret rfl rfl dX12_isCopied_38
set_option maxHeartbeats 4000000 in
theorem s_X12_isCopied_c37 {G : nk_G} {l : Launch} (hl0 : l.flags = flags0)   (h : nk_H)   : nk_Sim G l RX12 cX12_isCopied 4 (some FieldType.boolean) 2 43 false nk_eI 37 [] [] h (f_X12_isCopied_c37   h  ) := by
  unfold f_X12_isCopied_c37
  refine nr_iconst (v := 0) dX12_isCopied_37 (by decide) ?_
  exact s_X12_isCopied_c38 hl0  h 0
set_option maxHeartbeats 4000000 in
theorem s_X12_isCopied {G : nk_G} {l : Launch} (hl0 : l.flags = flags0) (h : nk_H) (t0 : Nat) (v1 : Int32) (v2 : Int32) (v3 : Int32) : nk_Sim G l RX12 cX12_isCopied 4 (some FieldType.boolean) 2 43 false nk_eI 0 [(0, .inr (some t0)), (1, .inl v1), (2, .inl v2), (3, .inl v3)] [] h (f_X12_isCopied  h t0 v1 v2 v3) := by
  unfold f_X12_isCopied
  refine nr_aload_n 0 dX12_isCopied_0 rfl ?_
  refine nr_iload_n 1 dX12_isCopied_1 rfl ?_
  refine nr_rcv (ks := [19]) (pre := [.inl v1]) (fun a1 hm => ?_)
  refine nr_doI (st := []) (nk_callV (q := (RX12, TX12, 45)) (ci := 12) (c_X12_isCopy (G := G) hl0 h a1 v1) dX12_isCopied_2 (List.mem_singleton.mp hm) rfl rfl my_X12_isCopy im_X12_isCopy se_RX12_X12_isCopy ml_RX12_281 rfl rfl (Nat.le_of_ble_eq_true rfl) (by decide) (by decide)) (fun h2 x3 => ?_)
  refine nr_if_eq (tgt := 37) dX12_isCopied_5 (by decide) (fun _ => ?_) (fun _ => ?_)
  · exact nk_locals [] rfl (s_X12_isCopied_c37 hl0  h2)
  · refine nr_iload_n 2 dX12_isCopied_8 rfl ?_
    refine nr_iconst (v := 0) dX12_isCopied_9 (by decide) ?_
    refine nr_aload_n 0 dX12_isCopied_10 rfl ?_
    refine nr_getP [19] 40 dX12_isCopied_11 fk_RX12_106 (fun x4 => ?_)
    refine nr_iload_n 1 dX12_isCopied_14 rfl ?_
    refine nr_iaload dX12_isCopied_15 (fun x5 => ?_)
    refine nr_iconst (v := 1) dX12_isCopied_16 (by decide) ?_
    refine nr_isub dX12_isCopied_17 ?_
    refine nr_doI (st := []) (nk_callS (c_X12_in (G := G) hl0 h2 v2 0 (x5 - 1)) dX12_isCopied_18 my_X12_in st_X12_in ml_RX12_124 rfl rfl (Nat.le_of_ble_eq_true rfl) (by decide) (by decide)) (fun h6 x7 => ?_)
    refine nr_if_eq (tgt := 37) dX12_isCopied_21 (by decide) (fun _ => ?_) (fun _ => ?_)
    · exact nk_locals [] rfl (s_X12_isCopied_c37 hl0  h6)
    · refine nr_iload_n 3 dX12_isCopied_24 rfl ?_
      refine nr_iconst (v := 0) dX12_isCopied_25 (by decide) ?_
      refine nr_iconst (v := 5) dX12_isCopied_26 (by decide) ?_
      refine nr_doI (st := []) (nk_callS (c_X12_in (G := G) hl0 h6 v3 0 5) dX12_isCopied_27 my_X12_in st_X12_in ml_RX12_124 rfl rfl (Nat.le_of_ble_eq_true rfl) (by decide) (by decide)) (fun h8 x9 => ?_)
      refine nr_if_eq (tgt := 37) dX12_isCopied_30 (by decide) (fun _ => ?_) (fun _ => ?_)
      · exact nk_locals [] rfl (s_X12_isCopied_c37 hl0  h8)
      · refine nr_iconst (v := 1) dX12_isCopied_33 (by decide) ?_
        refine nr_goto (tgt := 38) dX12_isCopied_34 (by decide) ?_
        exact nk_locals [] rfl (s_X12_isCopied_c38 hl0  h8 1)
theorem c_X12_isCopied {G : nk_G} {l : Launch} (hl0 : l.flags = flags0) (h : nk_H) (t0 : Nat) (v1 : Int32) (v2 : Int32) (v3 : Int32) : nk_Con G l yX12_isCopied cX12_isCopied 4 (some FieldType.boolean) 2 43 nk_eI [.inr (some t0), .inl v1, .inl v2, .inl v3] h (f_X12_isCopied h t0 v1 v2 v3) :=
  nk_con (ini := false) (by decide) hl0 (Nat.le_of_ble_eq_true rfl) (by decide) (s_X12_isCopied hl0 h t0 v1 v2 v3)
set_option maxHeartbeats 4000000 in
theorem s_X12_forge_c49 {G : nk_G} {l : Launch} (hl0 : l.flags = flags0)   (h : nk_H) (t0 : Nat) (v1 : Int32) (v2 : Int32) (v3 : Int32) (v4 : Int32) (s0 : Int32) (s1 : Option Nat) : nk_Sim G l RX12 cX12_forge 8 (some FieldType.int) 3 66 false nk_eI 49 [(0, .inr (some t0)), (1, .inl v1), (2, .inl v2), (3, .inl v3), (4, .inl v4)] [.inl s0, .inr s1] h (f_X12_forge_c49   h t0 v1 v2 v3 v4 s0 s1) := by
  unfold f_X12_forge_c49
  refine nr_rcv (ks := [19]) (pre := [.inl s0]) (fun a1 hm => ?_)
  refine nr_doI (st := []) (nk_callV (q := (RX12, TX12, 45)) (ci := 12) (c_X12_holds (G := G) hl0 h a1 s0) dX12_forge_49 (List.mem_singleton.mp hm) rfl rfl my_X12_holds im_X12_holds se_RX12_X12_holds ml_RX12_143 rfl rfl (Nat.le_of_ble_eq_true rfl) (by decide) (by decide)) (fun h2 x3 => ?_)
  refine nr_if_ne (tgt := 57) dX12_forge_52 (by decide) (fun _ => ?_) (fun _ => ?_)
  · refine nr_iconst (v := 0) dX12_forge_55 (by decide) ?_
    exact nr_iret rfl rfl dX12_forge_56
  · refine nr_bipush (v := 6) dX12_forge_57 (by decide) ?_
    refine nr_sipush (v := 160) dX12_forge_59 (by decide) ?_
    refine nr_iload_n 1 dX12_forge_62 rfl ?_
    refine nr_imul dX12_forge_63 ?_
    refine nr_iload_n 2 dX12_forge_64 rfl ?_
    refine nr_iadd dX12_forge_65 ?_
    refine nr_imul dX12_forge_66 ?_
    refine nr_iload_n 3 dX12_forge_67 rfl ?_
    refine nr_iadd dX12_forge_68 ?_
    refine nr_istore (lv2 := [(6, .inl ((6 * ((160 * v1) + v2)) + v3)), (0, .inr (some t0)), (1, .inl v1), (2, .inl v2), (3, .inl v3), (4, .inl v4)]) dX12_forge_69 (by decide) rfl ?_
    refine nr_aload_n 1 dX12_forge_71 rfl ?_
    refine nr_getP [19] 43 dX12_forge_72 fk_RX12_115 (fun x4 => ?_)
    refine nr_iload 0 dX12_forge_75 rfl ?_
    refine nr_iaload dX12_forge_77 (fun x5 => ?_)
    refine nr_istore (lv2 := [(7, .inl x5), (6, .inl ((6 * ((160 * v1) + v2)) + v3)), (0, .inr (some t0)), (1, .inl v1), (2, .inl v2), (3, .inl v3), (4, .inl v4)]) dX12_forge_78 (by decide) rfl ?_
    refine nr_aload_n 2 dX12_forge_80 rfl ?_
    refine nr_getP [19] 43 dX12_forge_81 fk_RX12_115 (fun x6 => ?_)
    refine nr_iload 1 dX12_forge_84 rfl ?_
    refine nr_iload 6 dX12_forge_86 rfl ?_
    refine nr_iastore dX12_forge_88 (fun h7 => ?_)
    refine nr_iload 0 dX12_forge_89 rfl ?_
    exact nr_iret rfl rfl dX12_forge_91
set_option maxHeartbeats 4000000 in
theorem s_X12_forge {G : nk_G} {l : Launch} (hl0 : l.flags = flags0) (h : nk_H) (t0 : Nat) (v1 : Int32) (v2 : Int32) (v3 : Int32) (v4 : Int32) : nk_Sim G l RX12 cX12_forge 8 (some FieldType.int) 3 66 false nk_eI 0 [(0, .inr (some t0)), (1, .inl v1), (2, .inl v2), (3, .inl v3), (4, .inl v4)] [] h (f_X12_forge  h t0 v1 v2 v3 v4) := by
  unfold f_X12_forge
  refine nr_aload_n 0 dX12_forge_0 rfl ?_
  refine nr_iload_n 1 dX12_forge_1 rfl ?_
  refine nr_iload_n 2 dX12_forge_2 rfl ?_
  refine nr_iload_n 3 dX12_forge_3 rfl ?_
  refine nr_rcv (ks := [19]) (pre := [.inl v3, .inl v2, .inl v1]) (fun a8 hm => ?_)
  refine nr_doI (st := []) (nk_callV (q := (RX12, TX12, 45)) (ci := 12) (c_X12_isCopied (G := G) hl0 h a8 v1 v2 v3) dX12_forge_4 (List.mem_singleton.mp hm) rfl rfl my_X12_isCopied im_X12_isCopied se_RX12_X12_isCopied ml_RX12_284 rfl rfl (Nat.le_of_ble_eq_true rfl) (by decide) (by decide)) (fun h9 x10 => ?_)
  refine nr_istore (lv2 := [(5, .inl x10), (0, .inr (some t0)), (1, .inl v1), (2, .inl v2), (3, .inl v3), (4, .inl v4)]) dX12_forge_7 (by decide) rfl ?_
  refine nr_aload_n 1 dX12_forge_9 rfl ?_
  refine nr_iload 0 dX12_forge_10 rfl ?_
  refine nr_if_ne (tgt := 19) dX12_forge_12 (by decide) (fun _ => ?_) (fun _ => ?_)
  · refine nr_iconst (v := 1) dX12_forge_15 (by decide) ?_
    refine nr_goto (tgt := 49) dX12_forge_16 (by decide) ?_
    exact nk_locals [1, 2, 3, 4, 5] rfl (s_X12_forge_c49 hl0  h9 t0 v1 v2 v3 v4 1 (some t0))
  · refine nr_iload 5 dX12_forge_19 rfl ?_
    refine nr_iconst (v := 0) dX12_forge_21 (by decide) ?_
    refine nr_sipush (v := 10000) dX12_forge_22 (by decide) ?_
    refine nr_doI (st := [.inr (some t0)]) (nk_callS (c_X12_in (G := G) hl0 h9 v4 0 10000) dX12_forge_25 my_X12_in st_X12_in ml_RX12_124 rfl rfl (Nat.le_of_ble_eq_true rfl) (by decide) (by decide)) (fun h11 x12 => ?_)
    refine nr_if_ne (tgt := 35) dX12_forge_28 (by decide) (fun _ => ?_) (fun _ => ?_)
    · refine nr_iconst (v := 2) dX12_forge_31 (by decide) ?_
      refine nr_goto (tgt := 49) dX12_forge_32 (by decide) ?_
      exact nk_locals [1, 2, 3, 4, 5] rfl (s_X12_forge_c49 hl0  h11 t0 v1 v2 v3 v4 2 (some t0))
    · refine nr_aload_n 1 dX12_forge_35 rfl ?_
      refine nr_iload_n 2 dX12_forge_36 rfl ?_
      refine nr_iload_n 4 dX12_forge_37 rfl ?_
      refine nr_rcv (ks := [19]) (pre := [.inl v3, .inl v1]) (fun a13 hm => ?_)
      refine nr_doI (st := [.inr (some t0)]) (nk_callV (q := (RX12, TX12, 45)) (ci := 12) (c_X12_isLeftOut (G := G) hl0 h11 a13 v1 v3) dX12_forge_38 (List.mem_singleton.mp hm) rfl rfl my_X12_isLeftOut im_X12_isLeftOut se_RX12_X12_isLeftOut ml_RX12_272 rfl rfl (Nat.le_of_ble_eq_true rfl) (by decide) (by decide)) (fun h14 x15 => ?_)
      refine nr_if_eq (tgt := 48) dX12_forge_41 (by decide) (fun _ => ?_) (fun _ => ?_)
      · refine nr_iconst (v := 0) dX12_forge_48 (by decide) ?_
        exact nk_locals [1, 2, 3, 4, 5] rfl (s_X12_forge_c49 hl0  h14 t0 v1 v2 v3 v4 0 (some t0))
      · refine nr_iconst (v := 3) dX12_forge_44 (by decide) ?_
        refine nr_goto (tgt := 49) dX12_forge_45 (by decide) ?_
        exact nk_locals [1, 2, 3, 4, 5] rfl (s_X12_forge_c49 hl0  h14 t0 v1 v2 v3 v4 3 (some t0))
theorem c_X12_forge {G : nk_G} {l : Launch} (hl0 : l.flags = flags0) (h : nk_H) (t0 : Nat) (v1 : Int32) (v2 : Int32) (v3 : Int32) (v4 : Int32) : nk_Con G l yX12_forge cX12_forge 8 (some FieldType.int) 3 66 nk_eI [.inr (some t0), .inl v1, .inl v2, .inl v3, .inl v4] h (f_X12_forge h t0 v1 v2 v3 v4) :=
  nk_con (ini := false) (by decide) hl0 (Nat.le_of_ble_eq_true rfl) (by decide) (s_X12_forge hl0 h t0 v1 v2 v3 v4)
set_option maxHeartbeats 4000000 in
theorem s_X12_hour {G : nk_G} {l : Launch} (hl0 : l.flags = flags0) (h : nk_H) (t0 : Nat) : nk_Sim G l RX12 cX12_hour 1 (some FieldType.int) 0 0 false nk_eI 0 [(0, .inr (some t0))] [] h (f_X12_hour  h t0) := by
  unfold f_X12_hour
  refine nr_aload_n 0 dX12_hour_0 rfl ?_
  refine nr_iconst (v := 0) dX12_hour_1 (by decide) ?_
  refine nr_putI [19] 0 dX12_hour_2 fk_RX12_121 fw_RX12_121_n (fun h1 => ?_)
  refine nr_aload_n 0 dX12_hour_5 rfl ?_
  refine nr_getI [19] 1 dX12_hour_6 fk_RX12_150 (fun x2 => ?_)
  exact nr_iret rfl rfl dX12_hour_9
theorem c_X12_hour {G : nk_G} {l : Launch} (hl0 : l.flags = flags0) (h : nk_H) (t0 : Nat) : nk_Con G l yX12_hour cX12_hour 1 (some FieldType.int) 0 0 nk_eI [.inr (some t0)] h (f_X12_hour h t0) :=
  nk_con (ini := false) (by decide) hl0 (Nat.le_of_ble_eq_true rfl) (by decide) (s_X12_hour hl0 h t0)
set_option maxHeartbeats 4000000 in
theorem s_X12_news {G : nk_G} {l : Launch} (hl0 : l.flags = flags0) (h : nk_H) (t0 : Nat) : nk_Sim G l RX12 cX12_news 1 (some FieldType.int) 0 0 false nk_eI 0 [(0, .inr (some t0))] [] h (f_X12_news  h t0) := by
  unfold f_X12_news
  refine nr_aload_n 0 dX12_news_0 rfl ?_
  refine nr_iconst (v := 0) dX12_news_1 (by decide) ?_
  refine nr_putI [19] 0 dX12_news_2 fk_RX12_121 fw_RX12_121_n (fun h1 => ?_)
  refine nr_aload_n 0 dX12_news_5 rfl ?_
  refine nr_getI [19] 3 dX12_news_6 fk_RX12_153 (fun x2 => ?_)
  exact nr_iret rfl rfl dX12_news_9
theorem c_X12_news {G : nk_G} {l : Launch} (hl0 : l.flags = flags0) (h : nk_H) (t0 : Nat) : nk_Con G l yX12_news cX12_news 1 (some FieldType.int) 0 0 nk_eI [.inr (some t0)] h (f_X12_news h t0) :=
  nk_con (ini := false) (by decide) hl0 (Nat.le_of_ble_eq_true rfl) (by decide) (s_X12_news hl0 h t0)
set_option maxHeartbeats 4000000 in
theorem s_X12_powers {G : nk_G} {l : Launch} (hl0 : l.flags = flags0) (h : nk_H) (t0 : Nat) : nk_Sim G l RX12 cX12_powers 1 (some FieldType.int) 0 0 false nk_eI 0 [(0, .inr (some t0))] [] h (f_X12_powers  h t0) := by
  unfold f_X12_powers
  refine nr_aload_n 0 dX12_powers_0 rfl ?_
  refine nr_iconst (v := 0) dX12_powers_1 (by decide) ?_
  refine nr_putI [19] 0 dX12_powers_2 fk_RX12_121 fw_RX12_121_n (fun h1 => ?_)
  refine nr_aload_n 0 dX12_powers_5 rfl ?_
  refine nr_getI [19] 12 dX12_powers_6 fk_RX12_128 (fun x2 => ?_)
  exact nr_iret rfl rfl dX12_powers_9
theorem c_X12_powers {G : nk_G} {l : Launch} (hl0 : l.flags = flags0) (h : nk_H) (t0 : Nat) : nk_Con G l yX12_powers cX12_powers 1 (some FieldType.int) 0 0 nk_eI [.inr (some t0)] h (f_X12_powers h t0) :=
  nk_con (ini := false) (by decide) hl0 (Nat.le_of_ble_eq_true rfl) (by decide) (s_X12_powers hl0 h t0)
set_option maxHeartbeats 4000000 in
theorem s_X12_records_c29 {G : nk_G} {l : Launch} (hl0 : l.flags = flags0)   (h : nk_H)  (s0 : Int32) : nk_Sim G l RX12 cX12_records 2 (some FieldType.int) 2 42 false nk_eI 29 [] [.inl s0] h (f_X12_records_c29   h  s0) := by
  unfold f_X12_records_c29
  exact nr_iret rfl rfl dX12_records_29
set_option maxHeartbeats 4000000 in
theorem s_X12_records_c13 {G : nk_G} {l : Launch} (hl0 : l.flags = flags0)   (h : nk_H) (t0 : Nat) (v1 : Int32) (s0 : Int32) (s1 : Option Nat) : nk_Sim G l RX12 cX12_records 2 (some FieldType.int) 2 42 false nk_eI 13 [(0, .inr (some t0)), (1, .inl v1)] [.inl s0, .inr s1] h (f_X12_records_c13   h t0 v1 s0 s1) := by
  unfold f_X12_records_c13
  refine nr_rcv (ks := [19]) (pre := [.inl s0]) (fun a1 hm => ?_)
  refine nr_doI (st := []) (nk_callV (q := (RX12, TX12, 45)) (ci := 12) (c_X12_holds (G := G) hl0 h a1 s0) dX12_records_13 (List.mem_singleton.mp hm) rfl rfl my_X12_holds im_X12_holds se_RX12_X12_holds ml_RX12_143 rfl rfl (Nat.le_of_ble_eq_true rfl) (by decide) (by decide)) (fun h2 x3 => ?_)
  refine nr_if_eq (tgt := 28) dX12_records_16 (by decide) (fun _ => ?_) (fun _ => ?_)
  · refine nr_iconst (v := 0) dX12_records_28 (by decide) ?_
    exact nk_locals [] rfl (s_X12_records_c29 hl0  h2 0)
  · refine nr_aload_n 0 dX12_records_19 rfl ?_
    refine nr_getP [19] 30 dX12_records_20 fk_RX12_79 (fun x4 => ?_)
    refine nr_iload_n 1 dX12_records_23 rfl ?_
    refine nr_iaload dX12_records_24 (fun x5 => ?_)
    refine nr_goto (tgt := 29) dX12_records_25 (by decide) ?_
    exact nk_locals [] rfl (s_X12_records_c29 hl0  h2 x5)
set_option maxHeartbeats 4000000 in
theorem s_X12_records {G : nk_G} {l : Launch} (hl0 : l.flags = flags0) (h : nk_H) (t0 : Nat) (v1 : Int32) : nk_Sim G l RX12 cX12_records 2 (some FieldType.int) 2 42 false nk_eI 0 [(0, .inr (some t0)), (1, .inl v1)] [] h (f_X12_records  h t0 v1) := by
  unfold f_X12_records
  refine nr_aload_n 0 dX12_records_0 rfl ?_
  refine nr_iload_n 1 dX12_records_1 rfl ?_
  refine nr_doI (st := [.inr (some t0)]) (nk_callS (c_X12_isKiosk (G := G) hl0 h v1) dX12_records_2 my_X12_isKiosk st_X12_isKiosk ml_RX12_131 rfl rfl (Nat.le_of_ble_eq_true rfl) (by decide) (by decide)) (fun h6 x7 => ?_)
  refine nr_if_eq (tgt := 12) dX12_records_5 (by decide) (fun _ => ?_) (fun _ => ?_)
  · refine nr_iconst (v := 1) dX12_records_12 (by decide) ?_
    exact s_X12_records_c13 hl0  h6 t0 v1 1 (some t0)
  · refine nr_iconst (v := 0) dX12_records_8 (by decide) ?_
    refine nr_goto (tgt := 13) dX12_records_9 (by decide) ?_
    exact s_X12_records_c13 hl0  h6 t0 v1 0 (some t0)
theorem c_X12_records {G : nk_G} {l : Launch} (hl0 : l.flags = flags0) (h : nk_H) (t0 : Nat) (v1 : Int32) : nk_Con G l yX12_records cX12_records 2 (some FieldType.int) 2 42 nk_eI [.inr (some t0), .inl v1] h (f_X12_records h t0 v1) :=
  nk_con (ini := false) (by decide) hl0 (Nat.le_of_ble_eq_true rfl) (by decide) (s_X12_records hl0 h t0 v1)
set_option maxHeartbeats 4000000 in
theorem s_X12_areJoined_c45 {G : nk_G} {l : Launch} (hl0 : l.flags = flags0)   (h : nk_H)  (s0 : Int32) : nk_Sim G l RX12 cX12_areJoined 3 (some FieldType.boolean) 2 42 false nk_eI 45 [] [.inl s0] h (f_X12_areJoined_c45   h  s0) := by
  unfold f_X12_areJoined_c45
  exact nr_zret rfl rfl dX12_areJoined_45
set_option maxHeartbeats 4000000 in
theorem s_X12_areJoined_c44 {G : nk_G} {l : Launch} (hl0 : l.flags = flags0)   (h : nk_H)   : nk_Sim G l RX12 cX12_areJoined 3 (some FieldType.boolean) 2 42 false nk_eI 44 [] [] h (f_X12_areJoined_c44   h  ) := by
  unfold f_X12_areJoined_c44
  refine nr_iconst (v := 0) dX12_areJoined_44 (by decide) ?_
  exact s_X12_areJoined_c45 hl0  h 0
set_option maxHeartbeats 4000000 in
theorem s_X12_areJoined_c20 {G : nk_G} {l : Launch} (hl0 : l.flags = flags0)   (h : nk_H) (t0 : Nat) (v1 : Int32) (v2 : Int32) (s0 : Int32) (s1 : Option Nat) : nk_Sim G l RX12 cX12_areJoined 3 (some FieldType.boolean) 2 42 false nk_eI 20 [(0, .inr (some t0)), (1, .inl v1), (2, .inl v2)] [.inl s0, .inr s1] h (f_X12_areJoined_c20   h t0 v1 v2 s0 s1) := by
  unfold f_X12_areJoined_c20
  refine nr_rcv (ks := [19]) (pre := [.inl s0]) (fun a1 hm => ?_)
  refine nr_doI (st := []) (nk_callV (q := (RX12, TX12, 45)) (ci := 12) (c_X12_holds (G := G) hl0 h a1 s0) dX12_areJoined_20 (List.mem_singleton.mp hm) rfl rfl my_X12_holds im_X12_holds se_RX12_X12_holds ml_RX12_143 rfl rfl (Nat.le_of_ble_eq_true rfl) (by decide) (by decide)) (fun h2 x3 => ?_)
  refine nr_if_eq (tgt := 44) dX12_areJoined_23 (by decide) (fun _ => ?_) (fun _ => ?_)
  · exact nk_locals [] rfl (s_X12_areJoined_c44 hl0  h2)
  · refine nr_aload_n 0 dX12_areJoined_26 rfl ?_
    refine nr_getP [19] 2 dX12_areJoined_27 fk_RX12_7 (fun x4 => ?_)
    refine nr_iload_n 1 dX12_areJoined_30 rfl ?_
    refine nr_iaload dX12_areJoined_31 (fun x5 => ?_)
    refine nr_iload_n 2 dX12_areJoined_32 rfl ?_
    refine nr_ishr dX12_areJoined_33 ?_
    refine nr_iconst (v := 1) dX12_areJoined_34 (by decide) ?_
    refine nr_iand dX12_areJoined_35 ?_
    refine nr_iconst (v := 1) dX12_areJoined_36 (by decide) ?_
    refine nr_icmp_ne (tgt := 44) dX12_areJoined_37 (by decide) (fun _ => ?_) (fun _ => ?_)
    · refine nr_iconst (v := 1) dX12_areJoined_40 (by decide) ?_
      refine nr_goto (tgt := 45) dX12_areJoined_41 (by decide) ?_
      exact nk_locals [] rfl (s_X12_areJoined_c45 hl0  h2 1)
    · exact nk_locals [] rfl (s_X12_areJoined_c44 hl0  h2)
set_option maxHeartbeats 4000000 in
theorem s_X12_areJoined_c19 {G : nk_G} {l : Launch} (hl0 : l.flags = flags0)   (h : nk_H) (t0 : Nat) (v1 : Int32) (v2 : Int32) (s0 : Option Nat) : nk_Sim G l RX12 cX12_areJoined 3 (some FieldType.boolean) 2 42 false nk_eI 19 [(0, .inr (some t0)), (1, .inl v1), (2, .inl v2)] [.inr s0] h (f_X12_areJoined_c19   h t0 v1 v2 s0) := by
  unfold f_X12_areJoined_c19
  refine nr_iconst (v := 1) dX12_areJoined_19 (by decide) ?_
  exact s_X12_areJoined_c20 hl0  h t0 v1 v2 1 s0
set_option maxHeartbeats 4000000 in
theorem s_X12_areJoined {G : nk_G} {l : Launch} (hl0 : l.flags = flags0) (h : nk_H) (t0 : Nat) (v1 : Int32) (v2 : Int32) : nk_Sim G l RX12 cX12_areJoined 3 (some FieldType.boolean) 2 42 false nk_eI 0 [(0, .inr (some t0)), (1, .inl v1), (2, .inl v2)] [] h (f_X12_areJoined  h t0 v1 v2) := by
  unfold f_X12_areJoined
  refine nr_aload_n 0 dX12_areJoined_0 rfl ?_
  refine nr_iload_n 1 dX12_areJoined_1 rfl ?_
  refine nr_doI (st := [.inr (some t0)]) (nk_callS (c_X12_isKiosk (G := G) hl0 h v1) dX12_areJoined_2 my_X12_isKiosk st_X12_isKiosk ml_RX12_131 rfl rfl (Nat.le_of_ble_eq_true rfl) (by decide) (by decide)) (fun h6 x7 => ?_)
  refine nr_if_eq (tgt := 19) dX12_areJoined_5 (by decide) (fun _ => ?_) (fun _ => ?_)
  · exact s_X12_areJoined_c19 hl0  h6 t0 v1 v2 (some t0)
  · refine nr_iload_n 2 dX12_areJoined_8 rfl ?_
    refine nr_doI (st := [.inr (some t0)]) (nk_callS (c_X12_isKiosk (G := G) hl0 h6 v2) dX12_areJoined_9 my_X12_isKiosk st_X12_isKiosk ml_RX12_131 rfl rfl (Nat.le_of_ble_eq_true rfl) (by decide) (by decide)) (fun h8 x9 => ?_)
    refine nr_if_eq (tgt := 19) dX12_areJoined_12 (by decide) (fun _ => ?_) (fun _ => ?_)
    · exact s_X12_areJoined_c19 hl0  h8 t0 v1 v2 (some t0)
    · refine nr_iconst (v := 0) dX12_areJoined_15 (by decide) ?_
      refine nr_goto (tgt := 20) dX12_areJoined_16 (by decide) ?_
      exact s_X12_areJoined_c20 hl0  h8 t0 v1 v2 0 (some t0)
theorem c_X12_areJoined {G : nk_G} {l : Launch} (hl0 : l.flags = flags0) (h : nk_H) (t0 : Nat) (v1 : Int32) (v2 : Int32) : nk_Con G l yX12_areJoined cX12_areJoined 3 (some FieldType.boolean) 2 42 nk_eI [.inr (some t0), .inl v1, .inl v2] h (f_X12_areJoined h t0 v1 v2) :=
  nk_con (ini := false) (by decide) hl0 (Nat.le_of_ble_eq_true rfl) (by decide) (s_X12_areJoined hl0 h t0 v1 v2)
set_option maxHeartbeats 4000000 in
theorem s_X12_isPiece_c27 {G : nk_G} {l : Launch} (hl0 : l.flags = flags0)   (h : nk_H)  (s0 : Int32) (s1 : Option Nat) : nk_Sim G l RX12 cX12_isPiece 3 (some FieldType.boolean) 2 42 false nk_eI 27 [] [.inl s0, .inr s1] h (f_X12_isPiece_c27   h  s0 s1) := by
  unfold f_X12_isPiece_c27
  refine nr_rcv (ks := [19]) (pre := [.inl s0]) (fun a1 hm => ?_)
  refine nr_doI (st := []) (nk_callV (q := (RX12, TX12, 45)) (ci := 12) (c_X12_holds (G := G) hl0 h a1 s0) dX12_isPiece_27 (List.mem_singleton.mp hm) rfl rfl my_X12_holds im_X12_holds se_RX12_X12_holds ml_RX12_143 rfl rfl (Nat.le_of_ble_eq_true rfl) (by decide) (by decide)) (fun h2 x3 => ?_)
  exact nr_zret rfl rfl dX12_isPiece_30
set_option maxHeartbeats 4000000 in
theorem s_X12_isPiece_c26 {G : nk_G} {l : Launch} (hl0 : l.flags = flags0)   (h : nk_H)  (s0 : Option Nat) : nk_Sim G l RX12 cX12_isPiece 3 (some FieldType.boolean) 2 42 false nk_eI 26 [] [.inr s0] h (f_X12_isPiece_c26   h  s0) := by
  unfold f_X12_isPiece_c26
  refine nr_iconst (v := 1) dX12_isPiece_26 (by decide) ?_
  exact s_X12_isPiece_c27 hl0  h 1 s0
set_option maxHeartbeats 4000000 in
theorem s_X12_isPiece {G : nk_G} {l : Launch} (hl0 : l.flags = flags0) (h : nk_H) (t0 : Nat) (v1 : Int32) (v2 : Int32) : nk_Sim G l RX12 cX12_isPiece 3 (some FieldType.boolean) 2 42 false nk_eI 0 [(0, .inr (some t0)), (1, .inl v1), (2, .inl v2)] [] h (f_X12_isPiece  h t0 v1 v2) := by
  unfold f_X12_isPiece
  refine nr_aload_n 0 dX12_isPiece_0 rfl ?_
  refine nr_iload_n 1 dX12_isPiece_1 rfl ?_
  refine nr_doI (st := [.inr (some t0)]) (nk_callS (c_X12_isKiosk (G := G) hl0 h v1) dX12_isPiece_2 my_X12_isKiosk st_X12_isKiosk ml_RX12_131 rfl rfl (Nat.le_of_ble_eq_true rfl) (by decide) (by decide)) (fun h4 x5 => ?_)
  refine nr_if_eq (tgt := 26) dX12_isPiece_5 (by decide) (fun _ => ?_) (fun _ => ?_)
  · exact nk_locals [] rfl (s_X12_isPiece_c26 hl0  h4 (some t0))
  · refine nr_iload_n 2 dX12_isPiece_8 rfl ?_
    refine nr_iconst (v := 0) dX12_isPiece_9 (by decide) ?_
    refine nr_aload_n 0 dX12_isPiece_10 rfl ?_
    refine nr_getI [19] 3 dX12_isPiece_11 fk_RX12_153 (fun x6 => ?_)
    refine nr_iconst (v := 1) dX12_isPiece_14 (by decide) ?_
    refine nr_isub dX12_isPiece_15 ?_
    refine nr_doI (st := [.inr (some t0)]) (nk_callS (c_X12_in (G := G) hl0 h4 v2 0 (x6 - 1)) dX12_isPiece_16 my_X12_in st_X12_in ml_RX12_124 rfl rfl (Nat.le_of_ble_eq_true rfl) (by decide) (by decide)) (fun h7 x8 => ?_)
    refine nr_if_eq (tgt := 26) dX12_isPiece_19 (by decide) (fun _ => ?_) (fun _ => ?_)
    · exact nk_locals [] rfl (s_X12_isPiece_c26 hl0  h7 (some t0))
    · refine nr_iconst (v := 0) dX12_isPiece_22 (by decide) ?_
      refine nr_goto (tgt := 27) dX12_isPiece_23 (by decide) ?_
      exact nk_locals [] rfl (s_X12_isPiece_c27 hl0  h7 0 (some t0))
theorem c_X12_isPiece {G : nk_G} {l : Launch} (hl0 : l.flags = flags0) (h : nk_H) (t0 : Nat) (v1 : Int32) (v2 : Int32) : nk_Con G l yX12_isPiece cX12_isPiece 3 (some FieldType.boolean) 2 42 nk_eI [.inr (some t0), .inl v1, .inl v2] h (f_X12_isPiece h t0 v1 v2) :=
  nk_con (ini := false) (by decide) hl0 (Nat.le_of_ble_eq_true rfl) (by decide) (s_X12_isPiece hl0 h t0 v1 v2)
set_option maxHeartbeats 4000000 in
theorem s_X12_came_c25 {G : nk_G} {l : Launch} (hl0 : l.flags = flags0)   (h : nk_H)  (s0 : Int32) : nk_Sim G l RX12 cX12_came 3 (some FieldType.int) 3 64 false nk_eI 25 [] [.inl s0] h (f_X12_came_c25   h  s0) := by
  unfold f_X12_came_c25
  exact nr_iret rfl rfl dX12_came_25
set_option maxHeartbeats 4000000 in
theorem s_X12_came {G : nk_G} {l : Launch} (hl0 : l.flags = flags0) (h : nk_H) (t0 : Nat) (v1 : Int32) (v2 : Int32) : nk_Sim G l RX12 cX12_came 3 (some FieldType.int) 3 64 false nk_eI 0 [(0, .inr (some t0)), (1, .inl v1), (2, .inl v2)] [] h (f_X12_came  h t0 v1 v2) := by
  unfold f_X12_came
  refine nr_aload_n 0 dX12_came_0 rfl ?_
  refine nr_iload_n 1 dX12_came_1 rfl ?_
  refine nr_iload_n 2 dX12_came_2 rfl ?_
  refine nr_rcv (ks := [19]) (pre := [.inl v2, .inl v1]) (fun a1 hm => ?_)
  refine nr_doI (st := []) (nk_callV (q := (RX12, TX12, 45)) (ci := 12) (c_X12_isPiece (G := G) hl0 h a1 v1 v2) dX12_came_3 (List.mem_singleton.mp hm) rfl rfl my_X12_isPiece im_X12_isPiece se_RX12_X12_isPiece ml_RX12_287 rfl rfl (Nat.le_of_ble_eq_true rfl) (by decide) (by decide)) (fun h2 x3 => ?_)
  refine nr_if_eq (tgt := 24) dX12_came_6 (by decide) (fun _ => ?_) (fun _ => ?_)
  · refine nr_iconst (v := 0) dX12_came_24 (by decide) ?_
    exact nk_locals [] rfl (s_X12_came_c25 hl0  h2 0)
  · refine nr_aload_n 0 dX12_came_9 rfl ?_
    refine nr_getP [19] 10 dX12_came_10 fk_RX12_31 (fun x4 => ?_)
    refine nr_sipush (v := 160) dX12_came_13 (by decide) ?_
    refine nr_iload_n 1 dX12_came_16 rfl ?_
    refine nr_imul dX12_came_17 ?_
    refine nr_iload_n 2 dX12_came_18 rfl ?_
    refine nr_iadd dX12_came_19 ?_
    refine nr_iaload dX12_came_20 (fun x5 => ?_)
    refine nr_goto (tgt := 25) dX12_came_21 (by decide) ?_
    exact nk_locals [] rfl (s_X12_came_c25 hl0  h2 x5)
theorem c_X12_came {G : nk_G} {l : Launch} (hl0 : l.flags = flags0) (h : nk_H) (t0 : Nat) (v1 : Int32) (v2 : Int32) : nk_Con G l yX12_came cX12_came 3 (some FieldType.int) 3 64 nk_eI [.inr (some t0), .inl v1, .inl v2] h (f_X12_came h t0 v1 v2) :=
  nk_con (ini := false) (by decide) hl0 (Nat.le_of_ble_eq_true rfl) (by decide) (s_X12_came hl0 h t0 v1 v2)
set_option maxHeartbeats 4000000 in
theorem s_X12_cameByLinks_c25 {G : nk_G} {l : Launch} (hl0 : l.flags = flags0)   (h : nk_H)  (s0 : Int32) : nk_Sim G l RX12 cX12_cameByLinks 3 (some FieldType.int) 3 64 false nk_eI 25 [] [.inl s0] h (f_X12_cameByLinks_c25   h  s0) := by
  unfold f_X12_cameByLinks_c25
  exact nr_iret rfl rfl dX12_cameByLinks_25
set_option maxHeartbeats 4000000 in
theorem s_X12_cameByLinks {G : nk_G} {l : Launch} (hl0 : l.flags = flags0) (h : nk_H) (t0 : Nat) (v1 : Int32) (v2 : Int32) : nk_Sim G l RX12 cX12_cameByLinks 3 (some FieldType.int) 3 64 false nk_eI 0 [(0, .inr (some t0)), (1, .inl v1), (2, .inl v2)] [] h (f_X12_cameByLinks  h t0 v1 v2) := by
  unfold f_X12_cameByLinks
  refine nr_aload_n 0 dX12_cameByLinks_0 rfl ?_
  refine nr_iload_n 1 dX12_cameByLinks_1 rfl ?_
  refine nr_iload_n 2 dX12_cameByLinks_2 rfl ?_
  refine nr_rcv (ks := [19]) (pre := [.inl v2, .inl v1]) (fun a1 hm => ?_)
  refine nr_doI (st := []) (nk_callV (q := (RX12, TX12, 45)) (ci := 12) (c_X12_isPiece (G := G) hl0 h a1 v1 v2) dX12_cameByLinks_3 (List.mem_singleton.mp hm) rfl rfl my_X12_isPiece im_X12_isPiece se_RX12_X12_isPiece ml_RX12_287 rfl rfl (Nat.le_of_ble_eq_true rfl) (by decide) (by decide)) (fun h2 x3 => ?_)
  refine nr_if_eq (tgt := 24) dX12_cameByLinks_6 (by decide) (fun _ => ?_) (fun _ => ?_)
  · refine nr_iconst (v := 0) dX12_cameByLinks_24 (by decide) ?_
    exact nk_locals [] rfl (s_X12_cameByLinks_c25 hl0  h2 0)
  · refine nr_aload_n 0 dX12_cameByLinks_9 rfl ?_
    refine nr_getP [19] 10 dX12_cameByLinks_10 fk_RX12_31 (fun x4 => ?_)
    refine nr_sipush (v := 160) dX12_cameByLinks_13 (by decide) ?_
    refine nr_iload_n 1 dX12_cameByLinks_16 rfl ?_
    refine nr_imul dX12_cameByLinks_17 ?_
    refine nr_iload_n 2 dX12_cameByLinks_18 rfl ?_
    refine nr_iadd dX12_cameByLinks_19 ?_
    refine nr_iaload dX12_cameByLinks_20 (fun x5 => ?_)
    refine nr_goto (tgt := 25) dX12_cameByLinks_21 (by decide) ?_
    exact nk_locals [] rfl (s_X12_cameByLinks_c25 hl0  h2 x5)
theorem c_X12_cameByLinks {G : nk_G} {l : Launch} (hl0 : l.flags = flags0) (h : nk_H) (t0 : Nat) (v1 : Int32) (v2 : Int32) : nk_Con G l yX12_cameByLinks cX12_cameByLinks 3 (some FieldType.int) 3 64 nk_eI [.inr (some t0), .inl v1, .inl v2] h (f_X12_cameByLinks h t0 v1 v2) :=
  nk_con (ini := false) (by decide) hl0 (Nat.le_of_ble_eq_true rfl) (by decide) (s_X12_cameByLinks hl0 h t0 v1 v2)
set_option maxHeartbeats 4000000 in
theorem s_X12_isRead_c29 {G : nk_G} {l : Launch} (hl0 : l.flags = flags0)   (h : nk_H)  (s0 : Int32) : nk_Sim G l RX12 cX12_isRead 3 (some FieldType.boolean) 3 64 false nk_eI 29 [] [.inl s0] h (f_X12_isRead_c29   h  s0) := by
  unfold f_X12_isRead_c29
  exact nr_zret rfl rfl dX12_isRead_29
set_option maxHeartbeats 4000000 in
theorem s_X12_isRead_c28 {G : nk_G} {l : Launch} (hl0 : l.flags = flags0)   (h : nk_H)   : nk_Sim G l RX12 cX12_isRead 3 (some FieldType.boolean) 3 64 false nk_eI 28 [] [] h (f_X12_isRead_c28   h  ) := by
  unfold f_X12_isRead_c28
  refine nr_iconst (v := 0) dX12_isRead_28 (by decide) ?_
  exact s_X12_isRead_c29 hl0  h 0
set_option maxHeartbeats 4000000 in
theorem s_X12_isRead {G : nk_G} {l : Launch} (hl0 : l.flags = flags0) (h : nk_H) (t0 : Nat) (v1 : Int32) (v2 : Int32) : nk_Sim G l RX12 cX12_isRead 3 (some FieldType.boolean) 3 64 false nk_eI 0 [(0, .inr (some t0)), (1, .inl v1), (2, .inl v2)] [] h (f_X12_isRead  h t0 v1 v2) := by
  unfold f_X12_isRead
  refine nr_aload_n 0 dX12_isRead_0 rfl ?_
  refine nr_iload_n 1 dX12_isRead_1 rfl ?_
  refine nr_iload_n 2 dX12_isRead_2 rfl ?_
  refine nr_rcv (ks := [19]) (pre := [.inl v2, .inl v1]) (fun a1 hm => ?_)
  refine nr_doI (st := []) (nk_callV (q := (RX12, TX12, 45)) (ci := 12) (c_X12_isPiece (G := G) hl0 h a1 v1 v2) dX12_isRead_3 (List.mem_singleton.mp hm) rfl rfl my_X12_isPiece im_X12_isPiece se_RX12_X12_isPiece ml_RX12_287 rfl rfl (Nat.le_of_ble_eq_true rfl) (by decide) (by decide)) (fun h2 x3 => ?_)
  refine nr_if_eq (tgt := 28) dX12_isRead_6 (by decide) (fun _ => ?_) (fun _ => ?_)
  · exact nk_locals [] rfl (s_X12_isRead_c28 hl0  h2)
  · refine nr_aload_n 0 dX12_isRead_9 rfl ?_
    refine nr_getP [19] 11 dX12_isRead_10 fk_RX12_34 (fun x4 => ?_)
    refine nr_sipush (v := 160) dX12_isRead_13 (by decide) ?_
    refine nr_iload_n 1 dX12_isRead_16 rfl ?_
    refine nr_imul dX12_isRead_17 ?_
    refine nr_iload_n 2 dX12_isRead_18 rfl ?_
    refine nr_iadd dX12_isRead_19 ?_
    refine nr_baload dX12_isRead_20 (fun x5 => ?_)
    refine nr_if_eq (tgt := 28) dX12_isRead_21 (by decide) (fun _ => ?_) (fun _ => ?_)
    · exact nk_locals [] rfl (s_X12_isRead_c28 hl0  h2)
    · refine nr_iconst (v := 1) dX12_isRead_24 (by decide) ?_
      refine nr_goto (tgt := 29) dX12_isRead_25 (by decide) ?_
      exact nk_locals [] rfl (s_X12_isRead_c29 hl0  h2 1)
theorem c_X12_isRead {G : nk_G} {l : Launch} (hl0 : l.flags = flags0) (h : nk_H) (t0 : Nat) (v1 : Int32) (v2 : Int32) : nk_Con G l yX12_isRead cX12_isRead 3 (some FieldType.boolean) 3 64 nk_eI [.inr (some t0), .inl v1, .inl v2] h (f_X12_isRead h t0 v1 v2) :=
  nk_con (ini := false) (by decide) hl0 (Nat.le_of_ble_eq_true rfl) (by decide) (s_X12_isRead hl0 h t0 v1 v2)
set_option maxHeartbeats 4000000 in
theorem s_X12_mail_c28 {G : nk_G} {l : Launch} (hl0 : l.flags = flags0)   (h : nk_H)  (s0 : Int32) : nk_Sim G l RX12 cX12_mail 2 (some FieldType.int) 2 42 false nk_eI 28 [] [.inl s0] h (f_X12_mail_c28   h  s0) := by
  unfold f_X12_mail_c28
  exact nr_iret rfl rfl dX12_mail_28
set_option maxHeartbeats 4000000 in
theorem s_X12_mail_c13 {G : nk_G} {l : Launch} (hl0 : l.flags = flags0)   (h : nk_H) (t0 : Nat) (v1 : Int32) (s0 : Int32) (s1 : Option Nat) : nk_Sim G l RX12 cX12_mail 2 (some FieldType.int) 2 42 false nk_eI 13 [(0, .inr (some t0)), (1, .inl v1)] [.inl s0, .inr s1] h (f_X12_mail_c13   h t0 v1 s0 s1) := by
  unfold f_X12_mail_c13
  refine nr_rcv (ks := [19]) (pre := [.inl s0]) (fun a1 hm => ?_)
  refine nr_doI (st := []) (nk_callV (q := (RX12, TX12, 45)) (ci := 12) (c_X12_holds (G := G) hl0 h a1 s0) dX12_mail_13 (List.mem_singleton.mp hm) rfl rfl my_X12_holds im_X12_holds se_RX12_X12_holds ml_RX12_143 rfl rfl (Nat.le_of_ble_eq_true rfl) (by decide) (by decide)) (fun h2 x3 => ?_)
  refine nr_if_eq (tgt := 27) dX12_mail_16 (by decide) (fun _ => ?_) (fun _ => ?_)
  · refine nr_iconst (v := 0) dX12_mail_27 (by decide) ?_
    exact nk_locals [] rfl (s_X12_mail_c28 hl0  h2 0)
  · refine nr_aload_n 0 dX12_mail_19 rfl ?_
    refine nr_iload_n 1 dX12_mail_20 rfl ?_
    refine nr_rcv (ks := [19]) (pre := [.inl v1]) (fun a4 hm => ?_)
    refine nr_doI (st := []) (nk_callV (q := (RX12, TX12, 45)) (ci := 12) (c_X12_unread (G := G) hl0 h2 a4 v1) dX12_mail_21 (List.mem_singleton.mp hm) rfl rfl my_X12_unread im_X12_unread se_RX12_X12_unread ml_RX12_159 rfl rfl (Nat.le_of_ble_eq_true rfl) (by decide) (by decide)) (fun h5 x6 => ?_)
    refine nr_goto (tgt := 28) dX12_mail_24 (by decide) ?_
    exact nk_locals [] rfl (s_X12_mail_c28 hl0  h5 x6)
set_option maxHeartbeats 4000000 in
theorem s_X12_mail {G : nk_G} {l : Launch} (hl0 : l.flags = flags0) (h : nk_H) (t0 : Nat) (v1 : Int32) : nk_Sim G l RX12 cX12_mail 2 (some FieldType.int) 2 42 false nk_eI 0 [(0, .inr (some t0)), (1, .inl v1)] [] h (f_X12_mail  h t0 v1) := by
  unfold f_X12_mail
  refine nr_aload_n 0 dX12_mail_0 rfl ?_
  refine nr_iload_n 1 dX12_mail_1 rfl ?_
  refine nr_doI (st := [.inr (some t0)]) (nk_callS (c_X12_isKiosk (G := G) hl0 h v1) dX12_mail_2 my_X12_isKiosk st_X12_isKiosk ml_RX12_131 rfl rfl (Nat.le_of_ble_eq_true rfl) (by decide) (by decide)) (fun h7 x8 => ?_)
  refine nr_if_eq (tgt := 12) dX12_mail_5 (by decide) (fun _ => ?_) (fun _ => ?_)
  · refine nr_iconst (v := 1) dX12_mail_12 (by decide) ?_
    exact s_X12_mail_c13 hl0  h7 t0 v1 1 (some t0)
  · refine nr_iconst (v := 0) dX12_mail_8 (by decide) ?_
    refine nr_goto (tgt := 13) dX12_mail_9 (by decide) ?_
    exact s_X12_mail_c13 hl0  h7 t0 v1 0 (some t0)
theorem c_X12_mail {G : nk_G} {l : Launch} (hl0 : l.flags = flags0) (h : nk_H) (t0 : Nat) (v1 : Int32) : nk_Con G l yX12_mail cX12_mail 2 (some FieldType.int) 2 42 nk_eI [.inr (some t0), .inl v1] h (f_X12_mail h t0 v1) :=
  nk_con (ini := false) (by decide) hl0 (Nat.le_of_ble_eq_true rfl) (by decide) (s_X12_mail hl0 h t0 v1)
set_option maxHeartbeats 4000000 in
theorem s_X12_source_c30 {G : nk_G} {l : Launch} (hl0 : l.flags = flags0)   (h : nk_H)  (s0 : Int32) : nk_Sim G l RX12 cX12_source 2 (some FieldType.int) 2 43 false nk_eI 30 [] [.inl s0] h (f_X12_source_c30   h  s0) := by
  unfold f_X12_source_c30
  exact nr_iret rfl rfl dX12_source_30
set_option maxHeartbeats 4000000 in
theorem s_X12_source_c14 {G : nk_G} {l : Launch} (hl0 : l.flags = flags0)   (h : nk_H) (t0 : Nat) (v1 : Int32) (s0 : Int32) (s1 : Option Nat) : nk_Sim G l RX12 cX12_source 2 (some FieldType.int) 2 43 false nk_eI 14 [(0, .inr (some t0)), (1, .inl v1)] [.inl s0, .inr s1] h (f_X12_source_c14   h t0 v1 s0 s1) := by
  unfold f_X12_source_c14
  refine nr_rcv (ks := [19]) (pre := [.inl s0]) (fun a1 hm => ?_)
  refine nr_doI (st := []) (nk_callV (q := (RX12, TX12, 45)) (ci := 12) (c_X12_holds (G := G) hl0 h a1 s0) dX12_source_14 (List.mem_singleton.mp hm) rfl rfl my_X12_holds im_X12_holds se_RX12_X12_holds ml_RX12_143 rfl rfl (Nat.le_of_ble_eq_true rfl) (by decide) (by decide)) (fun h2 x3 => ?_)
  refine nr_if_eq (tgt := 29) dX12_source_17 (by decide) (fun _ => ?_) (fun _ => ?_)
  · refine nr_iconst (v := 0) dX12_source_29 (by decide) ?_
    exact nk_locals [] rfl (s_X12_source_c30 hl0  h2 0)
  · refine nr_aload_n 0 dX12_source_20 rfl ?_
    refine nr_getP [19] 16 dX12_source_21 fk_RX12_47 (fun x4 => ?_)
    refine nr_iload_n 1 dX12_source_24 rfl ?_
    refine nr_iaload dX12_source_25 (fun x5 => ?_)
    refine nr_goto (tgt := 30) dX12_source_26 (by decide) ?_
    exact nk_locals [] rfl (s_X12_source_c30 hl0  h2 x5)
set_option maxHeartbeats 4000000 in
theorem s_X12_source {G : nk_G} {l : Launch} (hl0 : l.flags = flags0) (h : nk_H) (t0 : Nat) (v1 : Int32) : nk_Sim G l RX12 cX12_source 2 (some FieldType.int) 2 43 false nk_eI 0 [(0, .inr (some t0)), (1, .inl v1)] [] h (f_X12_source  h t0 v1) := by
  unfold f_X12_source
  refine nr_aload_n 0 dX12_source_0 rfl ?_
  refine nr_aload_n 0 dX12_source_1 rfl ?_
  refine nr_iload_n 1 dX12_source_2 rfl ?_
  refine nr_rcv (ks := [19]) (pre := [.inl v1]) (fun a6 hm => ?_)
  refine nr_doI (st := [.inr (some t0)]) (nk_callV (q := (RX12, TX12, 45)) (ci := 12) (c_X12_isPower (G := G) hl0 h a6 v1) dX12_source_3 (List.mem_singleton.mp hm) rfl rfl my_X12_isPower im_X12_isPower se_RX12_X12_isPower ml_RX12_217 rfl rfl (Nat.le_of_ble_eq_true rfl) (by decide) (by decide)) (fun h7 x8 => ?_)
  refine nr_if_eq (tgt := 13) dX12_source_6 (by decide) (fun _ => ?_) (fun _ => ?_)
  · refine nr_iconst (v := 1) dX12_source_13 (by decide) ?_
    exact s_X12_source_c14 hl0  h7 t0 v1 1 (some t0)
  · refine nr_iconst (v := 0) dX12_source_9 (by decide) ?_
    refine nr_goto (tgt := 14) dX12_source_10 (by decide) ?_
    exact s_X12_source_c14 hl0  h7 t0 v1 0 (some t0)
theorem c_X12_source {G : nk_G} {l : Launch} (hl0 : l.flags = flags0) (h : nk_H) (t0 : Nat) (v1 : Int32) : nk_Con G l yX12_source cX12_source 2 (some FieldType.int) 2 43 nk_eI [.inr (some t0), .inl v1] h (f_X12_source h t0 v1) :=
  nk_con (ini := false) (by decide) hl0 (Nat.le_of_ble_eq_true rfl) (by decide) (s_X12_source hl0 h t0 v1)
set_option maxHeartbeats 4000000 in
theorem s_X12_holder_c30 {G : nk_G} {l : Launch} (hl0 : l.flags = flags0)   (h : nk_H)  (s0 : Int32) : nk_Sim G l RX12 cX12_holder 2 (some FieldType.int) 2 43 false nk_eI 30 [] [.inl s0] h (f_X12_holder_c30   h  s0) := by
  unfold f_X12_holder_c30
  exact nr_iret rfl rfl dX12_holder_30
set_option maxHeartbeats 4000000 in
theorem s_X12_holder_c14 {G : nk_G} {l : Launch} (hl0 : l.flags = flags0)   (h : nk_H) (t0 : Nat) (v1 : Int32) (s0 : Int32) (s1 : Option Nat) : nk_Sim G l RX12 cX12_holder 2 (some FieldType.int) 2 43 false nk_eI 14 [(0, .inr (some t0)), (1, .inl v1)] [.inl s0, .inr s1] h (f_X12_holder_c14   h t0 v1 s0 s1) := by
  unfold f_X12_holder_c14
  refine nr_rcv (ks := [19]) (pre := [.inl s0]) (fun a1 hm => ?_)
  refine nr_doI (st := []) (nk_callV (q := (RX12, TX12, 45)) (ci := 12) (c_X12_holds (G := G) hl0 h a1 s0) dX12_holder_14 (List.mem_singleton.mp hm) rfl rfl my_X12_holds im_X12_holds se_RX12_X12_holds ml_RX12_143 rfl rfl (Nat.le_of_ble_eq_true rfl) (by decide) (by decide)) (fun h2 x3 => ?_)
  refine nr_if_eq (tgt := 29) dX12_holder_17 (by decide) (fun _ => ?_) (fun _ => ?_)
  · refine nr_iconst (v := 0) dX12_holder_29 (by decide) ?_
    exact nk_locals [] rfl (s_X12_holder_c30 hl0  h2 0)
  · refine nr_aload_n 0 dX12_holder_20 rfl ?_
    refine nr_getP [19] 15 dX12_holder_21 fk_RX12_44 (fun x4 => ?_)
    refine nr_iload_n 1 dX12_holder_24 rfl ?_
    refine nr_iaload dX12_holder_25 (fun x5 => ?_)
    refine nr_goto (tgt := 30) dX12_holder_26 (by decide) ?_
    exact nk_locals [] rfl (s_X12_holder_c30 hl0  h2 x5)
set_option maxHeartbeats 4000000 in
theorem s_X12_holder {G : nk_G} {l : Launch} (hl0 : l.flags = flags0) (h : nk_H) (t0 : Nat) (v1 : Int32) : nk_Sim G l RX12 cX12_holder 2 (some FieldType.int) 2 43 false nk_eI 0 [(0, .inr (some t0)), (1, .inl v1)] [] h (f_X12_holder  h t0 v1) := by
  unfold f_X12_holder
  refine nr_aload_n 0 dX12_holder_0 rfl ?_
  refine nr_aload_n 0 dX12_holder_1 rfl ?_
  refine nr_iload_n 1 dX12_holder_2 rfl ?_
  refine nr_rcv (ks := [19]) (pre := [.inl v1]) (fun a6 hm => ?_)
  refine nr_doI (st := [.inr (some t0)]) (nk_callV (q := (RX12, TX12, 45)) (ci := 12) (c_X12_isPower (G := G) hl0 h a6 v1) dX12_holder_3 (List.mem_singleton.mp hm) rfl rfl my_X12_isPower im_X12_isPower se_RX12_X12_isPower ml_RX12_217 rfl rfl (Nat.le_of_ble_eq_true rfl) (by decide) (by decide)) (fun h7 x8 => ?_)
  refine nr_if_eq (tgt := 13) dX12_holder_6 (by decide) (fun _ => ?_) (fun _ => ?_)
  · refine nr_iconst (v := 1) dX12_holder_13 (by decide) ?_
    exact s_X12_holder_c14 hl0  h7 t0 v1 1 (some t0)
  · refine nr_iconst (v := 0) dX12_holder_9 (by decide) ?_
    refine nr_goto (tgt := 14) dX12_holder_10 (by decide) ?_
    exact s_X12_holder_c14 hl0  h7 t0 v1 0 (some t0)
theorem c_X12_holder {G : nk_G} {l : Launch} (hl0 : l.flags = flags0) (h : nk_H) (t0 : Nat) (v1 : Int32) : nk_Con G l yX12_holder cX12_holder 2 (some FieldType.int) 2 43 nk_eI [.inr (some t0), .inl v1] h (f_X12_holder h t0 v1) :=
  nk_con (ini := false) (by decide) hl0 (Nat.le_of_ble_eq_true rfl) (by decide) (s_X12_holder hl0 h t0 v1)
set_option maxHeartbeats 4000000 in
theorem s_X12_isGood_c41 {G : nk_G} {l : Launch} (hl0 : l.flags = flags0)   (h : nk_H)  (s0 : Int32) : nk_Sim G l RX12 cX12_isGood 3 (some FieldType.boolean) 4 91 false nk_eI 41 [] [.inl s0] h (f_X12_isGood_c41   h  s0) := by
  unfold f_X12_isGood_c41
  exact nr_zret rfl rfl dX12_isGood_41
set_option maxHeartbeats 4000000 in
theorem s_X12_isGood_c40 {G : nk_G} {l : Launch} (hl0 : l.flags = flags0)   (h : nk_H)   : nk_Sim G l RX12 cX12_isGood 3 (some FieldType.boolean) 4 91 false nk_eI 40 [] [] h (f_X12_isGood_c40   h  ) := by
  unfold f_X12_isGood_c40
  refine nr_iconst (v := 0) dX12_isGood_40 (by decide) ?_
  exact s_X12_isGood_c41 hl0  h 0
set_option maxHeartbeats 4000000 in
theorem s_X12_isGood_c21 {G : nk_G} {l : Launch} (hl0 : l.flags = flags0)   (h : nk_H) (t0 : Nat) (v1 : Int32) (v2 : Int32) (s0 : Int32) (s1 : Option Nat) : nk_Sim G l RX12 cX12_isGood 3 (some FieldType.boolean) 4 91 false nk_eI 21 [(0, .inr (some t0)), (1, .inl v1), (2, .inl v2)] [.inl s0, .inr s1] h (f_X12_isGood_c21   h t0 v1 v2 s0 s1) := by
  unfold f_X12_isGood_c21
  refine nr_rcv (ks := [19]) (pre := [.inl s0]) (fun a1 hm => ?_)
  refine nr_doI (st := []) (nk_callV (q := (RX12, TX12, 45)) (ci := 12) (c_X12_holds (G := G) hl0 h a1 s0) dX12_isGood_21 (List.mem_singleton.mp hm) rfl rfl my_X12_holds im_X12_holds se_RX12_X12_holds ml_RX12_143 rfl rfl (Nat.le_of_ble_eq_true rfl) (by decide) (by decide)) (fun h2 x3 => ?_)
  refine nr_if_eq (tgt := 40) dX12_isGood_24 (by decide) (fun _ => ?_) (fun _ => ?_)
  · exact nk_locals [] rfl (s_X12_isGood_c40 hl0  h2)
  · refine nr_aload_n 0 dX12_isGood_27 rfl ?_
    refine nr_iload_n 1 dX12_isGood_28 rfl ?_
    refine nr_iload_n 2 dX12_isGood_29 rfl ?_
    refine nr_rcv (ks := [19]) (pre := [.inl v2, .inl v1]) (fun a4 hm => ?_)
    refine nr_doI (st := []) (nk_callV (q := (RX12, TX12, 45)) (ci := 12) (c_X12_isGoodAt (G := G) hl0 h2 a4 v1 v2) dX12_isGood_30 (List.mem_singleton.mp hm) rfl rfl my_X12_isGoodAt im_X12_isGoodAt se_RX12_X12_isGoodAt ml_RX12_223 rfl rfl (Nat.le_of_ble_eq_true rfl) (by decide) (by decide)) (fun h5 x6 => ?_)
    refine nr_if_eq (tgt := 40) dX12_isGood_33 (by decide) (fun _ => ?_) (fun _ => ?_)
    · exact nk_locals [] rfl (s_X12_isGood_c40 hl0  h5)
    · refine nr_iconst (v := 1) dX12_isGood_36 (by decide) ?_
      refine nr_goto (tgt := 41) dX12_isGood_37 (by decide) ?_
      exact nk_locals [] rfl (s_X12_isGood_c41 hl0  h5 1)
set_option maxHeartbeats 4000000 in
theorem s_X12_isGood_c20 {G : nk_G} {l : Launch} (hl0 : l.flags = flags0)   (h : nk_H) (t0 : Nat) (v1 : Int32) (v2 : Int32) (s0 : Option Nat) : nk_Sim G l RX12 cX12_isGood 3 (some FieldType.boolean) 4 91 false nk_eI 20 [(0, .inr (some t0)), (1, .inl v1), (2, .inl v2)] [.inr s0] h (f_X12_isGood_c20   h t0 v1 v2 s0) := by
  unfold f_X12_isGood_c20
  refine nr_iconst (v := 1) dX12_isGood_20 (by decide) ?_
  exact s_X12_isGood_c21 hl0  h t0 v1 v2 1 s0
set_option maxHeartbeats 4000000 in
theorem s_X12_isGood {G : nk_G} {l : Launch} (hl0 : l.flags = flags0) (h : nk_H) (t0 : Nat) (v1 : Int32) (v2 : Int32) : nk_Sim G l RX12 cX12_isGood 3 (some FieldType.boolean) 4 91 false nk_eI 0 [(0, .inr (some t0)), (1, .inl v1), (2, .inl v2)] [] h (f_X12_isGood  h t0 v1 v2) := by
  unfold f_X12_isGood
  refine nr_aload_n 0 dX12_isGood_0 rfl ?_
  refine nr_iload_n 1 dX12_isGood_1 rfl ?_
  refine nr_doI (st := [.inr (some t0)]) (nk_callS (c_X12_isKiosk (G := G) hl0 h v1) dX12_isGood_2 my_X12_isKiosk st_X12_isKiosk ml_RX12_131 rfl rfl (Nat.le_of_ble_eq_true rfl) (by decide) (by decide)) (fun h7 x8 => ?_)
  refine nr_if_eq (tgt := 20) dX12_isGood_5 (by decide) (fun _ => ?_) (fun _ => ?_)
  · exact s_X12_isGood_c20 hl0  h7 t0 v1 v2 (some t0)
  · refine nr_aload_n 0 dX12_isGood_8 rfl ?_
    refine nr_iload_n 2 dX12_isGood_9 rfl ?_
    refine nr_rcv (ks := [19]) (pre := [.inl v2]) (fun a9 hm => ?_)
    refine nr_doI (st := [.inr (some t0)]) (nk_callV (q := (RX12, TX12, 45)) (ci := 12) (c_X12_isPower (G := G) hl0 h7 a9 v2) dX12_isGood_10 (List.mem_singleton.mp hm) rfl rfl my_X12_isPower im_X12_isPower se_RX12_X12_isPower ml_RX12_217 rfl rfl (Nat.le_of_ble_eq_true rfl) (by decide) (by decide)) (fun h10 x11 => ?_)
    refine nr_if_eq (tgt := 20) dX12_isGood_13 (by decide) (fun _ => ?_) (fun _ => ?_)
    · exact s_X12_isGood_c20 hl0  h10 t0 v1 v2 (some t0)
    · refine nr_iconst (v := 0) dX12_isGood_16 (by decide) ?_
      refine nr_goto (tgt := 21) dX12_isGood_17 (by decide) ?_
      exact s_X12_isGood_c21 hl0  h10 t0 v1 v2 0 (some t0)
theorem c_X12_isGood {G : nk_G} {l : Launch} (hl0 : l.flags = flags0) (h : nk_H) (t0 : Nat) (v1 : Int32) (v2 : Int32) : nk_Con G l yX12_isGood cX12_isGood 3 (some FieldType.boolean) 4 91 nk_eI [.inr (some t0), .inl v1, .inl v2] h (f_X12_isGood h t0 v1 v2) :=
  nk_con (ini := false) (by decide) hl0 (Nat.le_of_ble_eq_true rfl) (by decide) (s_X12_isGood hl0 h t0 v1 v2)
set_option maxHeartbeats 4000000 in
theorem s_X12_done_c37 {G : nk_G} {l : Launch} (hl0 : l.flags = flags0)   (h : nk_H)  (s0 : Int32) : nk_Sim G l RX12 cX12_done 3 (some FieldType.int) 3 70 false nk_eI 37 [] [.inl s0] h (f_X12_done_c37   h  s0) := by
  unfold f_X12_done_c37
  exact nr_iret rfl rfl dX12_done_37
set_option maxHeartbeats 4000000 in
theorem s_X12_done_c21 {G : nk_G} {l : Launch} (hl0 : l.flags = flags0)   (h : nk_H) (t0 : Nat) (v1 : Int32) (v2 : Int32) (s0 : Int32) (s1 : Option Nat) : nk_Sim G l RX12 cX12_done 3 (some FieldType.int) 3 70 false nk_eI 21 [(0, .inr (some t0)), (1, .inl v1), (2, .inl v2)] [.inl s0, .inr s1] h (f_X12_done_c21   h t0 v1 v2 s0 s1) := by
  unfold f_X12_done_c21
  refine nr_rcv (ks := [19]) (pre := [.inl s0]) (fun a1 hm => ?_)
  refine nr_doI (st := []) (nk_callV (q := (RX12, TX12, 45)) (ci := 12) (c_X12_holds (G := G) hl0 h a1 s0) dX12_done_21 (List.mem_singleton.mp hm) rfl rfl my_X12_holds im_X12_holds se_RX12_X12_holds ml_RX12_143 rfl rfl (Nat.le_of_ble_eq_true rfl) (by decide) (by decide)) (fun h2 x3 => ?_)
  refine nr_if_eq (tgt := 36) dX12_done_24 (by decide) (fun _ => ?_) (fun _ => ?_)
  · refine nr_iconst (v := 0) dX12_done_36 (by decide) ?_
    exact nk_locals [] rfl (s_X12_done_c37 hl0  h2 0)
  · refine nr_aload_n 0 dX12_done_27 rfl ?_
    refine nr_iload_n 1 dX12_done_28 rfl ?_
    refine nr_iload_n 2 dX12_done_29 rfl ?_
    refine nr_rcv (ks := [19]) (pre := [.inl v2, .inl v1]) (fun a4 hm => ?_)
    refine nr_doI (st := []) (nk_callV (q := (RX12, TX12, 45)) (ci := 12) (c_X12_doneWith (G := G) hl0 h2 a4 v1 v2) dX12_done_30 (List.mem_singleton.mp hm) rfl rfl my_X12_doneWith im_X12_doneWith se_RX12_X12_doneWith ml_RX12_169 rfl rfl (Nat.le_of_ble_eq_true rfl) (by decide) (by decide)) (fun h5 x6 => ?_)
    refine nr_goto (tgt := 37) dX12_done_33 (by decide) ?_
    exact nk_locals [] rfl (s_X12_done_c37 hl0  h5 x6)
set_option maxHeartbeats 4000000 in
theorem s_X12_done_c20 {G : nk_G} {l : Launch} (hl0 : l.flags = flags0)   (h : nk_H) (t0 : Nat) (v1 : Int32) (v2 : Int32) (s0 : Option Nat) : nk_Sim G l RX12 cX12_done 3 (some FieldType.int) 3 70 false nk_eI 20 [(0, .inr (some t0)), (1, .inl v1), (2, .inl v2)] [.inr s0] h (f_X12_done_c20   h t0 v1 v2 s0) := by
  unfold f_X12_done_c20
  refine nr_iconst (v := 1) dX12_done_20 (by decide) ?_
  exact s_X12_done_c21 hl0  h t0 v1 v2 1 s0
set_option maxHeartbeats 4000000 in
theorem s_X12_done {G : nk_G} {l : Launch} (hl0 : l.flags = flags0) (h : nk_H) (t0 : Nat) (v1 : Int32) (v2 : Int32) : nk_Sim G l RX12 cX12_done 3 (some FieldType.int) 3 70 false nk_eI 0 [(0, .inr (some t0)), (1, .inl v1), (2, .inl v2)] [] h (f_X12_done  h t0 v1 v2) := by
  unfold f_X12_done
  refine nr_aload_n 0 dX12_done_0 rfl ?_
  refine nr_iload_n 1 dX12_done_1 rfl ?_
  refine nr_doI (st := [.inr (some t0)]) (nk_callS (c_X12_isKiosk (G := G) hl0 h v1) dX12_done_2 my_X12_isKiosk st_X12_isKiosk ml_RX12_131 rfl rfl (Nat.le_of_ble_eq_true rfl) (by decide) (by decide)) (fun h7 x8 => ?_)
  refine nr_if_eq (tgt := 20) dX12_done_5 (by decide) (fun _ => ?_) (fun _ => ?_)
  · exact s_X12_done_c20 hl0  h7 t0 v1 v2 (some t0)
  · refine nr_aload_n 0 dX12_done_8 rfl ?_
    refine nr_iload_n 2 dX12_done_9 rfl ?_
    refine nr_rcv (ks := [19]) (pre := [.inl v2]) (fun a9 hm => ?_)
    refine nr_doI (st := [.inr (some t0)]) (nk_callV (q := (RX12, TX12, 45)) (ci := 12) (c_X12_isPower (G := G) hl0 h7 a9 v2) dX12_done_10 (List.mem_singleton.mp hm) rfl rfl my_X12_isPower im_X12_isPower se_RX12_X12_isPower ml_RX12_217 rfl rfl (Nat.le_of_ble_eq_true rfl) (by decide) (by decide)) (fun h10 x11 => ?_)
    refine nr_if_eq (tgt := 20) dX12_done_13 (by decide) (fun _ => ?_) (fun _ => ?_)
    · exact s_X12_done_c20 hl0  h10 t0 v1 v2 (some t0)
    · refine nr_iconst (v := 0) dX12_done_16 (by decide) ?_
      refine nr_goto (tgt := 21) dX12_done_17 (by decide) ?_
      exact s_X12_done_c21 hl0  h10 t0 v1 v2 0 (some t0)
theorem c_X12_done {G : nk_G} {l : Launch} (hl0 : l.flags = flags0) (h : nk_H) (t0 : Nat) (v1 : Int32) (v2 : Int32) : nk_Con G l yX12_done cX12_done 3 (some FieldType.int) 3 70 nk_eI [.inr (some t0), .inl v1, .inl v2] h (f_X12_done h t0 v1 v2) :=
  nk_con (ini := false) (by decide) hl0 (Nat.le_of_ble_eq_true rfl) (by decide) (s_X12_done hl0 h t0 v1 v2)
