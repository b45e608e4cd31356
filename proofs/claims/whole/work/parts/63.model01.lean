set_option maxHeartbeats 4000000 in
theorem s_X12_isInLine_c32 {G : nk_G} {l : Launch} (hl0 : l.flags = flags0)   (h : nk_H)  (s0 : Int32) : nk_Sim G l RX12 cX12_isInLine 4 (some FieldType.boolean) 0 0 false nk_eI 32 [] [.inl s0] h (f_X12_isInLine_c32   h  s0) := by
  unfold f_X12_isInLine_c32
  exact nr_zret rfl rfl dX12_isInLine_32
set_option maxHeartbeats 4000000 in
theorem s_X12_isInLine_c22 {G : nk_G} {l : Launch} (hl0 : l.flags = flags0)   (h : nk_H) (v1 : Int32) (v3 : Int32)  : nk_Sim G l RX12 cX12_isInLine 4 (some FieldType.boolean) 0 0 false nk_eI 22 [(1, .inl v1), (3, .inl v3)] [] h (f_X12_isInLine_c22   h v1 v3 ) := by
  unfold f_X12_isInLine_c22
  refine nr_iload_n 1 dX12_isInLine_22 rfl ?_
  refine nr_iload_n 0 dX12_isInLine_23 rfl ?_
  refine nr_icmp_ne (tgt := 31) dX12_isInLine_24 (by decide) (fun _ => ?_) (fun _ => ?_)
  · refine nr_iconst (v := 1) dX12_isInLine_27 (by decide) ?_
    refine nr_goto (tgt := 32) dX12_isInLine_28 (by decide) ?_
    exact nk_locals [] rfl (s_X12_isInLine_c32 hl0  h 1)
  · refine nr_iconst (v := 0) dX12_isInLine_31 (by decide) ?_
    exact nk_locals [] rfl (s_X12_isInLine_c32 hl0  h 0)
set_option maxHeartbeats 4000000 in
theorem s_X12_isInLine_c2 {G : nk_G} {l : Launch} (hl0 : l.flags = flags0) {r2 : nk_H → Nat → Int32 → Int32 → Option (nk_H × Int32)} (hr2 : ∀ (h : nk_H) (t0 : Nat) (v1 : Int32) (v3 : Int32), nk_Sim G l RX12 cX12_isInLine 4 (some FieldType.boolean) 0 0 false nk_eI 2 [(0, .inr (some t0)), (1, .inl v1), (3, .inl v3)] [] h (r2 h t0 v1 v3)) (h : nk_H) (t0 : Nat) (v1 : Int32) (v3 : Int32)  : nk_Sim G l RX12 cX12_isInLine 4 (some FieldType.boolean) 0 0 false nk_eI 2 [(0, .inr (some t0)), (1, .inl v1), (3, .inl v3)] [] h (f_X12_isInLine_c2  r2 h t0 v1 v3 ) := by
  unfold f_X12_isInLine_c2
  refine nr_iload_n 2 dX12_isInLine_2 rfl ?_
  refine nr_iconst (v := (-1)) dX12_isInLine_3 (by decide) ?_
  refine nr_icmp_eq (tgt := 22) dX12_isInLine_4 (by decide) (fun _ => ?_) (fun _ => ?_)
  · exact nk_locals [1, 2] rfl (s_X12_isInLine_c22 hl0  h v1 v3)
  · refine nr_iload_n 2 dX12_isInLine_7 rfl ?_
    refine nr_iload_n 1 dX12_isInLine_8 rfl ?_
    refine nr_icmp_eq (tgt := 22) dX12_isInLine_9 (by decide) (fun _ => ?_) (fun _ => ?_)
    · exact nk_locals [1, 2] rfl (s_X12_isInLine_c22 hl0  h v1 v3)
    · refine nr_aload_n 0 dX12_isInLine_12 rfl ?_
      refine nr_getP [19] 16 dX12_isInLine_13 fk_RX12_47 (fun x1 => ?_)
      refine nr_iload_n 2 dX12_isInLine_16 rfl ?_
      refine nr_iaload dX12_isInLine_17 (fun x2 => ?_)
      refine nr_istore_n (lv2 := [(3, .inl x2), (0, .inr (some t0)), (1, .inl v1)]) dX12_isInLine_18 (by decide) rfl ?_
      refine nr_goto (tgt := 2) dX12_isInLine_19 (by decide) ?_
      exact nk_locals [1, 2, 0] rfl (hr2 h t0 v1 x2)
theorem s_X12_isInLine_b2 {G : nk_G} {l : Launch} (hl0 : l.flags = flags0)   : ∀ (n : Nat) (h : nk_H) (t0 : Nat) (v1 : Int32) (v3 : Int32), nk_Sim G l RX12 cX12_isInLine 4 (some FieldType.boolean) 0 0 false nk_eI 2 [(0, .inr (some t0)), (1, .inl v1), (3, .inl v3)] [] h (f_X12_isInLine_b2   n h t0 v1 v3)
  | 0, _, _, _, _ => nk_none
  | n + 1, h, t0, v1, v3 => s_X12_isInLine_c2 hl0 (s_X12_isInLine_b2 hl0  n) h t0 v1 v3
set_option maxHeartbeats 4000000 in
theorem s_X12_isInLine {G : nk_G} {l : Launch} (hl0 : l.flags = flags0) (h : nk_H) (t0 : Nat) (v1 : Int32) (v2 : Int32) : nk_Sim G l RX12 cX12_isInLine 4 (some FieldType.boolean) 0 0 false nk_eI 0 [(0, .inr (some t0)), (1, .inl v1), (2, .inl v2)] [] h (f_X12_isInLine  h t0 v1 v2) := by
  unfold f_X12_isInLine
  refine nr_iload_n 2 dX12_isInLine_0 rfl ?_
  refine nr_istore_n (lv2 := [(3, .inl v2), (0, .inr (some t0)), (1, .inl v1), (2, .inl v2)]) dX12_isInLine_1 (by decide) rfl ?_
  exact nk_locals [1, 2, 0] rfl (s_X12_isInLine_b2 hl0  4096 h t0 v1 v2)
theorem c_X12_isInLine {G : nk_G} {l : Launch} (hl0 : l.flags = flags0) (h : nk_H) (t0 : Nat) (v1 : Int32) (v2 : Int32) : nk_Con G l yX12_isInLine cX12_isInLine 4 (some FieldType.boolean) 0 0 nk_eI [.inr (some t0), .inl v1, .inl v2] h (f_X12_isInLine h t0 v1 v2) :=
  nk_con (ini := false) (by decide) hl0 (Nat.le_of_ble_eq_true rfl) (by decide) (s_X12_isInLine hl0 h t0 v1 v2)
set_option maxHeartbeats 4000000 in
theorem s_X12_isKnown_c2 {G : nk_G} {l : Launch} (hl0 : l.flags = flags0) {r2 : nk_H → Nat → Int32 → Int32 → Option (nk_H × Int32)} (hr2 : ∀ (h : nk_H) (t0 : Nat) (v1 : Int32) (v3 : Int32), nk_Sim G l RX12 cX12_isKnown 4 (some FieldType.boolean) 2 46 false nk_eI 2 [(0, .inr (some t0)), (1, .inl v1), (3, .inl v3)] [] h (r2 h t0 v1 v3)) (h : nk_H) (t0 : Nat) (v1 : Int32) (v3 : Int32)  : nk_Sim G l RX12 cX12_isKnown 4 (some FieldType.boolean) 2 46 false nk_eI 2 [(0, .inr (some t0)), (1, .inl v1), (3, .inl v3)] [] h (f_X12_isKnown_c2  r2 h t0 v1 v3 ) := by
  unfold f_X12_isKnown_c2
  refine nr_iload_n 2 dX12_isKnown_2 rfl ?_
  refine nr_iconst (v := (-1)) dX12_isKnown_3 (by decide) ?_
  refine nr_icmp_eq (tgt := 33) dX12_isKnown_4 (by decide) (fun _ => ?_) (fun _ => ?_)
  · refine nr_iconst (v := 1) dX12_isKnown_33 (by decide) ?_
    exact nr_zret rfl rfl dX12_isKnown_34
  · refine nr_aload_n 0 dX12_isKnown_7 rfl ?_
    refine nr_iload_n 1 dX12_isKnown_8 rfl ?_
    refine nr_aload_n 0 dX12_isKnown_9 rfl ?_
    refine nr_getP [19] 13 dX12_isKnown_10 fk_RX12_38 (fun x1 => ?_)
    refine nr_iload_n 2 dX12_isKnown_13 rfl ?_
    refine nr_iaload dX12_isKnown_14 (fun x2 => ?_)
    refine nr_rcv (ks := [19]) (pre := [.inl x2, .inl v1]) (fun a3 hm => ?_)
    refine nr_doI (st := []) (nk_callV (q := (RX12, TX12, 45)) (ci := 12) (c_X12_has (G := G) hl0 h a3 v1 x2) dX12_isKnown_15 (List.mem_singleton.mp hm) rfl rfl my_X12_has im_X12_has se_RX12_X12_has ml_RX12_162 rfl rfl (Nat.le_of_ble_eq_true rfl) (by decide) (by decide)) (fun h4 x5 => ?_)
    refine nr_if_ne (tgt := 23) dX12_isKnown_18 (by decide) (fun _ => ?_) (fun _ => ?_)
    · refine nr_iconst (v := 0) dX12_isKnown_21 (by decide) ?_
      exact nr_zret rfl rfl dX12_isKnown_22
    · refine nr_aload_n 0 dX12_isKnown_23 rfl ?_
      refine nr_getP [19] 16 dX12_isKnown_24 fk_RX12_47 (fun x6 => ?_)
      refine nr_iload_n 2 dX12_isKnown_27 rfl ?_
      refine nr_iaload dX12_isKnown_28 (fun x7 => ?_)
      refine nr_istore_n (lv2 := [(3, .inl x7), (0, .inr (some t0)), (1, .inl v1)]) dX12_isKnown_29 (by decide) rfl ?_
      refine nr_goto (tgt := 2) dX12_isKnown_30 (by decide) ?_
      exact nk_locals [1, 2, 0] rfl (hr2 h4 t0 v1 x7)
theorem s_X12_isKnown_b2 {G : nk_G} {l : Launch} (hl0 : l.flags = flags0)   : ∀ (n : Nat) (h : nk_H) (t0 : Nat) (v1 : Int32) (v3 : Int32), nk_Sim G l RX12 cX12_isKnown 4 (some FieldType.boolean) 2 46 false nk_eI 2 [(0, .inr (some t0)), (1, .inl v1), (3, .inl v3)] [] h (f_X12_isKnown_b2   n h t0 v1 v3)
  | 0, _, _, _, _ => nk_none
  | n + 1, h, t0, v1, v3 => s_X12_isKnown_c2 hl0 (s_X12_isKnown_b2 hl0  n) h t0 v1 v3
set_option maxHeartbeats 4000000 in
theorem s_X12_isKnown {G : nk_G} {l : Launch} (hl0 : l.flags = flags0) (h : nk_H) (t0 : Nat) (v1 : Int32) (v2 : Int32) : nk_Sim G l RX12 cX12_isKnown 4 (some FieldType.boolean) 2 46 false nk_eI 0 [(0, .inr (some t0)), (1, .inl v1), (2, .inl v2)] [] h (f_X12_isKnown  h t0 v1 v2) := by
  unfold f_X12_isKnown
  refine nr_iload_n 2 dX12_isKnown_0 rfl ?_
  refine nr_istore_n (lv2 := [(3, .inl v2), (0, .inr (some t0)), (1, .inl v1), (2, .inl v2)]) dX12_isKnown_1 (by decide) rfl ?_
  exact nk_locals [1, 2, 0] rfl (s_X12_isKnown_b2 hl0  4096 h t0 v1 v2)
theorem c_X12_isKnown {G : nk_G} {l : Launch} (hl0 : l.flags = flags0) (h : nk_H) (t0 : Nat) (v1 : Int32) (v2 : Int32) : nk_Con G l yX12_isKnown cX12_isKnown 4 (some FieldType.boolean) 2 46 nk_eI [.inr (some t0), .inl v1, .inl v2] h (f_X12_isKnown h t0 v1 v2) :=
  nk_con (ini := false) (by decide) hl0 (Nat.le_of_ble_eq_true rfl) (by decide) (s_X12_isKnown hl0 h t0 v1 v2)
set_option maxHeartbeats 4000000 in
theorem s_X12_isRevoked_c45 {G : nk_G} {l : Launch} (hl0 : l.flags = flags0) {r2 : nk_H → Nat → Int32 → Int32 → Int32 → Option (nk_H × Int32)} (hr2 : ∀ (h : nk_H) (t0 : Nat) (v1 : Int32) (v2 : Int32) (v3 : Int32), nk_Sim G l RX12 cX12_isRevoked 4 (some FieldType.boolean) 2 46 false nk_eI 2 [(0, .inr (some t0)), (1, .inl v1), (2, .inl v2), (3, .inl v3)] [] h (r2 h t0 v1 v2 v3)) (h : nk_H) (t0 : Nat) (v1 : Int32) (v2 : Int32) (v3 : Int32)  : nk_Sim G l RX12 cX12_isRevoked 4 (some FieldType.boolean) 2 46 false nk_eI 45 [(0, .inr (some t0)), (1, .inl v1), (2, .inl v2), (3, .inl v3)] [] h (f_X12_isRevoked_c45  r2 h t0 v1 v2 v3 ) := by
  unfold f_X12_isRevoked_c45
  refine nr_iinc (lv2 := [(3, .inl (v3 + 1)), (0, .inr (some t0)), (1, .inl v1), (2, .inl v2)]) 3 (v3 + 1) dX12_isRevoked_45 rfl (by rfl) (by decide) rfl ?_
  refine nr_goto (tgt := 2) dX12_isRevoked_48 (by decide) ?_
  exact nk_locals [1, 2, 3, 0] rfl (hr2 h t0 v1 v2 (v3 + 1))
set_option maxHeartbeats 4000000 in
theorem s_X12_isRevoked_c2 {G : nk_G} {l : Launch} (hl0 : l.flags = flags0) {r2 : nk_H → Nat → Int32 → Int32 → Int32 → Option (nk_H × Int32)} (hr2 : ∀ (h : nk_H) (t0 : Nat) (v1 : Int32) (v2 : Int32) (v3 : Int32), nk_Sim G l RX12 cX12_isRevoked 4 (some FieldType.boolean) 2 46 false nk_eI 2 [(0, .inr (some t0)), (1, .inl v1), (2, .inl v2), (3, .inl v3)] [] h (r2 h t0 v1 v2 v3)) (h : nk_H) (t0 : Nat) (v1 : Int32) (v2 : Int32) (v3 : Int32)  : nk_Sim G l RX12 cX12_isRevoked 4 (some FieldType.boolean) 2 46 false nk_eI 2 [(0, .inr (some t0)), (1, .inl v1), (2, .inl v2), (3, .inl v3)] [] h (f_X12_isRevoked_c2  r2 h t0 v1 v2 v3 ) := by
  unfold f_X12_isRevoked_c2
  refine nr_iload_n 3 dX12_isRevoked_2 rfl ?_
  refine nr_aload_n 0 dX12_isRevoked_3 rfl ?_
  refine nr_getI [19] 3 dX12_isRevoked_4 fk_RX12_153 (fun x1 => ?_)
  refine nr_icmp_ge (tgt := 51) dX12_isRevoked_7 (by decide) (fun _ => ?_) (fun _ => ?_)
  · refine nr_iconst (v := 0) dX12_isRevoked_51 (by decide) ?_
    exact nr_zret rfl rfl dX12_isRevoked_52
  · refine nr_aload_n 0 dX12_isRevoked_10 rfl ?_
    refine nr_getP [19] 4 dX12_isRevoked_11 fk_RX12_13 (fun x2 => ?_)
    refine nr_iload_n 3 dX12_isRevoked_14 rfl ?_
    refine nr_iaload dX12_isRevoked_15 (fun x3 => ?_)
    refine nr_iconst (v := 1) dX12_isRevoked_16 (by decide) ?_
    refine nr_icmp_ne (tgt := 45) dX12_isRevoked_17 (by decide) (fun _ => ?_) (fun _ => ?_)
    · refine nr_aload_n 0 dX12_isRevoked_20 rfl ?_
      refine nr_aload_n 0 dX12_isRevoked_21 rfl ?_
      refine nr_getP [19] 7 dX12_isRevoked_22 fk_RX12_22 (fun x4 => ?_)
      refine nr_iload_n 3 dX12_isRevoked_25 rfl ?_
      refine nr_iaload dX12_isRevoked_26 (fun x5 => ?_)
      refine nr_iload_n 2 dX12_isRevoked_27 rfl ?_
      refine nr_rcv (ks := [19]) (pre := [.inl v2, .inl x5]) (fun a6 hm => ?_)
      refine nr_doI (st := []) (nk_callV (q := (RX12, TX12, 45)) (ci := 12) (c_X12_isInLine (G := G) hl0 h a6 x5 v2) dX12_isRevoked_28 (List.mem_singleton.mp hm) rfl rfl my_X12_isInLine im_X12_isInLine se_RX12_X12_isInLine ml_RX12_166 rfl rfl (Nat.le_of_ble_eq_true rfl) (by decide) (by decide)) (fun h7 x8 => ?_)
      refine nr_if_eq (tgt := 45) dX12_isRevoked_31 (by decide) (fun _ => ?_) (fun _ => ?_)
      · exact s_X12_isRevoked_c45 hl0 hr2 h7 t0 v1 v2 v3
      · refine nr_aload_n 0 dX12_isRevoked_34 rfl ?_
        refine nr_iload_n 1 dX12_isRevoked_35 rfl ?_
        refine nr_iload_n 3 dX12_isRevoked_36 rfl ?_
        refine nr_rcv (ks := [19]) (pre := [.inl v3, .inl v1]) (fun a9 hm => ?_)
        refine nr_doI (st := []) (nk_callV (q := (RX12, TX12, 45)) (ci := 12) (c_X12_has (G := G) hl0 h7 a9 v1 v3) dX12_isRevoked_37 (List.mem_singleton.mp hm) rfl rfl my_X12_has im_X12_has se_RX12_X12_has ml_RX12_162 rfl rfl (Nat.le_of_ble_eq_true rfl) (by decide) (by decide)) (fun h10 x11 => ?_)
        refine nr_if_eq (tgt := 45) dX12_isRevoked_40 (by decide) (fun _ => ?_) (fun _ => ?_)
        · exact s_X12_isRevoked_c45 hl0 hr2 h10 t0 v1 v2 v3
        · refine nr_iconst (v := 1) dX12_isRevoked_43 (by decide) ?_
          exact nr_zret rfl rfl dX12_isRevoked_44
    · exact s_X12_isRevoked_c45 hl0 hr2 h t0 v1 v2 v3
theorem s_X12_isRevoked_b2 {G : nk_G} {l : Launch} (hl0 : l.flags = flags0)   : ∀ (n : Nat) (h : nk_H) (t0 : Nat) (v1 : Int32) (v2 : Int32) (v3 : Int32), nk_Sim G l RX12 cX12_isRevoked 4 (some FieldType.boolean) 2 46 false nk_eI 2 [(0, .inr (some t0)), (1, .inl v1), (2, .inl v2), (3, .inl v3)] [] h (f_X12_isRevoked_b2   n h t0 v1 v2 v3)
  | 0, _, _, _, _, _ => nk_none
  | n + 1, h, t0, v1, v2, v3 => s_X12_isRevoked_c2 hl0 (s_X12_isRevoked_b2 hl0  n) h t0 v1 v2 v3
set_option maxHeartbeats 4000000 in
theorem s_X12_isRevoked {G : nk_G} {l : Launch} (hl0 : l.flags = flags0) (h : nk_H) (t0 : Nat) (v1 : Int32) (v2 : Int32) : nk_Sim G l RX12 cX12_isRevoked 4 (some FieldType.boolean) 2 46 false nk_eI 0 [(0, .inr (some t0)), (1, .inl v1), (2, .inl v2)] [] h (f_X12_isRevoked  h t0 v1 v2) := by
  unfold f_X12_isRevoked
  refine nr_iconst (v := 0) dX12_isRevoked_0 (by decide) ?_
  refine nr_istore_n (lv2 := [(3, .inl 0), (0, .inr (some t0)), (1, .inl v1), (2, .inl v2)]) dX12_isRevoked_1 (by decide) rfl ?_
  exact nk_locals [1, 2, 3, 0] rfl (s_X12_isRevoked_b2 hl0  4096 h t0 v1 v2 0)
theorem c_X12_isRevoked {G : nk_G} {l : Launch} (hl0 : l.flags = flags0) (h : nk_H) (t0 : Nat) (v1 : Int32) (v2 : Int32) : nk_Con G l yX12_isRevoked cX12_isRevoked 4 (some FieldType.boolean) 2 46 nk_eI [.inr (some t0), .inl v1, .inl v2] h (f_X12_isRevoked h t0 v1 v2) :=
  nk_con (ini := false) (by decide) hl0 (Nat.le_of_ble_eq_true rfl) (by decide) (s_X12_isRevoked hl0 h t0 v1 v2)
set_option maxHeartbeats 4000000 in
theorem s_X12_isOver_c2 {G : nk_G} {l : Launch} (hl0 : l.flags = flags0) {r2 : nk_H → Nat → Int32 → Int32 → Option (nk_H × Int32)} (hr2 : ∀ (h : nk_H) (t0 : Nat) (v2 : Int32) (v3 : Int32), nk_Sim G l RX12 cX12_isOver 4 (some FieldType.boolean) 0 0 false nk_eI 2 [(0, .inr (some t0)), (2, .inl v2), (3, .inl v3)] [] h (r2 h t0 v2 v3)) (h : nk_H) (t0 : Nat) (v2 : Int32) (v3 : Int32)  : nk_Sim G l RX12 cX12_isOver 4 (some FieldType.boolean) 0 0 false nk_eI 2 [(0, .inr (some t0)), (2, .inl v2), (3, .inl v3)] [] h (f_X12_isOver_c2  r2 h t0 v2 v3 ) := by
  unfold f_X12_isOver_c2
  refine nr_iload_n 2 dX12_isOver_2 rfl ?_
  refine nr_iconst (v := (-1)) dX12_isOver_3 (by decide) ?_
  refine nr_icmp_eq (tgt := 29) dX12_isOver_4 (by decide) (fun _ => ?_) (fun _ => ?_)
  · refine nr_iconst (v := 0) dX12_isOver_29 (by decide) ?_
    exact nr_zret rfl rfl dX12_isOver_30
  · refine nr_iload_n 1 dX12_isOver_7 rfl ?_
    refine nr_aload_n 0 dX12_isOver_8 rfl ?_
    refine nr_getP [19] 20 dX12_isOver_9 fk_RX12_59 (fun x1 => ?_)
    refine nr_iload_n 2 dX12_isOver_12 rfl ?_
    refine nr_iaload dX12_isOver_13 (fun x2 => ?_)
    refine nr_icmp_le (tgt := 19) dX12_isOver_14 (by decide) (fun _ => ?_) (fun _ => ?_)
    · refine nr_aload_n 0 dX12_isOver_19 rfl ?_
      refine nr_getP [19] 16 dX12_isOver_20 fk_RX12_47 (fun x3 => ?_)
      refine nr_iload_n 2 dX12_isOver_23 rfl ?_
      refine nr_iaload dX12_isOver_24 (fun x4 => ?_)
      refine nr_istore_n (lv2 := [(3, .inl x4), (0, .inr (some t0)), (2, .inl v2)]) dX12_isOver_25 (by decide) rfl ?_
      refine nr_goto (tgt := 2) dX12_isOver_26 (by decide) ?_
      exact nk_locals [1, 2, 0] rfl (hr2 h t0 v2 x4)
    · refine nr_iconst (v := 1) dX12_isOver_17 (by decide) ?_
      exact nr_zret rfl rfl dX12_isOver_18
theorem s_X12_isOver_b2 {G : nk_G} {l : Launch} (hl0 : l.flags = flags0)   : ∀ (n : Nat) (h : nk_H) (t0 : Nat) (v2 : Int32) (v3 : Int32), nk_Sim G l RX12 cX12_isOver 4 (some FieldType.boolean) 0 0 false nk_eI 2 [(0, .inr (some t0)), (2, .inl v2), (3, .inl v3)] [] h (f_X12_isOver_b2   n h t0 v2 v3)
  | 0, _, _, _, _ => nk_none
  | n + 1, h, t0, v2, v3 => s_X12_isOver_c2 hl0 (s_X12_isOver_b2 hl0  n) h t0 v2 v3
set_option maxHeartbeats 4000000 in
theorem s_X12_isOver {G : nk_G} {l : Launch} (hl0 : l.flags = flags0) (h : nk_H) (t0 : Nat) (v1 : Int32) (v2 : Int32) : nk_Sim G l RX12 cX12_isOver 4 (some FieldType.boolean) 0 0 false nk_eI 0 [(0, .inr (some t0)), (1, .inl v1), (2, .inl v2)] [] h (f_X12_isOver  h t0 v1 v2) := by
  unfold f_X12_isOver
  refine nr_iload_n 1 dX12_isOver_0 rfl ?_
  refine nr_istore_n (lv2 := [(3, .inl v1), (0, .inr (some t0)), (1, .inl v1), (2, .inl v2)]) dX12_isOver_1 (by decide) rfl ?_
  exact nk_locals [1, 3, 0] rfl (s_X12_isOver_b2 hl0  4096 h t0 v2 v1)
theorem c_X12_isOver {G : nk_G} {l : Launch} (hl0 : l.flags = flags0) (h : nk_H) (t0 : Nat) (v1 : Int32) (v2 : Int32) : nk_Con G l yX12_isOver cX12_isOver 4 (some FieldType.boolean) 0 0 nk_eI [.inr (some t0), .inl v1, .inl v2] h (f_X12_isOver h t0 v1 v2) :=
  nk_con (ini := false) (by decide) hl0 (Nat.le_of_ble_eq_true rfl) (by decide) (s_X12_isOver hl0 h t0 v1 v2)
set_option maxHeartbeats 4000000 in
theorem s_X12_doneWith_c75 {G : nk_G} {l : Launch} (hl0 : l.flags = flags0) {r5 : nk_H → Nat → Int32 → Int32 → Int32 → Int32 → Option (nk_H × Int32)} (hr5 : ∀ (h : nk_H) (t0 : Nat) (v1 : Int32) (v2 : Int32) (v3 : Int32) (v4 : Int32), nk_Sim G l RX12 cX12_doneWith 5 (some FieldType.int) 2 46 false nk_eI 5 [(0, .inr (some t0)), (1, .inl v1), (2, .inl v2), (3, .inl v3), (4, .inl v4)] [] h (r5 h t0 v1 v2 v3 v4)) (h : nk_H) (t0 : Nat) (v1 : Int32) (v2 : Int32) (v3 : Int32) (v4 : Int32)  : nk_Sim G l RX12 cX12_doneWith 5 (some FieldType.int) 2 46 false nk_eI 75 [(0, .inr (some t0)), (1, .inl v1), (2, .inl v2), (3, .inl v3), (4, .inl v4)] [] h (f_X12_doneWith_c75  r5 h t0 v1 v2 v3 v4 ) := by
  unfold f_X12_doneWith_c75
  refine nr_iinc (lv2 := [(4, .inl (v4 + 1)), (0, .inr (some t0)), (1, .inl v1), (2, .inl v2), (3, .inl v3)]) 4 (v4 + 1) dX12_doneWith_75 rfl (by rfl) (by decide) rfl ?_
  refine nr_goto (tgt := 5) dX12_doneWith_78 (by decide) ?_
  exact nk_locals [1, 2, 3, 4, 0] rfl (hr5 h t0 v1 v2 v3 (v4 + 1))
set_option maxHeartbeats 4000000 in
theorem s_X12_doneWith_c5 {G : nk_G} {l : Launch} (hl0 : l.flags = flags0) {r5 : nk_H → Nat → Int32 → Int32 → Int32 → Int32 → Option (nk_H × Int32)} (hr5 : ∀ (h : nk_H) (t0 : Nat) (v1 : Int32) (v2 : Int32) (v3 : Int32) (v4 : Int32), nk_Sim G l RX12 cX12_doneWith 5 (some FieldType.int) 2 46 false nk_eI 5 [(0, .inr (some t0)), (1, .inl v1), (2, .inl v2), (3, .inl v3), (4, .inl v4)] [] h (r5 h t0 v1 v2 v3 v4)) (h : nk_H) (t0 : Nat) (v1 : Int32) (v2 : Int32) (v3 : Int32) (v4 : Int32)  : nk_Sim G l RX12 cX12_doneWith 5 (some FieldType.int) 2 46 false nk_eI 5 [(0, .inr (some t0)), (1, .inl v1), (2, .inl v2), (3, .inl v3), (4, .inl v4)] [] h (f_X12_doneWith_c5  r5 h t0 v1 v2 v3 v4 ) := by
  unfold f_X12_doneWith_c5
  refine nr_iload 4 dX12_doneWith_5 rfl ?_
  refine nr_aload_n 0 dX12_doneWith_7 rfl ?_
  refine nr_getI [19] 3 dX12_doneWith_8 fk_RX12_153 (fun x1 => ?_)
  refine nr_icmp_ge (tgt := 81) dX12_doneWith_11 (by decide) (fun _ => ?_) (fun _ => ?_)
  · refine nr_iload_n 3 dX12_doneWith_81 rfl ?_
    exact nr_iret rfl rfl dX12_doneWith_82
  · refine nr_aload_n 0 dX12_doneWith_14 rfl ?_
    refine nr_getP [19] 4 dX12_doneWith_15 fk_RX12_13 (fun x2 => ?_)
    refine nr_iload 4 dX12_doneWith_18 rfl ?_
    refine nr_iaload dX12_doneWith_20 (fun x3 => ?_)
    refine nr_iconst (v := 3) dX12_doneWith_21 (by decide) ?_
    refine nr_icmp_ne (tgt := 75) dX12_doneWith_22 (by decide) (fun _ => ?_) (fun _ => ?_)
    · refine nr_aload_n 0 dX12_doneWith_25 rfl ?_
      refine nr_iload_n 2 dX12_doneWith_26 rfl ?_
      refine nr_aload_n 0 dX12_doneWith_27 rfl ?_
      refine nr_getP [19] 33 dX12_doneWith_28 fk_RX12_88 (fun x4 => ?_)
      refine nr_bipush (v := 6) dX12_doneWith_31 (by decide) ?_
      refine nr_aload_n 0 dX12_doneWith_33 rfl ?_
      refine nr_getP [19] 7 dX12_doneWith_34 fk_RX12_22 (fun x5 => ?_)
      refine nr_iload 4 dX12_doneWith_37 rfl ?_
      refine nr_iaload dX12_doneWith_39 (fun x6 => ?_)
      refine nr_imul dX12_doneWith_40 ?_
      refine nr_iconst (v := 1) dX12_doneWith_41 (by decide) ?_
      refine nr_iadd dX12_doneWith_42 ?_
      refine nr_iaload dX12_doneWith_43 (fun x7 => ?_)
      refine nr_rcv (ks := [19]) (pre := [.inl x7, .inl v2]) (fun a8 hm => ?_)
      refine nr_doI (st := []) (nk_callV (q := (RX12, TX12, 45)) (ci := 12) (c_X12_isInLine (G := G) hl0 h a8 v2 x7) dX12_doneWith_44 (List.mem_singleton.mp hm) rfl rfl my_X12_isInLine im_X12_isInLine se_RX12_X12_isInLine ml_RX12_166 rfl rfl (Nat.le_of_ble_eq_true rfl) (by decide) (by decide)) (fun h9 x10 => ?_)
      refine nr_if_eq (tgt := 75) dX12_doneWith_47 (by decide) (fun _ => ?_) (fun _ => ?_)
      · exact s_X12_doneWith_c75 hl0 hr5 h9 t0 v1 v2 v3 v4
      · refine nr_aload_n 0 dX12_doneWith_50 rfl ?_
        refine nr_iload_n 1 dX12_doneWith_51 rfl ?_
        refine nr_iload 4 dX12_doneWith_52 rfl ?_
        refine nr_rcv (ks := [19]) (pre := [.inl v4, .inl v1]) (fun a11 hm => ?_)
        refine nr_doI (st := []) (nk_callV (q := (RX12, TX12, 45)) (ci := 12) (c_X12_has (G := G) hl0 h9 a11 v1 v4) dX12_doneWith_54 (List.mem_singleton.mp hm) rfl rfl my_X12_has im_X12_has se_RX12_X12_has ml_RX12_162 rfl rfl (Nat.le_of_ble_eq_true rfl) (by decide) (by decide)) (fun h12 x13 => ?_)
        refine nr_if_eq (tgt := 75) dX12_doneWith_57 (by decide) (fun _ => ?_) (fun _ => ?_)
        · exact s_X12_doneWith_c75 hl0 hr5 h12 t0 v1 v2 v3 v4
        · refine nr_iload_n 3 dX12_doneWith_60 rfl ?_
          refine nr_aload_n 0 dX12_doneWith_61 rfl ?_
          refine nr_getP [19] 34 dX12_doneWith_62 fk_RX12_91 (fun x14 => ?_)
          refine nr_aload_n 0 dX12_doneWith_65 rfl ?_
          refine nr_getP [19] 7 dX12_doneWith_66 fk_RX12_22 (fun x15 => ?_)
          refine nr_iload 4 dX12_doneWith_69 rfl ?_
          refine nr_iaload dX12_doneWith_71 (fun x16 => ?_)
          refine nr_iaload dX12_doneWith_72 (fun x17 => ?_)
          refine nr_iadd dX12_doneWith_73 ?_
          refine nr_istore_n (lv2 := [(3, .inl (v3 + x17)), (0, .inr (some t0)), (1, .inl v1), (2, .inl v2), (4, .inl v4)]) dX12_doneWith_74 (by decide) rfl ?_
          exact nk_locals [1, 2, 3, 0, 4] rfl (s_X12_doneWith_c75 hl0 hr5 h12 t0 v1 v2 (v3 + x17) v4)
    · exact s_X12_doneWith_c75 hl0 hr5 h t0 v1 v2 v3 v4
theorem s_X12_doneWith_b5 {G : nk_G} {l : Launch} (hl0 : l.flags = flags0)   : ∀ (n : Nat) (h : nk_H) (t0 : Nat) (v1 : Int32) (v2 : Int32) (v3 : Int32) (v4 : Int32), nk_Sim G l RX12 cX12_doneWith 5 (some FieldType.int) 2 46 false nk_eI 5 [(0, .inr (some t0)), (1, .inl v1), (2, .inl v2), (3, .inl v3), (4, .inl v4)] [] h (f_X12_doneWith_b5   n h t0 v1 v2 v3 v4)
  | 0, _, _, _, _, _, _ => nk_none
  | n + 1, h, t0, v1, v2, v3, v4 => s_X12_doneWith_c5 hl0 (s_X12_doneWith_b5 hl0  n) h t0 v1 v2 v3 v4
set_option maxHeartbeats 4000000 in
theorem s_X12_doneWith {G : nk_G} {l : Launch} (hl0 : l.flags = flags0) (h : nk_H) (t0 : Nat) (v1 : Int32) (v2 : Int32) : nk_Sim G l RX12 cX12_doneWith 5 (some FieldType.int) 2 46 false nk_eI 0 [(0, .inr (some t0)), (1, .inl v1), (2, .inl v2)] [] h (f_X12_doneWith  h t0 v1 v2) := by
  unfold f_X12_doneWith
  refine nr_iconst (v := 0) dX12_doneWith_0 (by decide) ?_
  refine nr_istore_n (lv2 := [(3, .inl 0), (0, .inr (some t0)), (1, .inl v1), (2, .inl v2)]) dX12_doneWith_1 (by decide) rfl ?_
  refine nr_iconst (v := 0) dX12_doneWith_2 (by decide) ?_
  refine nr_istore (lv2 := [(4, .inl 0), (3, .inl 0), (0, .inr (some t0)), (1, .inl v1), (2, .inl v2)]) dX12_doneWith_3 (by decide) rfl ?_
  exact nk_locals [2, 3, 4, 1, 0] rfl (s_X12_doneWith_b5 hl0  4096 h t0 v1 v2 0 0)
theorem c_X12_doneWith {G : nk_G} {l : Launch} (hl0 : l.flags = flags0) (h : nk_H) (t0 : Nat) (v1 : Int32) (v2 : Int32) : nk_Con G l yX12_doneWith cX12_doneWith 5 (some FieldType.int) 2 46 nk_eI [.inr (some t0), .inl v1, .inl v2] h (f_X12_doneWith h t0 v1 v2) :=
  nk_con (ini := false) (by decide) hl0 (Nat.le_of_ble_eq_true rfl) (by decide) (s_X12_doneWith hl0 h t0 v1 v2)
set_option maxHeartbeats 4000000 in
theorem s_X12_isDeputy_c67 {G : nk_G} {l : Launch} (hl0 : l.flags = flags0) {r3 : nk_H → Nat → Int32 → Int32 → Int32 → Int32 → Option (nk_H × Int32)} (hr3 : ∀ (h : nk_H) (t0 : Nat) (v1 : Int32) (v2 : Int32) (v3 : Int32) (v4 : Int32), nk_Sim G l RX12 cX12_isDeputy 5 (some FieldType.boolean) 2 46 false nk_eI 3 [(0, .inr (some t0)), (1, .inl v1), (2, .inl v2), (3, .inl v3), (4, .inl v4)] [] h (r3 h t0 v1 v2 v3 v4)) (h : nk_H) (t0 : Nat) (v1 : Int32) (v2 : Int32) (v3 : Int32) (v4 : Int32)  : nk_Sim G l RX12 cX12_isDeputy 5 (some FieldType.boolean) 2 46 false nk_eI 67 [(0, .inr (some t0)), (1, .inl v1), (2, .inl v2), (3, .inl v3), (4, .inl v4)] [] h (f_X12_isDeputy_c67  r3 h t0 v1 v2 v3 v4 ) := by
  unfold f_X12_isDeputy_c67
  refine nr_iinc (lv2 := [(4, .inl (v4 + 1)), (0, .inr (some t0)), (1, .inl v1), (2, .inl v2), (3, .inl v3)]) 4 (v4 + 1) dX12_isDeputy_67 rfl (by rfl) (by decide) rfl ?_
  refine nr_goto (tgt := 3) dX12_isDeputy_70 (by decide) ?_
  exact nk_locals [1, 2, 3, 4, 0] rfl (hr3 h t0 v1 v2 v3 (v4 + 1))
set_option maxHeartbeats 4000000 in
theorem s_X12_isDeputy_c3 {G : nk_G} {l : Launch} (hl0 : l.flags = flags0) {r3 : nk_H → Nat → Int32 → Int32 → Int32 → Int32 → Option (nk_H × Int32)} (hr3 : ∀ (h : nk_H) (t0 : Nat) (v1 : Int32) (v2 : Int32) (v3 : Int32) (v4 : Int32), nk_Sim G l RX12 cX12_isDeputy 5 (some FieldType.boolean) 2 46 false nk_eI 3 [(0, .inr (some t0)), (1, .inl v1), (2, .inl v2), (3, .inl v3), (4, .inl v4)] [] h (r3 h t0 v1 v2 v3 v4)) (h : nk_H) (t0 : Nat) (v1 : Int32) (v2 : Int32) (v3 : Int32) (v4 : Int32)  : nk_Sim G l RX12 cX12_isDeputy 5 (some FieldType.boolean) 2 46 false nk_eI 3 [(0, .inr (some t0)), (1, .inl v1), (2, .inl v2), (3, .inl v3), (4, .inl v4)] [] h (f_X12_isDeputy_c3  r3 h t0 v1 v2 v3 v4 ) := by
  unfold f_X12_isDeputy_c3
  refine nr_iload 4 dX12_isDeputy_3 rfl ?_
  refine nr_aload_n 0 dX12_isDeputy_5 rfl ?_
  refine nr_getI [19] 3 dX12_isDeputy_6 fk_RX12_153 (fun x1 => ?_)
  refine nr_icmp_ge (tgt := 73) dX12_isDeputy_9 (by decide) (fun _ => ?_) (fun _ => ?_)
  · refine nr_iconst (v := 0) dX12_isDeputy_73 (by decide) ?_
    exact nr_zret rfl rfl dX12_isDeputy_74
  · refine nr_aload_n 0 dX12_isDeputy_12 rfl ?_
    refine nr_getP [19] 4 dX12_isDeputy_13 fk_RX12_13 (fun x2 => ?_)
    refine nr_iload 4 dX12_isDeputy_16 rfl ?_
    refine nr_iaload dX12_isDeputy_18 (fun x3 => ?_)
    refine nr_iconst (v := 2) dX12_isDeputy_19 (by decide) ?_
    refine nr_icmp_ne (tgt := 67) dX12_isDeputy_20 (by decide) (fun _ => ?_) (fun _ => ?_)
    · refine nr_aload_n 0 dX12_isDeputy_23 rfl ?_
      refine nr_getP [19] 7 dX12_isDeputy_24 fk_RX12_22 (fun x4 => ?_)
      refine nr_iload 4 dX12_isDeputy_27 rfl ?_
      refine nr_iaload dX12_isDeputy_29 (fun x5 => ?_)
      refine nr_iload_n 2 dX12_isDeputy_30 rfl ?_
      refine nr_icmp_ne (tgt := 67) dX12_isDeputy_31 (by decide) (fun _ => ?_) (fun _ => ?_)
      · refine nr_iload_n 3 dX12_isDeputy_34 rfl ?_
        refine nr_aload_n 0 dX12_isDeputy_35 rfl ?_
        refine nr_getP [19] 8 dX12_isDeputy_36 fk_RX12_25 (fun x6 => ?_)
        refine nr_iload 4 dX12_isDeputy_39 rfl ?_
        refine nr_iaload dX12_isDeputy_41 (fun x7 => ?_)
        refine nr_aload_n 0 dX12_isDeputy_42 rfl ?_
        refine nr_getP [19] 9 dX12_isDeputy_43 fk_RX12_28 (fun x8 => ?_)
        refine nr_iload 4 dX12_isDeputy_46 rfl ?_
        refine nr_iaload dX12_isDeputy_48 (fun x9 => ?_)
        refine nr_doI (st := []) (nk_callS (c_X12_in (G := G) hl0 h v3 x7 x9) dX12_isDeputy_49 my_X12_in st_X12_in ml_RX12_124 rfl rfl (Nat.le_of_ble_eq_true rfl) (by decide) (by decide)) (fun h10 x11 => ?_)
        refine nr_if_eq (tgt := 67) dX12_isDeputy_52 (by decide) (fun _ => ?_) (fun _ => ?_)
        · exact s_X12_isDeputy_c67 hl0 hr3 h10 t0 v1 v2 v3 v4
        · refine nr_aload_n 0 dX12_isDeputy_55 rfl ?_
          refine nr_iload_n 1 dX12_isDeputy_56 rfl ?_
          refine nr_iload 4 dX12_isDeputy_57 rfl ?_
          refine nr_rcv (ks := [19]) (pre := [.inl v4, .inl v1]) (fun a12 hm => ?_)
          refine nr_doI (st := []) (nk_callV (q := (RX12, TX12, 45)) (ci := 12) (c_X12_has (G := G) hl0 h10 a12 v1 v4) dX12_isDeputy_59 (List.mem_singleton.mp hm) rfl rfl my_X12_has im_X12_has se_RX12_X12_has ml_RX12_162 rfl rfl (Nat.le_of_ble_eq_true rfl) (by decide) (by decide)) (fun h13 x14 => ?_)
          refine nr_if_eq (tgt := 67) dX12_isDeputy_62 (by decide) (fun _ => ?_) (fun _ => ?_)
          · exact s_X12_isDeputy_c67 hl0 hr3 h13 t0 v1 v2 v3 v4
          · refine nr_iconst (v := 1) dX12_isDeputy_65 (by decide) ?_
            exact nr_zret rfl rfl dX12_isDeputy_66
      · exact s_X12_isDeputy_c67 hl0 hr3 h t0 v1 v2 v3 v4
    · exact s_X12_isDeputy_c67 hl0 hr3 h t0 v1 v2 v3 v4
theorem s_X12_isDeputy_b3 {G : nk_G} {l : Launch} (hl0 : l.flags = flags0)   : ∀ (n : Nat) (h : nk_H) (t0 : Nat) (v1 : Int32) (v2 : Int32) (v3 : Int32) (v4 : Int32), nk_Sim G l RX12 cX12_isDeputy 5 (some FieldType.boolean) 2 46 false nk_eI 3 [(0, .inr (some t0)), (1, .inl v1), (2, .inl v2), (3, .inl v3), (4, .inl v4)] [] h (f_X12_isDeputy_b3   n h t0 v1 v2 v3 v4)
  | 0, _, _, _, _, _, _ => nk_none
  | n + 1, h, t0, v1, v2, v3, v4 => s_X12_isDeputy_c3 hl0 (s_X12_isDeputy_b3 hl0  n) h t0 v1 v2 v3 v4
set_option maxHeartbeats 4000000 in
theorem s_X12_isDeputy {G : nk_G} {l : Launch} (hl0 : l.flags = flags0) (h : nk_H) (t0 : Nat) (v1 : Int32) (v2 : Int32) (v3 : Int32) : nk_Sim G l RX12 cX12_isDeputy 5 (some FieldType.boolean) 2 46 false nk_eI 0 [(0, .inr (some t0)), (1, .inl v1), (2, .inl v2), (3, .inl v3)] [] h (f_X12_isDeputy  h t0 v1 v2 v3) := by
  unfold f_X12_isDeputy
  refine nr_iconst (v := 0) dX12_isDeputy_0 (by decide) ?_
  refine nr_istore (lv2 := [(4, .inl 0), (0, .inr (some t0)), (1, .inl v1), (2, .inl v2), (3, .inl v3)]) dX12_isDeputy_1 (by decide) rfl ?_
  exact nk_locals [1, 2, 3, 4, 0] rfl (s_X12_isDeputy_b3 hl0  4096 h t0 v1 v2 v3 0)
theorem c_X12_isDeputy {G : nk_G} {l : Launch} (hl0 : l.flags = flags0) (h : nk_H) (t0 : Nat) (v1 : Int32) (v2 : Int32) (v3 : Int32) : nk_Con G l yX12_isDeputy cX12_isDeputy 5 (some FieldType.boolean) 2 46 nk_eI [.inr (some t0), .inl v1, .inl v2, .inl v3] h (f_X12_isDeputy h t0 v1 v2 v3) :=
  nk_con (ini := false) (by decide) hl0 (Nat.le_of_ble_eq_true rfl) (by decide) (s_X12_isDeputy hl0 h t0 v1 v2 v3)
set_option maxHeartbeats 4000000 in
theorem s_X12_isAboveLimits_c2 {G : nk_G} {l : Launch} (hl0 : l.flags = flags0) {r2 : nk_H → Nat → Int32 → Int32 → Option (nk_H × Int32)} (hr2 : ∀ (h : nk_H) (t0 : Nat) (v2 : Int32) (v3 : Int32), nk_Sim G l RX12 cX12_isAboveLimits 4 (some FieldType.boolean) 0 0 false nk_eI 2 [(0, .inr (some t0)), (2, .inl v2), (3, .inl v3)] [] h (r2 h t0 v2 v3)) (h : nk_H) (t0 : Nat) (v2 : Int32) (v3 : Int32)  : nk_Sim G l RX12 cX12_isAboveLimits 4 (some FieldType.boolean) 0 0 false nk_eI 2 [(0, .inr (some t0)), (2, .inl v2), (3, .inl v3)] [] h (f_X12_isAboveLimits_c2  r2 h t0 v2 v3 ) := by
  unfold f_X12_isAboveLimits_c2
  refine nr_iload_n 2 dX12_isAboveLimits_2 rfl ?_
  refine nr_iconst (v := (-1)) dX12_isAboveLimits_3 (by decide) ?_
  refine nr_icmp_eq (tgt := 29) dX12_isAboveLimits_4 (by decide) (fun _ => ?_) (fun _ => ?_)
  · refine nr_iconst (v := 0) dX12_isAboveLimits_29 (by decide) ?_
    exact nr_zret rfl rfl dX12_isAboveLimits_30
  · refine nr_iload_n 1 dX12_isAboveLimits_7 rfl ?_
    refine nr_aload_n 0 dX12_isAboveLimits_8 rfl ?_
    refine nr_getP [19] 18 dX12_isAboveLimits_9 fk_RX12_53 (fun x1 => ?_)
    refine nr_iload_n 2 dX12_isAboveLimits_12 rfl ?_
    refine nr_iaload dX12_isAboveLimits_13 (fun x2 => ?_)
    refine nr_icmp_le (tgt := 19) dX12_isAboveLimits_14 (by decide) (fun _ => ?_) (fun _ => ?_)
    · refine nr_aload_n 0 dX12_isAboveLimits_19 rfl ?_
      refine nr_getP [19] 16 dX12_isAboveLimits_20 fk_RX12_47 (fun x3 => ?_)
      refine nr_iload_n 2 dX12_isAboveLimits_23 rfl ?_
      refine nr_iaload dX12_isAboveLimits_24 (fun x4 => ?_)
      refine nr_istore_n (lv2 := [(3, .inl x4), (0, .inr (some t0)), (2, .inl v2)]) dX12_isAboveLimits_25 (by decide) rfl ?_
      refine nr_goto (tgt := 2) dX12_isAboveLimits_26 (by decide) ?_
      exact nk_locals [1, 2, 0] rfl (hr2 h t0 v2 x4)
    · refine nr_iconst (v := 1) dX12_isAboveLimits_17 (by decide) ?_
      exact nr_zret rfl rfl dX12_isAboveLimits_18
theorem s_X12_isAboveLimits_b2 {G : nk_G} {l : Launch} (hl0 : l.flags = flags0)   : ∀ (n : Nat) (h : nk_H) (t0 : Nat) (v2 : Int32) (v3 : Int32), nk_Sim G l RX12 cX12_isAboveLimits 4 (some FieldType.boolean) 0 0 false nk_eI 2 [(0, .inr (some t0)), (2, .inl v2), (3, .inl v3)] [] h (f_X12_isAboveLimits_b2   n h t0 v2 v3)
  | 0, _, _, _, _ => nk_none
  | n + 1, h, t0, v2, v3 => s_X12_isAboveLimits_c2 hl0 (s_X12_isAboveLimits_b2 hl0  n) h t0 v2 v3
set_option maxHeartbeats 4000000 in
theorem s_X12_isAboveLimits {G : nk_G} {l : Launch} (hl0 : l.flags = flags0) (h : nk_H) (t0 : Nat) (v1 : Int32) (v2 : Int32) : nk_Sim G l RX12 cX12_isAboveLimits 4 (some FieldType.boolean) 0 0 false nk_eI 0 [(0, .inr (some t0)), (1, .inl v1), (2, .inl v2)] [] h (f_X12_isAboveLimits  h t0 v1 v2) := by
  unfold f_X12_isAboveLimits
  refine nr_iload_n 1 dX12_isAboveLimits_0 rfl ?_
  refine nr_istore_n (lv2 := [(3, .inl v1), (0, .inr (some t0)), (1, .inl v1), (2, .inl v2)]) dX12_isAboveLimits_1 (by decide) rfl ?_
  exact nk_locals [1, 3, 0] rfl (s_X12_isAboveLimits_b2 hl0  4096 h t0 v2 v1)
theorem c_X12_isAboveLimits {G : nk_G} {l : Launch} (hl0 : l.flags = flags0) (h : nk_H) (t0 : Nat) (v1 : Int32) (v2 : Int32) : nk_Con G l yX12_isAboveLimits cX12_isAboveLimits 4 (some FieldType.boolean) 0 0 nk_eI [.inr (some t0), .inl v1, .inl v2] h (f_X12_isAboveLimits h t0 v1 v2) :=
  nk_con (ini := false) (by decide) hl0 (Nat.le_of_ble_eq_true rfl) (by decide) (s_X12_isAboveLimits hl0 h t0 v1 v2)
set_option maxHeartbeats 4000000 in
theorem s_X12_isAboveTotals_c3 {G : nk_G} {l : Launch} (hl0 : l.flags = flags0) {r3 : nk_H → Nat → Int32 → Int32 → Int32 → Option (nk_H × Int32)} (hr3 : ∀ (h : nk_H) (t0 : Nat) (v1 : Int32) (v3 : Int32) (v4 : Int32), nk_Sim G l RX12 cX12_isAboveTotals 5 (some FieldType.boolean) 3 70 false nk_eI 3 [(0, .inr (some t0)), (1, .inl v1), (3, .inl v3), (4, .inl v4)] [] h (r3 h t0 v1 v3 v4)) (h : nk_H) (t0 : Nat) (v1 : Int32) (v3 : Int32) (v4 : Int32)  : nk_Sim G l RX12 cX12_isAboveTotals 5 (some FieldType.boolean) 3 70 false nk_eI 3 [(0, .inr (some t0)), (1, .inl v1), (3, .inl v3), (4, .inl v4)] [] h (f_X12_isAboveTotals_c3  r3 h t0 v1 v3 v4 ) := by
  unfold f_X12_isAboveTotals_c3
  refine nr_iload 3 dX12_isAboveTotals_3 rfl ?_
  refine nr_iconst (v := (-1)) dX12_isAboveTotals_5 (by decide) ?_
  refine nr_icmp_eq (tgt := 42) dX12_isAboveTotals_6 (by decide) (fun _ => ?_) (fun _ => ?_)
  · refine nr_iconst (v := 0) dX12_isAboveTotals_42 (by decide) ?_
    exact nr_zret rfl rfl dX12_isAboveTotals_43
  · refine nr_aload_n 0 dX12_isAboveTotals_9 rfl ?_
    refine nr_iload_n 1 dX12_isAboveTotals_10 rfl ?_
    refine nr_iload 3 dX12_isAboveTotals_11 rfl ?_
    refine nr_rcv (ks := [19]) (pre := [.inl v4, .inl v1]) (fun a1 hm => ?_)
    refine nr_doI (st := []) (nk_callV (q := (RX12, TX12, 45)) (ci := 12) (c_X12_doneWith (G := G) hl0 h a1 v1 v4) dX12_isAboveTotals_13 (List.mem_singleton.mp hm) rfl rfl my_X12_doneWith im_X12_doneWith se_RX12_X12_doneWith ml_RX12_169 rfl rfl (Nat.le_of_ble_eq_true rfl) (by decide) (by decide)) (fun h2 x3 => ?_)
    refine nr_iload_n 2 dX12_isAboveTotals_16 rfl ?_
    refine nr_iadd dX12_isAboveTotals_17 ?_
    refine nr_aload_n 0 dX12_isAboveTotals_18 rfl ?_
    refine nr_getP [19] 19 dX12_isAboveTotals_19 fk_RX12_56 (fun x4 => ?_)
    refine nr_iload 3 dX12_isAboveTotals_22 rfl ?_
    refine nr_iaload dX12_isAboveTotals_24 (fun x5 => ?_)
    refine nr_icmp_le (tgt := 30) dX12_isAboveTotals_25 (by decide) (fun _ => ?_) (fun _ => ?_)
    · refine nr_aload_n 0 dX12_isAboveTotals_30 rfl ?_
      refine nr_getP [19] 16 dX12_isAboveTotals_31 fk_RX12_47 (fun x6 => ?_)
      refine nr_iload 3 dX12_isAboveTotals_34 rfl ?_
      refine nr_iaload dX12_isAboveTotals_36 (fun x7 => ?_)
      refine nr_istore (lv2 := [(4, .inl x7), (0, .inr (some t0)), (1, .inl v1), (3, .inl v3)]) dX12_isAboveTotals_37 (by decide) rfl ?_
      refine nr_goto (tgt := 3) dX12_isAboveTotals_39 (by decide) ?_
      exact nk_locals [1, 2, 3, 0] rfl (hr3 h2 t0 v1 v3 x7)
    · refine nr_iconst (v := 1) dX12_isAboveTotals_28 (by decide) ?_
      exact nr_zret rfl rfl dX12_isAboveTotals_29
theorem s_X12_isAboveTotals_b3 {G : nk_G} {l : Launch} (hl0 : l.flags = flags0)   : ∀ (n : Nat) (h : nk_H) (t0 : Nat) (v1 : Int32) (v3 : Int32) (v4 : Int32), nk_Sim G l RX12 cX12_isAboveTotals 5 (some FieldType.boolean) 3 70 false nk_eI 3 [(0, .inr (some t0)), (1, .inl v1), (3, .inl v3), (4, .inl v4)] [] h (f_X12_isAboveTotals_b3   n h t0 v1 v3 v4)
  | 0, _, _, _, _, _ => nk_none
  | n + 1, h, t0, v1, v3, v4 => s_X12_isAboveTotals_c3 hl0 (s_X12_isAboveTotals_b3 hl0  n) h t0 v1 v3 v4
set_option maxHeartbeats 4000000 in
theorem s_X12_isAboveTotals {G : nk_G} {l : Launch} (hl0 : l.flags = flags0) (h : nk_H) (t0 : Nat) (v1 : Int32) (v2 : Int32) (v3 : Int32) : nk_Sim G l RX12 cX12_isAboveTotals 5 (some FieldType.boolean) 3 70 false nk_eI 0 [(0, .inr (some t0)), (1, .inl v1), (2, .inl v2), (3, .inl v3)] [] h (f_X12_isAboveTotals  h t0 v1 v2 v3) := by
  unfold f_X12_isAboveTotals
  refine nr_iload_n 2 dX12_isAboveTotals_0 rfl ?_
  refine nr_istore (lv2 := [(4, .inl v2), (0, .inr (some t0)), (1, .inl v1), (2, .inl v2), (3, .inl v3)]) dX12_isAboveTotals_1 (by decide) rfl ?_
  exact nk_locals [1, 2, 4, 0] rfl (s_X12_isAboveTotals_b3 hl0  4096 h t0 v1 v3 v2)
theorem c_X12_isAboveTotals {G : nk_G} {l : Launch} (hl0 : l.flags = flags0) (h : nk_H) (t0 : Nat) (v1 : Int32) (v2 : Int32) (v3 : Int32) : nk_Con G l yX12_isAboveTotals cX12_isAboveTotals 5 (some FieldType.boolean) 3 70 nk_eI [.inr (some t0), .inl v1, .inl v2, .inl v3] h (f_X12_isAboveTotals h t0 v1 v2 v3) :=
  nk_con (ini := false) (by decide) hl0 (Nat.le_of_ble_eq_true rfl) (by decide) (s_X12_isAboveTotals hl0 h t0 v1 v2 v3)
set_option maxHeartbeats 4000000 in
theorem s_X12_reason_c125 {G : nk_G} {l : Launch} (hl0 : l.flags = flags0)   (h : nk_H)  (s0 : Int32) : nk_Sim G l RX12 cX12_reason 9 (some FieldType.int) 4 94 false nk_eI 125 [] [.inl s0] h (f_X12_reason_c125   h  s0) := by
  unfold f_X12_reason_c125
  exact nr_iret rfl rfl dX12_reason_125
set_option maxHeartbeats 4000000 in
theorem s_X12_reason_c116 {G : nk_G} {l : Launch} (hl0 : l.flags = flags0)   (h : nk_H)  (s0 : Int32) (s1 : Int32) : nk_Sim G l RX12 cX12_reason 9 (some FieldType.int) 4 94 false nk_eI 116 [] [.inl s0, .inl s1] h (f_X12_reason_c116   h  s0 s1) := by
  unfold f_X12_reason_c116
  refine nr_icmp_eq (tgt := 124) dX12_reason_116 (by decide) (fun _ => ?_) (fun _ => ?_)
  · refine nr_iconst (v := 0) dX12_reason_124 (by decide) ?_
    exact s_X12_reason_c125 hl0  h 0
  · refine nr_bipush (v := 8) dX12_reason_119 (by decide) ?_
    refine nr_goto (tgt := 125) dX12_reason_121 (by decide) ?_
    exact s_X12_reason_c125 hl0  h 8
set_option maxHeartbeats 4000000 in
theorem s_X12_reason {G : nk_G} {l : Launch} (hl0 : l.flags = flags0) (h : nk_H) (t0 : Nat) (v1 : Int32) (v2 : Int32) (v3 : Int32) (v4 : Int32) (v5 : Int32) (v6 : Int32) (v7 : Int32) (v8 : Int32) : nk_Sim G l RX12 cX12_reason 9 (some FieldType.int) 4 94 false nk_eI 0 [(0, .inr (some t0)), (1, .inl v1), (2, .inl v2), (3, .inl v3), (4, .inl v4), (5, .inl v5), (6, .inl v6), (7, .inl v7), (8, .inl v8)] [] h (f_X12_reason  h t0 v1 v2 v3 v4 v5 v6 v7 v8) := by
  unfold f_X12_reason
  refine nr_aload_n 0 dX12_reason_0 rfl ?_
  refine nr_iload_n 1 dX12_reason_1 rfl ?_
  refine nr_iload 5 dX12_reason_2 rfl ?_
  refine nr_rcv (ks := [19]) (pre := [.inl v5, .inl v1]) (fun a1 hm => ?_)
  refine nr_doI (st := []) (nk_callV (q := (RX12, TX12, 45)) (ci := 12) (c_X12_isKnown (G := G) hl0 h a1 v1 v5) dX12_reason_4 (List.mem_singleton.mp hm) rfl rfl my_X12_isKnown im_X12_isKnown se_RX12_X12_isKnown ml_RX12_172 rfl rfl (Nat.le_of_ble_eq_true rfl) (by decide) (by decide)) (fun h2 x3 => ?_)
  refine nr_if_ne (tgt := 12) dX12_reason_7 (by decide) (fun _ => ?_) (fun _ => ?_)
  · refine nr_iconst (v := 1) dX12_reason_10 (by decide) ?_
    exact nr_iret rfl rfl dX12_reason_11
  · refine nr_aload_n 0 dX12_reason_12 rfl ?_
    refine nr_getP [19] 15 dX12_reason_13 fk_RX12_44 (fun x4 => ?_)
    refine nr_iload 5 dX12_reason_16 rfl ?_
    refine nr_iaload dX12_reason_18 (fun x5 => ?_)
    refine nr_iload 4 dX12_reason_19 rfl ?_
    refine nr_icmp_eq (tgt := 26) dX12_reason_21 (by decide) (fun _ => ?_) (fun _ => ?_)
    · refine nr_aload_n 0 dX12_reason_26 rfl ?_
      refine nr_iload_n 1 dX12_reason_27 rfl ?_
      refine nr_iload 5 dX12_reason_28 rfl ?_
      refine nr_rcv (ks := [19]) (pre := [.inl v5, .inl v1]) (fun a6 hm => ?_)
      refine nr_doI (st := []) (nk_callV (q := (RX12, TX12, 45)) (ci := 12) (c_X12_isRevoked (G := G) hl0 h2 a6 v1 v5) dX12_reason_30 (List.mem_singleton.mp hm) rfl rfl my_X12_isRevoked im_X12_isRevoked se_RX12_X12_isRevoked ml_RX12_175 rfl rfl (Nat.le_of_ble_eq_true rfl) (by decide) (by decide)) (fun h7 x8 => ?_)
      refine nr_if_eq (tgt := 38) dX12_reason_33 (by decide) (fun _ => ?_) (fun _ => ?_)
      · refine nr_aload_n 0 dX12_reason_38 rfl ?_
        refine nr_iload 5 dX12_reason_39 rfl ?_
        refine nr_iload_n 3 dX12_reason_41 rfl ?_
        refine nr_rcv (ks := [19]) (pre := [.inl v3, .inl v5]) (fun a9 hm => ?_)
        refine nr_doI (st := []) (nk_callV (q := (RX12, TX12, 45)) (ci := 12) (c_X12_isOver (G := G) hl0 h7 a9 v5 v3) dX12_reason_42 (List.mem_singleton.mp hm) rfl rfl my_X12_isOver im_X12_isOver se_RX12_X12_isOver ml_RX12_178 rfl rfl (Nat.le_of_ble_eq_true rfl) (by decide) (by decide)) (fun h10 x11 => ?_)
        refine nr_if_eq (tgt := 50) dX12_reason_45 (by decide) (fun _ => ?_) (fun _ => ?_)
        · refine nr_aload_n 0 dX12_reason_50 rfl ?_
          refine nr_getP [19] 17 dX12_reason_51 fk_RX12_50 (fun x12 => ?_)
          refine nr_iload 5 dX12_reason_54 rfl ?_
          refine nr_iaload dX12_reason_56 (fun x13 => ?_)
          refine nr_iload 6 dX12_reason_57 rfl ?_
          refine nr_ishr dX12_reason_59 ?_
          refine nr_iconst (v := 1) dX12_reason_60 (by decide) ?_
          refine nr_iand dX12_reason_61 ?_
          refine nr_if_ne (tgt := 67) dX12_reason_62 (by decide) (fun _ => ?_) (fun _ => ?_)
          · refine nr_iconst (v := 5) dX12_reason_65 (by decide) ?_
            exact nr_iret rfl rfl dX12_reason_66
          · refine nr_aload_n 0 dX12_reason_67 rfl ?_
            refine nr_iload 5 dX12_reason_68 rfl ?_
            refine nr_iload 7 dX12_reason_70 rfl ?_
            refine nr_rcv (ks := [19]) (pre := [.inl v7, .inl v5]) (fun a14 hm => ?_)
            refine nr_doI (st := []) (nk_callV (q := (RX12, TX12, 45)) (ci := 12) (c_X12_isAboveLimits (G := G) hl0 h10 a14 v5 v7) dX12_reason_72 (List.mem_singleton.mp hm) rfl rfl my_X12_isAboveLimits im_X12_isAboveLimits se_RX12_X12_isAboveLimits ml_RX12_181 rfl rfl (Nat.le_of_ble_eq_true rfl) (by decide) (by decide)) (fun h15 x16 => ?_)
            refine nr_if_eq (tgt := 81) dX12_reason_75 (by decide) (fun _ => ?_) (fun _ => ?_)
            · refine nr_aload_n 0 dX12_reason_81 rfl ?_
              refine nr_iload_n 1 dX12_reason_82 rfl ?_
              refine nr_iload 5 dX12_reason_83 rfl ?_
              refine nr_iload 7 dX12_reason_85 rfl ?_
              refine nr_rcv (ks := [19]) (pre := [.inl v7, .inl v5, .inl v1]) (fun a17 hm => ?_)
              refine nr_doI (st := []) (nk_callV (q := (RX12, TX12, 45)) (ci := 12) (c_X12_isAboveTotals (G := G) hl0 h15 a17 v1 v5 v7) dX12_reason_87 (List.mem_singleton.mp hm) rfl rfl my_X12_isAboveTotals im_X12_isAboveTotals se_RX12_X12_isAboveTotals ml_RX12_184 rfl rfl (Nat.le_of_ble_eq_true rfl) (by decide) (by decide)) (fun h18 x19 => ?_)
              refine nr_if_eq (tgt := 98) dX12_reason_90 (by decide) (fun _ => ?_) (fun _ => ?_)
              · refine nr_aload_n 0 dX12_reason_98 rfl ?_
                refine nr_iload_n 1 dX12_reason_99 rfl ?_
                refine nr_iload_n 2 dX12_reason_100 rfl ?_
                refine nr_iload_n 3 dX12_reason_101 rfl ?_
                refine nr_rcv (ks := [19]) (pre := [.inl v3, .inl v2, .inl v1]) (fun a20 hm => ?_)
                refine nr_doI (st := []) (nk_callV (q := (RX12, TX12, 45)) (ci := 12) (c_X12_isDeputy (G := G) hl0 h18 a20 v1 v2 v3) dX12_reason_102 (List.mem_singleton.mp hm) rfl rfl my_X12_isDeputy im_X12_isDeputy se_RX12_X12_isDeputy ml_RX12_187 rfl rfl (Nat.le_of_ble_eq_true rfl) (by decide) (by decide)) (fun h21 x22 => ?_)
                refine nr_iload 8 dX12_reason_105 rfl ?_
                refine nr_iconst (v := 1) dX12_reason_107 (by decide) ?_
                refine nr_icmp_ne (tgt := 115) dX12_reason_108 (by decide) (fun _ => ?_) (fun _ => ?_)
                · refine nr_iconst (v := 1) dX12_reason_111 (by decide) ?_
                  refine nr_goto (tgt := 116) dX12_reason_112 (by decide) ?_
                  exact nk_locals [] rfl (s_X12_reason_c116 hl0  h21 1 x22)
                · refine nr_iconst (v := 0) dX12_reason_115 (by decide) ?_
                  exact nk_locals [] rfl (s_X12_reason_c116 hl0  h21 0 x22)
              · refine nr_bipush (v := 7) dX12_reason_93 (by decide) ?_
                refine nr_goto (tgt := 125) dX12_reason_95 (by decide) ?_
                exact nk_locals [] rfl (s_X12_reason_c125 hl0  h18 7)
            · refine nr_bipush (v := 6) dX12_reason_78 (by decide) ?_
              exact nr_iret rfl rfl dX12_reason_80
        · refine nr_iconst (v := 4) dX12_reason_48 (by decide) ?_
          exact nr_iret rfl rfl dX12_reason_49
      · refine nr_iconst (v := 3) dX12_reason_36 (by decide) ?_
        exact nr_iret rfl rfl dX12_reason_37
    · refine nr_iconst (v := 2) dX12_reason_24 (by decide) ?_
      exact nr_iret rfl rfl dX12_reason_25
theorem c_X12_reason {G : nk_G} {l : Launch} (hl0 : l.flags = flags0) (h : nk_H) (t0 : Nat) (v1 : Int32) (v2 : Int32) (v3 : Int32) (v4 : Int32) (v5 : Int32) (v6 : Int32) (v7 : Int32) (v8 : Int32) : nk_Con G l yX12_reason cX12_reason 9 (some FieldType.int) 4 94 nk_eI [.inr (some t0), .inl v1, .inl v2, .inl v3, .inl v4, .inl v5, .inl v6, .inl v7, .inl v8] h (f_X12_reason h t0 v1 v2 v3 v4 v5 v6 v7 v8) :=
  nk_con (ini := false) (by decide) hl0 (Nat.le_of_ble_eq_true rfl) (by decide) (s_X12_reason hl0 h t0 v1 v2 v3 v4 v5 v6 v7 v8)
set_option maxHeartbeats 4000000 in
theorem s_X12_reasonNow {G : nk_G} {l : Launch} (hl0 : l.flags = flags0) (h : nk_H) (t0 : Nat) (v1 : Int32) (v2 : Int32) (v3 : Int32) (v4 : Int32) : nk_Sim G l RX12 cX12_reasonNow 5 (some FieldType.int) 5 122 false nk_eI 0 [(0, .inr (some t0)), (1, .inl v1), (2, .inl v2), (3, .inl v3), (4, .inl v4)] [] h (f_X12_reasonNow  h t0 v1 v2 v3 v4) := by
  unfold f_X12_reasonNow
  refine nr_aload_n 0 dX12_reasonNow_0 rfl ?_
  refine nr_iload_n 1 dX12_reasonNow_1 rfl ?_
  refine nr_iload_n 1 dX12_reasonNow_2 rfl ?_
  refine nr_aload_n 0 dX12_reasonNow_3 rfl ?_
  refine nr_getI [19] 1 dX12_reasonNow_4 fk_RX12_150 (fun x1 => ?_)
  refine nr_iload_n 2 dX12_reasonNow_7 rfl ?_
  refine nr_iload_n 3 dX12_reasonNow_8 rfl ?_
  refine nr_aload_n 0 dX12_reasonNow_9 rfl ?_
  refine nr_getI [19] 28 dX12_reasonNow_10 fk_RX12_190 (fun x2 => ?_)
  refine nr_iload 4 dX12_reasonNow_13 rfl ?_
  refine nr_aload_n 0 dX12_reasonNow_15 rfl ?_
  refine nr_getI [19] 27 dX12_reasonNow_16 fk_RX12_193 (fun x3 => ?_)
  refine nr_rcv (ks := [19]) (pre := [.inl x3, .inl v4, .inl x2, .inl v3, .inl v2, .inl x1, .inl v1, .inl v1]) (fun a4 hm => ?_)
  refine nr_doI (st := []) (nk_callV (q := (RX12, TX12, 45)) (ci := 12) (c_X12_reason (G := G) hl0 h a4 v1 v1 x1 v2 v3 x2 v4 x3) dX12_reasonNow_19 (List.mem_singleton.mp hm) rfl rfl my_X12_reason im_X12_reason se_RX12_X12_reason ml_RX12_196 rfl rfl (Nat.le_of_ble_eq_true rfl) (by decide) (by decide)) (fun h5 x6 => ?_)
  exact nr_iret rfl rfl dX12_reasonNow_22
theorem c_X12_reasonNow {G : nk_G} {l : Launch} (hl0 : l.flags = flags0) (h : nk_H) (t0 : Nat) (v1 : Int32) (v2 : Int32) (v3 : Int32) (v4 : Int32) : nk_Con G l yX12_reasonNow cX12_reasonNow 5 (some FieldType.int) 5 122 nk_eI [.inr (some t0), .inl v1, .inl v2, .inl v3, .inl v4] h (f_X12_reasonNow h t0 v1 v2 v3 v4) :=
  nk_con (ini := false) (by decide) hl0 (Nat.le_of_ble_eq_true rfl) (by decide) (s_X12_reasonNow hl0 h t0 v1 v2 v3 v4)
set_option maxHeartbeats 4000000 in
theorem s_X12_isGoodAt_c35 {G : nk_G} {l : Launch} (hl0 : l.flags = flags0)   (h : nk_H)  (s0 : Int32) : nk_Sim G l RX12 cX12_isGoodAt 3 (some FieldType.boolean) 3 69 false nk_eI 35 [] [.inl s0] h (f_X12_isGoodAt_c35   h  s0) := by
  unfold f_X12_isGoodAt_c35
  exact nr_zret rfl rfl dX12_isGoodAt_35
set_option maxHeartbeats 4000000 in
theorem s_X12_isGoodAt_c34 {G : nk_G} {l : Launch} (hl0 : l.flags = flags0)   (h : nk_H)   : nk_Sim G l RX12 cX12_isGoodAt 3 (some FieldType.boolean) 3 69 false nk_eI 34 [] [] h (f_X12_isGoodAt_c34   h  ) := by
  unfold f_X12_isGoodAt_c34
  refine nr_iconst (v := 0) dX12_isGoodAt_34 (by decide) ?_
  exact s_X12_isGoodAt_c35 hl0  h 0
set_option maxHeartbeats 4000000 in
theorem s_X12_isGoodAt {G : nk_G} {l : Launch} (hl0 : l.flags = flags0) (h : nk_H) (t0 : Nat) (v1 : Int32) (v2 : Int32) : nk_Sim G l RX12 cX12_isGoodAt 3 (some FieldType.boolean) 3 69 false nk_eI 0 [(0, .inr (some t0)), (1, .inl v1), (2, .inl v2)] [] h (f_X12_isGoodAt  h t0 v1 v2) := by
  unfold f_X12_isGoodAt
  refine nr_aload_n 0 dX12_isGoodAt_0 rfl ?_
  refine nr_iload_n 1 dX12_isGoodAt_1 rfl ?_
  refine nr_iload_n 2 dX12_isGoodAt_2 rfl ?_
  refine nr_rcv (ks := [19]) (pre := [.inl v2, .inl v1]) (fun a1 hm => ?_)
  refine nr_doI (st := []) (nk_callV (q := (RX12, TX12, 45)) (ci := 12) (c_X12_isKnown (G := G) hl0 h a1 v1 v2) dX12_isGoodAt_3 (List.mem_singleton.mp hm) rfl rfl my_X12_isKnown im_X12_isKnown se_RX12_X12_isKnown ml_RX12_172 rfl rfl (Nat.le_of_ble_eq_true rfl) (by decide) (by decide)) (fun h2 x3 => ?_)
  refine nr_if_eq (tgt := 34) dX12_isGoodAt_6 (by decide) (fun _ => ?_) (fun _ => ?_)
  · exact nk_locals [] rfl (s_X12_isGoodAt_c34 hl0  h2)
  · refine nr_aload_n 0 dX12_isGoodAt_9 rfl ?_
    refine nr_iload_n 1 dX12_isGoodAt_10 rfl ?_
    refine nr_iload_n 2 dX12_isGoodAt_11 rfl ?_
    refine nr_rcv (ks := [19]) (pre := [.inl v2, .inl v1]) (fun a4 hm => ?_)
    refine nr_doI (st := []) (nk_callV (q := (RX12, TX12, 45)) (ci := 12) (c_X12_isRevoked (G := G) hl0 h2 a4 v1 v2) dX12_isGoodAt_12 (List.mem_singleton.mp hm) rfl rfl my_X12_isRevoked im_X12_isRevoked se_RX12_X12_isRevoked ml_RX12_175 rfl rfl (Nat.le_of_ble_eq_true rfl) (by decide) (by decide)) (fun h5 x6 => ?_)
    refine nr_if_ne (tgt := 34) dX12_isGoodAt_15 (by decide) (fun _ => ?_) (fun _ => ?_)
    · refine nr_aload_n 0 dX12_isGoodAt_18 rfl ?_
      refine nr_iload_n 2 dX12_isGoodAt_19 rfl ?_
      refine nr_aload_n 0 dX12_isGoodAt_20 rfl ?_
      refine nr_getI [19] 1 dX12_isGoodAt_21 fk_RX12_150 (fun x7 => ?_)
      refine nr_rcv (ks := [19]) (pre := [.inl x7, .inl v2]) (fun a8 hm => ?_)
      refine nr_doI (st := []) (nk_callV (q := (RX12, TX12, 45)) (ci := 12) (c_X12_isOver (G := G) hl0 h5 a8 v2 x7) dX12_isGoodAt_24 (List.mem_singleton.mp hm) rfl rfl my_X12_isOver im_X12_isOver se_RX12_X12_isOver ml_RX12_178 rfl rfl (Nat.le_of_ble_eq_true rfl) (by decide) (by decide)) (fun h9 x10 => ?_)
      refine nr_if_ne (tgt := 34) dX12_isGoodAt_27 (by decide) (fun _ => ?_) (fun _ => ?_)
      · refine nr_iconst (v := 1) dX12_isGoodAt_30 (by decide) ?_
        refine nr_goto (tgt := 35) dX12_isGoodAt_31 (by decide) ?_
        exact nk_locals [] rfl (s_X12_isGoodAt_c35 hl0  h9 1)
      · exact nk_locals [] rfl (s_X12_isGoodAt_c34 hl0  h9)
    · exact nk_locals [] rfl (s_X12_isGoodAt_c34 hl0  h5)
theorem c_X12_isGoodAt {G : nk_G} {l : Launch} (hl0 : l.flags = flags0) (h : nk_H) (t0 : Nat) (v1 : Int32) (v2 : Int32) : nk_Con G l yX12_isGoodAt cX12_isGoodAt 3 (some FieldType.boolean) 3 69 nk_eI [.inr (some t0), .inl v1, .inl v2] h (f_X12_isGoodAt h t0 v1 v2) :=
  nk_con (ini := false) (by decide) hl0 (Nat.le_of_ble_eq_true rfl) (by decide) (s_X12_isGoodAt hl0 h t0 v1 v2)
set_option maxHeartbeats 4000000 in
theorem s_X12_draft_c104 {G : nk_G} {l : Launch} (hl0 : l.flags = flags0)   (h : nk_H)   : nk_Sim G l RX12 cX12_draft 7 (none : Option FieldType) 1 22 false nk_eV 104 [] [] h (f_X12_draft_c104   h  ) := by
  unfold f_X12_draft_c104
  exact nr_vret rfl rfl dX12_draft_104
set_option maxHeartbeats 4000000 in
theorem s_X12_draft_c71 {G : nk_G} {l : Launch} (hl0 : l.flags = flags0)   (h : nk_H) (t0 : Nat) (v1 : Int32) (v2 : Int32) (v3 : Int32) (v4 : Int32) (v5 : Int32) (s0 : Int32) (s1 : Option Nat) : nk_Sim G l RX12 cX12_draft 7 (none : Option FieldType) 1 22 false nk_eV 71 [(0, .inr (some t0)), (1, .inl v1), (2, .inl v2), (3, .inl v3), (4, .inl v4), (5, .inl v5)] [.inl s0, .inr s1] h (f_X12_draft_c71   h t0 v1 v2 v3 v4 v5 s0 s1) := by
  unfold f_X12_draft_c71
  refine nr_rcv (ks := [19]) (pre := [.inl s0]) (fun a1 hm => ?_)
  refine nr_doI (st := []) (nk_callV (q := (RX12, TX12, 45)) (ci := 12) (c_X12_holds (G := G) hl0 h a1 s0) dX12_draft_71 (List.mem_singleton.mp hm) rfl rfl my_X12_holds im_X12_holds se_RX12_X12_holds ml_RX12_143 rfl rfl (Nat.le_of_ble_eq_true rfl) (by decide) (by decide)) (fun h2 x3 => ?_)
  refine nr_if_eq (tgt := 104) dX12_draft_74 (by decide) (fun _ => ?_) (fun _ => ?_)
  · exact nk_locals [] rfl (s_X12_draft_c104 hl0  h2)
  · refine nr_aload_n 0 dX12_draft_77 rfl ?_
    refine nr_iload_n 1 dX12_draft_78 rfl ?_
    refine nr_putI [19] 22 dX12_draft_79 fk_RX12_65 fw_RX12_65_n (fun h4 => ?_)
    refine nr_aload_n 0 dX12_draft_82 rfl ?_
    refine nr_iload_n 2 dX12_draft_83 rfl ?_
    refine nr_putI [19] 23 dX12_draft_84 fk_RX12_69 fw_RX12_69_n (fun h5 => ?_)
    refine nr_aload_n 0 dX12_draft_87 rfl ?_
    refine nr_iload_n 3 dX12_draft_88 rfl ?_
    refine nr_putI [19] 24 dX12_draft_89 fk_RX12_73 fw_RX12_73_n (fun h6 => ?_)
    refine nr_aload_n 0 dX12_draft_92 rfl ?_
    refine nr_iload 4 dX12_draft_93 rfl ?_
    refine nr_putI [19] 25 dX12_draft_95 fk_RX12_76 fw_RX12_76_n (fun h7 => ?_)
    refine nr_aload_n 0 dX12_draft_98 rfl ?_
    refine nr_iload 5 dX12_draft_99 rfl ?_
    refine nr_putI [19] 26 dX12_draft_101 fk_RX12_200 fw_RX12_200_n (fun h8 => ?_)
    exact nk_locals [] rfl (s_X12_draft_c104 hl0  h8)
set_option maxHeartbeats 4000000 in
theorem s_X12_draft_c70 {G : nk_G} {l : Launch} (hl0 : l.flags = flags0)   (h : nk_H) (t0 : Nat) (v1 : Int32) (v2 : Int32) (v3 : Int32) (v4 : Int32) (v5 : Int32) (s0 : Option Nat) : nk_Sim G l RX12 cX12_draft 7 (none : Option FieldType) 1 22 false nk_eV 70 [(0, .inr (some t0)), (1, .inl v1), (2, .inl v2), (3, .inl v3), (4, .inl v4), (5, .inl v5)] [.inr s0] h (f_X12_draft_c70   h t0 v1 v2 v3 v4 v5 s0) := by
  unfold f_X12_draft_c70
  refine nr_iconst (v := 1) dX12_draft_70 (by decide) ?_
  exact s_X12_draft_c71 hl0  h t0 v1 v2 v3 v4 v5 1 s0
set_option maxHeartbeats 4000000 in
theorem s_X12_draft_c36 {G : nk_G} {l : Launch} (hl0 : l.flags = flags0)   (h : nk_H) (t0 : Nat) (v1 : Int32) (v2 : Int32) (v3 : Int32) (v4 : Int32) (v5 : Int32) (s0 : Int32) : nk_Sim G l RX12 cX12_draft 7 (none : Option FieldType) 1 22 false nk_eV 36 [(0, .inr (some t0)), (1, .inl v1), (2, .inl v2), (3, .inl v3), (4, .inl v4), (5, .inl v5)] [.inl s0] h (f_X12_draft_c36   h t0 v1 v2 v3 v4 v5 s0) := by
  unfold f_X12_draft_c36
  refine nr_istore (lv2 := [(6, .inl s0), (0, .inr (some t0)), (1, .inl v1), (2, .inl v2), (3, .inl v3), (4, .inl v4), (5, .inl v5)]) dX12_draft_36 (by decide) rfl ?_
  refine nr_aload_n 1 dX12_draft_38 rfl ?_
  refine nr_iload 0 dX12_draft_39 rfl ?_
  refine nr_if_eq (tgt := 70) dX12_draft_41 (by decide) (fun _ => ?_) (fun _ => ?_)
  · exact nk_locals [1, 2, 3, 4, 5, 6] rfl (s_X12_draft_c70 hl0  h t0 v1 v2 v3 v4 v5 (some t0))
  · refine nr_iload 5 dX12_draft_44 rfl ?_
    refine nr_iconst (v := 0) dX12_draft_46 (by decide) ?_
    refine nr_sipush (v := 400) dX12_draft_47 (by decide) ?_
    refine nr_doI (st := [.inr (some t0)]) (nk_callS (c_X12_in (G := G) hl0 h v4 0 400) dX12_draft_50 my_X12_in st_X12_in ml_RX12_124 rfl rfl (Nat.le_of_ble_eq_true rfl) (by decide) (by decide)) (fun h9 x10 => ?_)
    refine nr_if_eq (tgt := 70) dX12_draft_53 (by decide) (fun _ => ?_) (fun _ => ?_)
    · exact nk_locals [1, 2, 3, 4, 5, 6] rfl (s_X12_draft_c70 hl0  h9 t0 v1 v2 v3 v4 v5 (some t0))
    · refine nr_iload 6 dX12_draft_56 rfl ?_
      refine nr_iconst (v := 0) dX12_draft_58 (by decide) ?_
      refine nr_iconst (v := 3) dX12_draft_59 (by decide) ?_
      refine nr_doI (st := [.inr (some t0)]) (nk_callS (c_X12_in (G := G) hl0 h9 v5 0 3) dX12_draft_60 my_X12_in st_X12_in ml_RX12_124 rfl rfl (Nat.le_of_ble_eq_true rfl) (by decide) (by decide)) (fun h11 x12 => ?_)
      refine nr_if_eq (tgt := 70) dX12_draft_63 (by decide) (fun _ => ?_) (fun _ => ?_)
      · exact nk_locals [1, 2, 3, 4, 5, 6] rfl (s_X12_draft_c70 hl0  h11 t0 v1 v2 v3 v4 v5 (some t0))
      · refine nr_iconst (v := 0) dX12_draft_66 (by decide) ?_
        refine nr_goto (tgt := 71) dX12_draft_67 (by decide) ?_
        exact nk_locals [1, 2, 3, 4, 5, 6] rfl (s_X12_draft_c71 hl0  h11 t0 v1 v2 v3 v4 v5 0 (some t0))
set_option maxHeartbeats 4000000 in
theorem s_X12_draft_c35 {G : nk_G} {l : Launch} (hl0 : l.flags = flags0)   (h : nk_H) (t0 : Nat) (v1 : Int32) (v2 : Int32) (v3 : Int32) (v4 : Int32) (v5 : Int32)  : nk_Sim G l RX12 cX12_draft 7 (none : Option FieldType) 1 22 false nk_eV 35 [(0, .inr (some t0)), (1, .inl v1), (2, .inl v2), (3, .inl v3), (4, .inl v4), (5, .inl v5)] [] h (f_X12_draft_c35   h t0 v1 v2 v3 v4 v5 ) := by
  unfold f_X12_draft_c35
  refine nr_iconst (v := 0) dX12_draft_35 (by decide) ?_
  exact s_X12_draft_c36 hl0  h t0 v1 v2 v3 v4 v5 0
set_option maxHeartbeats 4000000 in
theorem s_X12_draft {G : nk_G} {l : Launch} (hl0 : l.flags = flags0) (h : nk_H) (t0 : Nat) (v1 : Int32) (v2 : Int32) (v3 : Int32) (v4 : Int32) (v5 : Int32) : nk_Sim G l RX12 cX12_draft 7 (none : Option FieldType) 1 22 false nk_eV 0 [(0, .inr (some t0)), (1, .inl v1), (2, .inl v2), (3, .inl v3), (4, .inl v4), (5, .inl v5)] [] h (f_X12_draft  h t0 v1 v2 v3 v4 v5) := by
  unfold f_X12_draft
  refine nr_iload_n 1 dX12_draft_0 rfl ?_
  refine nr_iconst (v := 1) dX12_draft_1 (by decide) ?_
  refine nr_bipush (v := 63) dX12_draft_2 (by decide) ?_
  refine nr_doI (st := []) (nk_callS (c_X12_in (G := G) hl0 h v1 1 63) dX12_draft_4 my_X12_in st_X12_in ml_RX12_124 rfl rfl (Nat.le_of_ble_eq_true rfl) (by decide) (by decide)) (fun h13 x14 => ?_)
  refine nr_if_eq (tgt := 35) dX12_draft_7 (by decide) (fun _ => ?_) (fun _ => ?_)
  · exact s_X12_draft_c35 hl0  h13 t0 v1 v2 v3 v4 v5
  · refine nr_iload_n 2 dX12_draft_10 rfl ?_
    refine nr_iconst (v := 1) dX12_draft_11 (by decide) ?_
    refine nr_sipush (v := 10000) dX12_draft_12 (by decide) ?_
    refine nr_doI (st := []) (nk_callS (c_X12_in (G := G) hl0 h13 v2 1 10000) dX12_draft_15 my_X12_in st_X12_in ml_RX12_124 rfl rfl (Nat.le_of_ble_eq_true rfl) (by decide) (by decide)) (fun h15 x16 => ?_)
    refine nr_if_eq (tgt := 35) dX12_draft_18 (by decide) (fun _ => ?_) (fun _ => ?_)
    · exact s_X12_draft_c35 hl0  h15 t0 v1 v2 v3 v4 v5
    · refine nr_iload_n 3 dX12_draft_21 rfl ?_
      refine nr_iconst (v := 1) dX12_draft_22 (by decide) ?_
      refine nr_ldc (v := 100000) dX12_draft_23 kc_RX12_72 ?_
      refine nr_doI (st := []) (nk_callS (c_X12_in (G := G) hl0 h15 v3 1 100000) dX12_draft_25 my_X12_in st_X12_in ml_RX12_124 rfl rfl (Nat.le_of_ble_eq_true rfl) (by decide) (by decide)) (fun h17 x18 => ?_)
      refine nr_if_eq (tgt := 35) dX12_draft_28 (by decide) (fun _ => ?_) (fun _ => ?_)
      · exact s_X12_draft_c35 hl0  h17 t0 v1 v2 v3 v4 v5
      · refine nr_iconst (v := 1) dX12_draft_31 (by decide) ?_
        refine nr_goto (tgt := 36) dX12_draft_32 (by decide) ?_
        exact s_X12_draft_c36 hl0  h17 t0 v1 v2 v3 v4 v5 1
theorem c_X12_draft {G : nk_G} {l : Launch} (hl0 : l.flags = flags0) (h : nk_H) (t0 : Nat) (v1 : Int32) (v2 : Int32) (v3 : Int32) (v4 : Int32) (v5 : Int32) : nk_Con G l yX12_draft cX12_draft 7 (none : Option FieldType) 1 22 nk_eV [.inr (some t0), .inl v1, .inl v2, .inl v3, .inl v4, .inl v5] h (f_X12_draft h t0 v1 v2 v3 v4 v5) :=
  nk_con (ini := false) (by decide) hl0 (Nat.le_of_ble_eq_true rfl) (by decide) (s_X12_draft hl0 h t0 v1 v2 v3 v4 v5)
set_option maxHeartbeats 4000000 in
theorem s_X12_isFull_c24 {G : nk_G} {l : Launch} (hl0 : l.flags = flags0)   (h : nk_H)  (s0 : Int32) : nk_Sim G l RX12 cX12_isFull 1 (some FieldType.boolean) 0 0 false nk_eI 24 [] [.inl s0] h (f_X12_isFull_c24   h  s0) := by
  unfold f_X12_isFull_c24
  exact nr_zret rfl rfl dX12_isFull_24
set_option maxHeartbeats 4000000 in
theorem s_X12_isFull_c19 {G : nk_G} {l : Launch} (hl0 : l.flags = flags0)   (h : nk_H)   : nk_Sim G l RX12 cX12_isFull 1 (some FieldType.boolean) 0 0 false nk_eI 19 [] [] h (f_X12_isFull_c19   h  ) := by
  unfold f_X12_isFull_c19
  refine nr_iconst (v := 1) dX12_isFull_19 (by decide) ?_
  refine nr_goto (tgt := 24) dX12_isFull_20 (by decide) ?_
  exact s_X12_isFull_c24 hl0  h 1
set_option maxHeartbeats 4000000 in
theorem s_X12_isFull {G : nk_G} {l : Launch} (hl0 : l.flags = flags0) (h : nk_H) (t0 : Nat) : nk_Sim G l RX12 cX12_isFull 1 (some FieldType.boolean) 0 0 false nk_eI 0 [(0, .inr (some t0))] [] h (f_X12_isFull  h t0) := by
  unfold f_X12_isFull
  refine nr_aload_n 0 dX12_isFull_0 rfl ?_
  refine nr_getI [19] 12 dX12_isFull_1 fk_RX12_128 (fun x1 => ?_)
  refine nr_bipush (v := 40) dX12_isFull_4 (by decide) ?_
  refine nr_icmp_eq (tgt := 19) dX12_isFull_6 (by decide) (fun _ => ?_) (fun _ => ?_)
  · exact nk_locals [] rfl (s_X12_isFull_c19 hl0  h)
  · refine nr_aload_n 0 dX12_isFull_9 rfl ?_
    refine nr_getI [19] 3 dX12_isFull_10 fk_RX12_153 (fun x2 => ?_)
    refine nr_sipush (v := 160) dX12_isFull_13 (by decide) ?_
    refine nr_icmp_ne (tgt := 23) dX12_isFull_16 (by decide) (fun _ => ?_) (fun _ => ?_)
    · exact nk_locals [] rfl (s_X12_isFull_c19 hl0  h)
    · refine nr_iconst (v := 0) dX12_isFull_23 (by decide) ?_
      exact nk_locals [] rfl (s_X12_isFull_c24 hl0  h 0)
theorem c_X12_isFull {G : nk_G} {l : Launch} (hl0 : l.flags = flags0) (h : nk_H) (t0 : Nat) : nk_Con G l yX12_isFull cX12_isFull 1 (some FieldType.boolean) 0 0 nk_eI [.inr (some t0)] h (f_X12_isFull h t0) :=
  nk_con (ini := false) (by decide) hl0 (Nat.le_of_ble_eq_true rfl) (by decide) (s_X12_isFull hl0 h t0)
set_option maxHeartbeats 4000000 in
theorem s_X12_adds {G : nk_G} {l : Launch} (hl0 : l.flags = flags0) (h : nk_H) (t0 : Nat) (v1 : Int32) (v2 : Int32) (v3 : Int32) (v4 : Int32) : nk_Sim G l RX12 cX12_adds 5 (some FieldType.int) 1 23 false nk_eI 0 [(0, .inr (some t0)), (1, .inl v1), (2, .inl v2), (3, .inl v3), (4, .inl v4)] [] h (f_X12_adds  h t0 v1 v2 v3 v4) := by
  unfold f_X12_adds
  refine nr_aload_n 0 dX12_adds_0 rfl ?_
  refine nr_getP [19] 14 dX12_adds_1 fk_RX12_41 (fun x1 => ?_)
  refine nr_aload_n 0 dX12_adds_4 rfl ?_
  refine nr_getI [19] 12 dX12_adds_5 fk_RX12_128 (fun x2 => ?_)
  refine nr_iload_n 2 dX12_adds_8 rfl ?_
  refine nr_iastore dX12_adds_9 (fun h3 => ?_)
  refine nr_aload_n 0 dX12_adds_10 rfl ?_
  refine nr_getP [19] 15 dX12_adds_11 fk_RX12_44 (fun x4 => ?_)
  refine nr_aload_n 0 dX12_adds_14 rfl ?_
  refine nr_getI [19] 12 dX12_adds_15 fk_RX12_128 (fun x5 => ?_)
  refine nr_iload_n 3 dX12_adds_18 rfl ?_
  refine nr_iastore dX12_adds_19 (fun h6 => ?_)
  refine nr_aload_n 0 dX12_adds_20 rfl ?_
  refine nr_getP [19] 16 dX12_adds_21 fk_RX12_47 (fun x7 => ?_)
  refine nr_aload_n 0 dX12_adds_24 rfl ?_
  refine nr_getI [19] 12 dX12_adds_25 fk_RX12_128 (fun x8 => ?_)
  refine nr_iload 4 dX12_adds_28 rfl ?_
  refine nr_iastore dX12_adds_30 (fun h9 => ?_)
  refine nr_aload_n 0 dX12_adds_31 rfl ?_
  refine nr_getP [19] 17 dX12_adds_32 fk_RX12_50 (fun x10 => ?_)
  refine nr_aload_n 0 dX12_adds_35 rfl ?_
  refine nr_getI [19] 12 dX12_adds_36 fk_RX12_128 (fun x11 => ?_)
  refine nr_aload_n 0 dX12_adds_39 rfl ?_
  refine nr_getI [19] 22 dX12_adds_40 fk_RX12_65 (fun x12 => ?_)
  refine nr_iastore dX12_adds_43 (fun h13 => ?_)
  refine nr_aload_n 0 dX12_adds_44 rfl ?_
  refine nr_getP [19] 18 dX12_adds_45 fk_RX12_53 (fun x14 => ?_)
  refine nr_aload_n 0 dX12_adds_48 rfl ?_
  refine nr_getI [19] 12 dX12_adds_49 fk_RX12_128 (fun x15 => ?_)
  refine nr_aload_n 0 dX12_adds_52 rfl ?_
  refine nr_getI [19] 23 dX12_adds_53 fk_RX12_69 (fun x16 => ?_)
  refine nr_iastore dX12_adds_56 (fun h17 => ?_)
  refine nr_aload_n 0 dX12_adds_57 rfl ?_
  refine nr_getP [19] 19 dX12_adds_58 fk_RX12_56 (fun x18 => ?_)
  refine nr_aload_n 0 dX12_adds_61 rfl ?_
  refine nr_getI [19] 12 dX12_adds_62 fk_RX12_128 (fun x19 => ?_)
  refine nr_aload_n 0 dX12_adds_65 rfl ?_
  refine nr_getI [19] 24 dX12_adds_66 fk_RX12_73 (fun x20 => ?_)
  refine nr_iastore dX12_adds_69 (fun h21 => ?_)
  refine nr_aload_n 0 dX12_adds_70 rfl ?_
  refine nr_getP [19] 20 dX12_adds_71 fk_RX12_59 (fun x22 => ?_)
  refine nr_aload_n 0 dX12_adds_74 rfl ?_
  refine nr_getI [19] 12 dX12_adds_75 fk_RX12_128 (fun x23 => ?_)
  refine nr_aload_n 0 dX12_adds_78 rfl ?_
  refine nr_getI [19] 1 dX12_adds_79 fk_RX12_150 (fun x24 => ?_)
  refine nr_aload_n 0 dX12_adds_82 rfl ?_
  refine nr_getI [19] 25 dX12_adds_83 fk_RX12_76 (fun x25 => ?_)
  refine nr_iadd dX12_adds_86 ?_
  refine nr_iastore dX12_adds_87 (fun h26 => ?_)
  refine nr_aload_n 0 dX12_adds_88 rfl ?_
  refine nr_getP [19] 21 dX12_adds_89 fk_RX12_62 (fun x27 => ?_)
  refine nr_aload_n 0 dX12_adds_92 rfl ?_
  refine nr_getI [19] 12 dX12_adds_93 fk_RX12_128 (fun x28 => ?_)
  refine nr_aload_n 0 dX12_adds_96 rfl ?_
  refine nr_getI [19] 26 dX12_adds_97 fk_RX12_200 (fun x29 => ?_)
  refine nr_iastore dX12_adds_100 (fun h30 => ?_)
  refine nr_aload_n 0 dX12_adds_101 rfl ?_
  refine nr_getP [19] 13 dX12_adds_102 fk_RX12_38 (fun x31 => ?_)
  refine nr_aload_n 0 dX12_adds_105 rfl ?_
  refine nr_getI [19] 12 dX12_adds_106 fk_RX12_128 (fun x32 => ?_)
  refine nr_aload_n 0 dX12_adds_109 rfl ?_
  refine nr_iload_n 1 dX12_adds_110 rfl ?_
  refine nr_iconst (v := 0) dX12_adds_111 (by decide) ?_
  refine nr_aload_n 0 dX12_adds_112 rfl ?_
  refine nr_getI [19] 12 dX12_adds_113 fk_RX12_128 (fun x33 => ?_)
  refine nr_rcv (ks := [19]) (pre := [.inl x33, .inl 0, .inl v1]) (fun a34 hm => ?_)
  refine nr_doI (st := [.inl x32, .inr x31]) (nk_callV (q := (RX12, TX12, 45)) (ci := 12) (c_X12_makes (G := G) hl0 h30 a34 v1 0 x33) dX12_adds_116 (List.mem_singleton.mp hm) rfl rfl my_X12_makes im_X12_makes se_RX12_X12_makes ml_RX12_203 rfl rfl (Nat.le_of_ble_eq_true rfl) (by decide) (by decide)) (fun h35 x36 => ?_)
  refine nr_iastore dX12_adds_119 (fun h37 => ?_)
  refine nr_aload_n 0 dX12_adds_120 rfl ?_
  refine nr_dup dX12_adds_121 ?_
  refine nr_getI [19] 12 dX12_adds_122 fk_RX12_128 (fun x38 => ?_)
  refine nr_iconst (v := 1) dX12_adds_125 (by decide) ?_
  refine nr_iadd dX12_adds_126 ?_
  refine nr_putI [19] 12 dX12_adds_127 fk_RX12_128 fw_RX12_128_n (fun h39 => ?_)
  refine nr_aload_n 0 dX12_adds_130 rfl ?_
  refine nr_getI [19] 12 dX12_adds_131 fk_RX12_128 (fun x40 => ?_)
  refine nr_iconst (v := 1) dX12_adds_134 (by decide) ?_
  refine nr_isub dX12_adds_135 ?_
  exact nr_iret rfl rfl dX12_adds_136
theorem c_X12_adds {G : nk_G} {l : Launch} (hl0 : l.flags = flags0) (h : nk_H) (t0 : Nat) (v1 : Int32) (v2 : Int32) (v3 : Int32) (v4 : Int32) : nk_Con G l yX12_adds cX12_adds 5 (some FieldType.int) 1 23 nk_eI [.inr (some t0), .inl v1, .inl v2, .inl v3, .inl v4] h (f_X12_adds h t0 v1 v2 v3 v4) :=
  nk_con (ini := false) (by decide) hl0 (Nat.le_of_ble_eq_true rfl) (by decide) (s_X12_adds hl0 h t0 v1 v2 v3 v4)
set_option maxHeartbeats 4000000 in
theorem s_X12_grant_c77 {G : nk_G} {l : Launch} (hl0 : l.flags = flags0)   (h : nk_H)  (s0 : Int32) : nk_Sim G l RX12 cX12_grant 5 (some FieldType.int) 2 47 false nk_eI 77 [] [.inl s0] h (f_X12_grant_c77   h  s0) := by
  unfold f_X12_grant_c77
  exact nr_iret rfl rfl dX12_grant_77
set_option maxHeartbeats 4000000 in
theorem s_X12_grant_c59 {G : nk_G} {l : Launch} (hl0 : l.flags = flags0)   (h : nk_H) (t0 : Nat) (v1 : Int32) (v2 : Int32) (v3 : Int32) (s0 : Int32) (s1 : Option Nat) : nk_Sim G l RX12 cX12_grant 5 (some FieldType.int) 2 47 false nk_eI 59 [(0, .inr (some t0)), (1, .inl v1), (2, .inl v2), (3, .inl v3)] [.inl s0, .inr s1] h (f_X12_grant_c59   h t0 v1 v2 v3 s0 s1) := by
  unfold f_X12_grant_c59
  refine nr_rcv (ks := [19]) (pre := [.inl s0]) (fun a1 hm => ?_)
  refine nr_doI (st := []) (nk_callV (q := (RX12, TX12, 45)) (ci := 12) (c_X12_holds (G := G) hl0 h a1 s0) dX12_grant_59 (List.mem_singleton.mp hm) rfl rfl my_X12_holds im_X12_holds se_RX12_X12_holds ml_RX12_143 rfl rfl (Nat.le_of_ble_eq_true rfl) (by decide) (by decide)) (fun h2 x3 => ?_)
  refine nr_if_eq (tgt := 76) dX12_grant_62 (by decide) (fun _ => ?_) (fun _ => ?_)
  · refine nr_iconst (v := 0) dX12_grant_76 (by decide) ?_
    exact nk_locals [] rfl (s_X12_grant_c77 hl0  h2 0)
  · refine nr_aload_n 0 dX12_grant_65 rfl ?_
    refine nr_iload_n 1 dX12_grant_66 rfl ?_
    refine nr_iload_n 2 dX12_grant_67 rfl ?_
    refine nr_iload_n 3 dX12_grant_68 rfl ?_
    refine nr_iconst (v := (-1)) dX12_grant_69 (by decide) ?_
    refine nr_rcv (ks := [19]) (pre := [.inl (-1), .inl v3, .inl v2, .inl v1]) (fun a4 hm => ?_)
    refine nr_doI (st := []) (nk_callV (q := (RX12, TX12, 45)) (ci := 12) (c_X12_adds (G := G) hl0 h2 a4 v1 v2 v3 (-1)) dX12_grant_70 (List.mem_singleton.mp hm) rfl rfl my_X12_adds im_X12_adds se_RX12_X12_adds ml_RX12_213 rfl rfl (Nat.le_of_ble_eq_true rfl) (by decide) (by decide)) (fun h5 x6 => ?_)
    refine nr_goto (tgt := 77) dX12_grant_73 (by decide) ?_
    exact nk_locals [] rfl (s_X12_grant_c77 hl0  h5 x6)
set_option maxHeartbeats 4000000 in
theorem s_X12_grant_c26 {G : nk_G} {l : Launch} (hl0 : l.flags = flags0)   (h : nk_H) (t0 : Nat) (v1 : Int32) (v2 : Int32) (v3 : Int32) (s0 : Int32) : nk_Sim G l RX12 cX12_grant 5 (some FieldType.int) 2 47 false nk_eI 26 [(0, .inr (some t0)), (1, .inl v1), (2, .inl v2), (3, .inl v3)] [.inl s0] h (f_X12_grant_c26   h t0 v1 v2 v3 s0) := by
  unfold f_X12_grant_c26
  refine nr_istore (lv2 := [(4, .inl s0), (0, .inr (some t0)), (1, .inl v1), (2, .inl v2), (3, .inl v3)]) dX12_grant_26 (by decide) rfl ?_
  refine nr_aload_n 1 dX12_grant_28 rfl ?_
  refine nr_iload 0 dX12_grant_29 rfl ?_
  refine nr_if_ne (tgt := 38) dX12_grant_31 (by decide) (fun _ => ?_) (fun _ => ?_)
  · refine nr_iconst (v := 1) dX12_grant_34 (by decide) ?_
    refine nr_goto (tgt := 59) dX12_grant_35 (by decide) ?_
    exact nk_locals [1, 2, 3, 4] rfl (s_X12_grant_c59 hl0  h t0 v1 v2 v3 1 (some t0))
  · refine nr_iload_n 3 dX12_grant_38 rfl ?_
    refine nr_iload_n 4 dX12_grant_39 rfl ?_
    refine nr_icmp_ne (tgt := 47) dX12_grant_40 (by decide) (fun _ => ?_) (fun _ => ?_)
    · refine nr_iconst (v := 2) dX12_grant_43 (by decide) ?_
      refine nr_goto (tgt := 59) dX12_grant_44 (by decide) ?_
      exact nk_locals [1, 2, 3, 4] rfl (s_X12_grant_c59 hl0  h t0 v1 v2 v3 2 (some t0))
    · refine nr_aload_n 1 dX12_grant_47 rfl ?_
      refine nr_rcv (ks := [19]) (pre := []) (fun a7 hm => ?_)
      refine nr_doI (st := [.inr (some t0)]) (nk_callV (q := (RX12, TX12, 45)) (ci := 12) (c_X12_isFull (G := G) hl0 h a7) dX12_grant_48 (List.mem_singleton.mp hm) rfl rfl my_X12_isFull im_X12_isFull se_RX12_X12_isFull ml_RX12_209 rfl rfl (Nat.le_of_ble_eq_true rfl) (by decide) (by decide)) (fun h8 x9 => ?_)
      refine nr_if_eq (tgt := 58) dX12_grant_51 (by decide) (fun _ => ?_) (fun _ => ?_)
      · refine nr_iconst (v := 0) dX12_grant_58 (by decide) ?_
        exact nk_locals [1, 2, 3, 4] rfl (s_X12_grant_c59 hl0  h8 t0 v1 v2 v3 0 (some t0))
      · refine nr_iconst (v := 3) dX12_grant_54 (by decide) ?_
        refine nr_goto (tgt := 59) dX12_grant_55 (by decide) ?_
        exact nk_locals [1, 2, 3, 4] rfl (s_X12_grant_c59 hl0  h8 t0 v1 v2 v3 3 (some t0))
set_option maxHeartbeats 4000000 in
theorem s_X12_grant_c25 {G : nk_G} {l : Launch} (hl0 : l.flags = flags0)   (h : nk_H) (t0 : Nat) (v1 : Int32) (v2 : Int32) (v3 : Int32)  : nk_Sim G l RX12 cX12_grant 5 (some FieldType.int) 2 47 false nk_eI 25 [(0, .inr (some t0)), (1, .inl v1), (2, .inl v2), (3, .inl v3)] [] h (f_X12_grant_c25   h t0 v1 v2 v3 ) := by
  unfold f_X12_grant_c25
  refine nr_iconst (v := 0) dX12_grant_25 (by decide) ?_
  exact s_X12_grant_c26 hl0  h t0 v1 v2 v3 0
set_option maxHeartbeats 4000000 in
theorem s_X12_grant {G : nk_G} {l : Launch} (hl0 : l.flags = flags0) (h : nk_H) (t0 : Nat) (v1 : Int32) (v2 : Int32) (v3 : Int32) : nk_Sim G l RX12 cX12_grant 5 (some FieldType.int) 2 47 false nk_eI 0 [(0, .inr (some t0)), (1, .inl v1), (2, .inl v2), (3, .inl v3)] [] h (f_X12_grant  h t0 v1 v2 v3) := by
  unfold f_X12_grant
  refine nr_iload_n 1 dX12_grant_0 rfl ?_
  refine nr_doI (st := []) (nk_callS (c_X12_isKiosk (G := G) hl0 h v1) dX12_grant_1 my_X12_isKiosk st_X12_isKiosk ml_RX12_131 rfl rfl (Nat.le_of_ble_eq_true rfl) (by decide) (by decide)) (fun h10 x11 => ?_)
  refine nr_if_eq (tgt := 25) dX12_grant_4 (by decide) (fun _ => ?_) (fun _ => ?_)
  · exact s_X12_grant_c25 hl0  h10 t0 v1 v2 v3
  · refine nr_iload_n 2 dX12_grant_7 rfl ?_
    refine nr_doI (st := []) (nk_callS (c_X12_isPerson (G := G) hl0 h10 v2) dX12_grant_8 my_X12_isPerson st_X12_isPerson ml_RX12_206 rfl rfl (Nat.le_of_ble_eq_true rfl) (by decide) (by decide)) (fun h12 x13 => ?_)
    refine nr_if_eq (tgt := 25) dX12_grant_11 (by decide) (fun _ => ?_) (fun _ => ?_)
    · exact s_X12_grant_c25 hl0  h12 t0 v1 v2 v3
    · refine nr_iload_n 3 dX12_grant_14 rfl ?_
      refine nr_doI (st := []) (nk_callS (c_X12_isPerson (G := G) hl0 h12 v3) dX12_grant_15 my_X12_isPerson st_X12_isPerson ml_RX12_206 rfl rfl (Nat.le_of_ble_eq_true rfl) (by decide) (by decide)) (fun h14 x15 => ?_)
      refine nr_if_eq (tgt := 25) dX12_grant_18 (by decide) (fun _ => ?_) (fun _ => ?_)
      · exact s_X12_grant_c25 hl0  h14 t0 v1 v2 v3
      · refine nr_iconst (v := 1) dX12_grant_21 (by decide) ?_
        refine nr_goto (tgt := 26) dX12_grant_22 (by decide) ?_
        exact s_X12_grant_c26 hl0  h14 t0 v1 v2 v3 1
theorem c_X12_grant {G : nk_G} {l : Launch} (hl0 : l.flags = flags0) (h : nk_H) (t0 : Nat) (v1 : Int32) (v2 : Int32) (v3 : Int32) : nk_Con G l yX12_grant cX12_grant 5 (some FieldType.int) 2 47 nk_eI [.inr (some t0), .inl v1, .inl v2, .inl v3] h (f_X12_grant h t0 v1 v2 v3) :=
  nk_con (ini := false) (by decide) hl0 (Nat.le_of_ble_eq_true rfl) (by decide) (s_X12_grant hl0 h t0 v1 v2 v3)
