set_option maxHeartbeats 4000000 in
theorem s_X12_init_c303 {G : nk_G} {l : Launch} (hl0 : l.flags = flags0) {r303 : nk_H → Nat → Int32 → Option (nk_H × Unit)} (hr303 : ∀ (h : nk_H) (t0 : Nat) (v1 : Int32), nk_Sim G l RX12 cX12_init 2 (none : Option FieldType) 1 12 true nk_eV 303 [(0, .inr (some t0)), (1, .inl v1)] [] h (r303 h t0 v1)) (h : nk_H) (t0 : Nat) (v1 : Int32)  : nk_Sim G l RX12 cX12_init 2 (none : Option FieldType) 1 12 true nk_eV 303 [(0, .inr (some t0)), (1, .inl v1)] [] h (f_X12_init_c303  r303 h t0 v1 ) := by
  unfold f_X12_init_c303
  refine nr_iload_n 1 dX12_init_303 rfl ?_
  refine nr_sipush (v := 960) dX12_init_304 (by decide) ?_
  refine nr_icmp_ge (tgt := 323) dX12_init_307 (by decide) (fun _ => ?_) (fun _ => ?_)
  · exact nr_vret rfl rfl dX12_init_323
  · refine nr_aload_n 0 dX12_init_310 rfl ?_
    refine nr_getP [19] 10 dX12_init_311 fk_RX12_31 (fun x1 => ?_)
    refine nr_iload_n 1 dX12_init_314 rfl ?_
    refine nr_iconst (v := (-1)) dX12_init_315 (by decide) ?_
    refine nr_iastore dX12_init_316 (fun h2 => ?_)
    refine nr_iinc (lv2 := [(1, .inl (v1 + 1)), (0, .inr (some t0))]) 1 (v1 + 1) dX12_init_317 rfl (by rfl) (by decide) rfl ?_
    refine nr_goto (tgt := 303) dX12_init_320 (by decide) ?_
    exact nk_locals [1, 0] rfl (hr303 h2 t0 (v1 + 1))
theorem s_X12_init_b303 {G : nk_G} {l : Launch} (hl0 : l.flags = flags0)   : ∀ (n : Nat) (h : nk_H) (t0 : Nat) (v1 : Int32), nk_Sim G l RX12 cX12_init 2 (none : Option FieldType) 1 12 true nk_eV 303 [(0, .inr (some t0)), (1, .inl v1)] [] h (f_X12_init_b303   n h t0 v1)
  | 0, _, _, _ => nk_none
  | n + 1, h, t0, v1 => s_X12_init_c303 hl0 (s_X12_init_b303 hl0  n) h t0 v1
set_option maxHeartbeats 4000000 in
theorem s_X12_init {G : nk_G} {l : Launch} (hl0 : l.flags = flags0) (h : nk_H) (t0 : Nat) : nk_Sim G l RX12 cX12_init 2 (none : Option FieldType) 1 12 true nk_eV 0 [(0, .inr (some t0))] [] h (f_X12_init  h t0) := by
  unfold f_X12_init
  refine nr_aload_n 0 dX12_init_0 rfl ?_
  refine nr_objInit dX12_init_1 ml_RX12_1 oi_i oi_c (by decide) (Nat.le_of_ble_eq_true rfl) ?_
  refine nr_aload_n 0 dX12_init_4 rfl ?_
  refine nr_bipush (v := 6) dX12_init_5 (by decide) ?_
  refine nr_newarray 1 (by decide) dX12_init_7 ac_int (fun h3 => ?_)
  refine nr_putP [19] 2 dX12_init_9 fk_RX12_7 fw_RX12_7_i (fun h4 => ?_)
  refine nr_aload_n 0 dX12_init_12 rfl ?_
  refine nr_sipush (v := 160) dX12_init_13 (by decide) ?_
  refine nr_newarray 1 (by decide) dX12_init_16 ac_int (fun h5 => ?_)
  refine nr_putP [19] 4 dX12_init_18 fk_RX12_13 fw_RX12_13_i (fun h6 => ?_)
  refine nr_aload_n 0 dX12_init_21 rfl ?_
  refine nr_sipush (v := 160) dX12_init_22 (by decide) ?_
  refine nr_newarray 1 (by decide) dX12_init_25 ac_int (fun h7 => ?_)
  refine nr_putP [19] 5 dX12_init_27 fk_RX12_16 fw_RX12_16_i (fun h8 => ?_)
  refine nr_aload_n 0 dX12_init_30 rfl ?_
  refine nr_sipush (v := 160) dX12_init_31 (by decide) ?_
  refine nr_newarray 1 (by decide) dX12_init_34 ac_int (fun h9 => ?_)
  refine nr_putP [19] 6 dX12_init_36 fk_RX12_19 fw_RX12_19_i (fun h10 => ?_)
  refine nr_aload_n 0 dX12_init_39 rfl ?_
  refine nr_sipush (v := 160) dX12_init_40 (by decide) ?_
  refine nr_newarray 1 (by decide) dX12_init_43 ac_int (fun h11 => ?_)
  refine nr_putP [19] 7 dX12_init_45 fk_RX12_22 fw_RX12_22_i (fun h12 => ?_)
  refine nr_aload_n 0 dX12_init_48 rfl ?_
  refine nr_sipush (v := 160) dX12_init_49 (by decide) ?_
  refine nr_newarray 1 (by decide) dX12_init_52 ac_int (fun h13 => ?_)
  refine nr_putP [19] 8 dX12_init_54 fk_RX12_25 fw_RX12_25_i (fun h14 => ?_)
  refine nr_aload_n 0 dX12_init_57 rfl ?_
  refine nr_sipush (v := 160) dX12_init_58 (by decide) ?_
  refine nr_newarray 1 (by decide) dX12_init_61 ac_int (fun h15 => ?_)
  refine nr_putP [19] 9 dX12_init_63 fk_RX12_28 fw_RX12_28_i (fun h16 => ?_)
  refine nr_aload_n 0 dX12_init_66 rfl ?_
  refine nr_sipush (v := 960) dX12_init_67 (by decide) ?_
  refine nr_newarray 1 (by decide) dX12_init_70 ac_int (fun h17 => ?_)
  refine nr_putP [19] 10 dX12_init_72 fk_RX12_31 fw_RX12_31_i (fun h18 => ?_)
  refine nr_aload_n 0 dX12_init_75 rfl ?_
  refine nr_sipush (v := 960) dX12_init_76 (by decide) ?_
  refine nr_newarray 2 (by decide) dX12_init_79 ac_boolean (fun h19 => ?_)
  refine nr_putP [19] 11 dX12_init_81 fk_RX12_34 fw_RX12_34_i (fun h20 => ?_)
  refine nr_aload_n 0 dX12_init_84 rfl ?_
  refine nr_bipush (v := 40) dX12_init_85 (by decide) ?_
  refine nr_newarray 1 (by decide) dX12_init_87 ac_int (fun h21 => ?_)
  refine nr_putP [19] 13 dX12_init_89 fk_RX12_38 fw_RX12_38_i (fun h22 => ?_)
  refine nr_aload_n 0 dX12_init_92 rfl ?_
  refine nr_bipush (v := 40) dX12_init_93 (by decide) ?_
  refine nr_newarray 1 (by decide) dX12_init_95 ac_int (fun h23 => ?_)
  refine nr_putP [19] 14 dX12_init_97 fk_RX12_41 fw_RX12_41_i (fun h24 => ?_)
  refine nr_aload_n 0 dX12_init_100 rfl ?_
  refine nr_bipush (v := 40) dX12_init_101 (by decide) ?_
  refine nr_newarray 1 (by decide) dX12_init_103 ac_int (fun h25 => ?_)
  refine nr_putP [19] 15 dX12_init_105 fk_RX12_44 fw_RX12_44_i (fun h26 => ?_)
  refine nr_aload_n 0 dX12_init_108 rfl ?_
  refine nr_bipush (v := 40) dX12_init_109 (by decide) ?_
  refine nr_newarray 1 (by decide) dX12_init_111 ac_int (fun h27 => ?_)
  refine nr_putP [19] 16 dX12_init_113 fk_RX12_47 fw_RX12_47_i (fun h28 => ?_)
  refine nr_aload_n 0 dX12_init_116 rfl ?_
  refine nr_bipush (v := 40) dX12_init_117 (by decide) ?_
  refine nr_newarray 1 (by decide) dX12_init_119 ac_int (fun h29 => ?_)
  refine nr_putP [19] 17 dX12_init_121 fk_RX12_50 fw_RX12_50_i (fun h30 => ?_)
  refine nr_aload_n 0 dX12_init_124 rfl ?_
  refine nr_bipush (v := 40) dX12_init_125 (by decide) ?_
  refine nr_newarray 1 (by decide) dX12_init_127 ac_int (fun h31 => ?_)
  refine nr_putP [19] 18 dX12_init_129 fk_RX12_53 fw_RX12_53_i (fun h32 => ?_)
  refine nr_aload_n 0 dX12_init_132 rfl ?_
  refine nr_bipush (v := 40) dX12_init_133 (by decide) ?_
  refine nr_newarray 1 (by decide) dX12_init_135 ac_int (fun h33 => ?_)
  refine nr_putP [19] 19 dX12_init_137 fk_RX12_56 fw_RX12_56_i (fun h34 => ?_)
  refine nr_aload_n 0 dX12_init_140 rfl ?_
  refine nr_bipush (v := 40) dX12_init_141 (by decide) ?_
  refine nr_newarray 1 (by decide) dX12_init_143 ac_int (fun h35 => ?_)
  refine nr_putP [19] 20 dX12_init_145 fk_RX12_59 fw_RX12_59_i (fun h36 => ?_)
  refine nr_aload_n 0 dX12_init_148 rfl ?_
  refine nr_bipush (v := 40) dX12_init_149 (by decide) ?_
  refine nr_newarray 1 (by decide) dX12_init_151 ac_int (fun h37 => ?_)
  refine nr_putP [19] 21 dX12_init_153 fk_RX12_62 fw_RX12_62_i (fun h38 => ?_)
  refine nr_aload_n 0 dX12_init_156 rfl ?_
  refine nr_bipush (v := 63) dX12_init_157 (by decide) ?_
  refine nr_putI [19] 22 dX12_init_159 fk_RX12_65 fw_RX12_65_i (fun h39 => ?_)
  refine nr_aload_n 0 dX12_init_162 rfl ?_
  refine nr_sipush (v := 10000) dX12_init_163 (by decide) ?_
  refine nr_putI [19] 23 dX12_init_166 fk_RX12_69 fw_RX12_69_i (fun h40 => ?_)
  refine nr_aload_n 0 dX12_init_169 rfl ?_
  refine nr_ldc (v := 100000) dX12_init_170 kc_RX12_72 ?_
  refine nr_putI [19] 24 dX12_init_172 fk_RX12_73 fw_RX12_73_i (fun h41 => ?_)
  refine nr_aload_n 0 dX12_init_175 rfl ?_
  refine nr_bipush (v := 100) dX12_init_176 (by decide) ?_
  refine nr_putI [19] 25 dX12_init_178 fk_RX12_76 fw_RX12_76_i (fun h42 => ?_)
  refine nr_aload_n 0 dX12_init_181 rfl ?_
  refine nr_bipush (v := 6) dX12_init_182 (by decide) ?_
  refine nr_newarray 1 (by decide) dX12_init_184 ac_int (fun h43 => ?_)
  refine nr_putP [19] 30 dX12_init_186 fk_RX12_79 fw_RX12_79_i (fun h44 => ?_)
  refine nr_aload_n 0 dX12_init_189 rfl ?_
  refine nr_sipush (v := 960) dX12_init_190 (by decide) ?_
  refine nr_newarray 1 (by decide) dX12_init_193 ac_int (fun h45 => ?_)
  refine nr_putP [19] 31 dX12_init_195 fk_RX12_82 fw_RX12_82_i (fun h46 => ?_)
  refine nr_aload_n 0 dX12_init_198 rfl ?_
  refine nr_sipush (v := 160) dX12_init_199 (by decide) ?_
  refine nr_newarray 1 (by decide) dX12_init_202 ac_int (fun h47 => ?_)
  refine nr_putP [19] 32 dX12_init_204 fk_RX12_85 fw_RX12_85_i (fun h48 => ?_)
  refine nr_aload_n 0 dX12_init_207 rfl ?_
  refine nr_sipush (v := 960) dX12_init_208 (by decide) ?_
  refine nr_newarray 1 (by decide) dX12_init_211 ac_int (fun h49 => ?_)
  refine nr_putP [19] 33 dX12_init_213 fk_RX12_88 fw_RX12_88_i (fun h50 => ?_)
  refine nr_aload_n 0 dX12_init_216 rfl ?_
  refine nr_sipush (v := 160) dX12_init_217 (by decide) ?_
  refine nr_newarray 1 (by decide) dX12_init_220 ac_int (fun h51 => ?_)
  refine nr_putP [19] 34 dX12_init_222 fk_RX12_91 fw_RX12_91_i (fun h52 => ?_)
  refine nr_aload_n 0 dX12_init_225 rfl ?_
  refine nr_sipush (v := 160) dX12_init_226 (by decide) ?_
  refine nr_newarray 1 (by decide) dX12_init_229 ac_int (fun h53 => ?_)
  refine nr_putP [19] 35 dX12_init_231 fk_RX12_94 fw_RX12_94_i (fun h54 => ?_)
  refine nr_aload_n 0 dX12_init_234 rfl ?_
  refine nr_sipush (v := 160) dX12_init_235 (by decide) ?_
  refine nr_newarray 2 (by decide) dX12_init_238 ac_boolean (fun h55 => ?_)
  refine nr_putP [19] 36 dX12_init_240 fk_RX12_97 fw_RX12_97_i (fun h56 => ?_)
  refine nr_aload_n 0 dX12_init_243 rfl ?_
  refine nr_bipush (v := 12) dX12_init_244 (by decide) ?_
  refine nr_newarray 1 (by decide) dX12_init_246 ac_int (fun h57 => ?_)
  refine nr_putP [19] 38 dX12_init_248 fk_RX12_100 fw_RX12_100_i (fun h58 => ?_)
  refine nr_aload_n 0 dX12_init_251 rfl ?_
  refine nr_bipush (v := 12) dX12_init_252 (by decide) ?_
  refine nr_newarray 1 (by decide) dX12_init_254 ac_int (fun h59 => ?_)
  refine nr_putP [19] 39 dX12_init_256 fk_RX12_103 fw_RX12_103_i (fun h60 => ?_)
  refine nr_aload_n 0 dX12_init_259 rfl ?_
  refine nr_bipush (v := 12) dX12_init_260 (by decide) ?_
  refine nr_newarray 1 (by decide) dX12_init_262 ac_int (fun h61 => ?_)
  refine nr_putP [19] 40 dX12_init_264 fk_RX12_106 fw_RX12_106_i (fun h62 => ?_)
  refine nr_aload_n 0 dX12_init_267 rfl ?_
  refine nr_bipush (v := 12) dX12_init_268 (by decide) ?_
  refine nr_newarray 1 (by decide) dX12_init_270 ac_int (fun h63 => ?_)
  refine nr_putP [19] 41 dX12_init_272 fk_RX12_109 fw_RX12_109_i (fun h64 => ?_)
  refine nr_aload_n 0 dX12_init_275 rfl ?_
  refine nr_bipush (v := 12) dX12_init_276 (by decide) ?_
  refine nr_newarray 1 (by decide) dX12_init_278 ac_int (fun h65 => ?_)
  refine nr_putP [19] 42 dX12_init_280 fk_RX12_112 fw_RX12_112_i (fun h66 => ?_)
  refine nr_aload_n 0 dX12_init_283 rfl ?_
  refine nr_sipush (v := 11520) dX12_init_284 (by decide) ?_
  refine nr_newarray 1 (by decide) dX12_init_287 ac_int (fun h67 => ?_)
  refine nr_putP [19] 43 dX12_init_289 fk_RX12_115 fw_RX12_115_i (fun h68 => ?_)
  refine nr_aload_n 0 dX12_init_292 rfl ?_
  refine nr_sipush (v := 1920) dX12_init_293 (by decide) ?_
  refine nr_newarray 1 (by decide) dX12_init_296 ac_int (fun h69 => ?_)
  refine nr_putP [19] 44 dX12_init_298 fk_RX12_118 fw_RX12_118_i (fun h70 => ?_)
  refine nr_iconst (v := 0) dX12_init_301 (by decide) ?_
  refine nr_istore_n (lv2 := [(1, .inl 0), (0, .inr (some t0))]) dX12_init_302 (by decide) rfl ?_
  exact nk_locals [1, 0] rfl (s_X12_init_b303 hl0  4096 h70 t0 0)
theorem c_X12_init {G : nk_G} {l : Launch} (hl0 : l.flags = flags0) (h : nk_H) (t0 : Nat) : nk_Con G l yX12_init cX12_init 2 (none : Option FieldType) 1 12 nk_eV [.inr (some t0)] h (f_X12_init h t0) :=
  nk_con (ini := true) (by decide) hl0 (Nat.le_of_ble_eq_true rfl) (by decide) (s_X12_init hl0 h t0)
set_option maxHeartbeats 4000000 in
theorem s_X12_thrown {G : nk_G} {l : Launch} (hl0 : l.flags = flags0) (h : nk_H) (t0 : Nat) : nk_Sim G l RX12 cX12_thrown 1 (some FieldType.int) 0 0 false nk_eI 0 [(0, .inr (some t0))] [] h (f_X12_thrown  h t0) := by
  unfold f_X12_thrown
  refine nr_aload_n 0 dX12_thrown_0 rfl ?_
  refine nr_getI [19] 0 dX12_thrown_1 fk_RX12_121 (fun x1 => ?_)
  exact nr_iret rfl rfl dX12_thrown_4
theorem c_X12_thrown {G : nk_G} {l : Launch} (hl0 : l.flags = flags0) (h : nk_H) (t0 : Nat) : nk_Con G l yX12_thrown cX12_thrown 1 (some FieldType.int) 0 0 nk_eI [.inr (some t0)] h (f_X12_thrown h t0) :=
  nk_con (ini := false) (by decide) hl0 (Nat.le_of_ble_eq_true rfl) (by decide) (s_X12_thrown hl0 h t0)
set_option maxHeartbeats 4000000 in
theorem s_X12_holds_c14 {G : nk_G} {l : Launch} (hl0 : l.flags = flags0)   (h : nk_H)  (s0 : Int32) : nk_Sim G l RX12 cX12_holds 2 (some FieldType.boolean) 0 0 false nk_eI 14 [] [.inl s0] h (f_X12_holds_c14   h  s0) := by
  unfold f_X12_holds_c14
  exact nr_zret rfl rfl dX12_holds_14
set_option maxHeartbeats 4000000 in
theorem s_X12_holds {G : nk_G} {l : Launch} (hl0 : l.flags = flags0) (h : nk_H) (t0 : Nat) (v1 : Int32) : nk_Sim G l RX12 cX12_holds 2 (some FieldType.boolean) 0 0 false nk_eI 0 [(0, .inr (some t0)), (1, .inl v1)] [] h (f_X12_holds  h t0 v1) := by
  unfold f_X12_holds
  refine nr_aload_n 0 dX12_holds_0 rfl ?_
  refine nr_iload_n 1 dX12_holds_1 rfl ?_
  refine nr_putI [19] 0 dX12_holds_2 fk_RX12_121 fw_RX12_121_n (fun h1 => ?_)
  refine nr_iload_n 1 dX12_holds_5 rfl ?_
  refine nr_if_ne (tgt := 13) dX12_holds_6 (by decide) (fun _ => ?_) (fun _ => ?_)
  · refine nr_iconst (v := 1) dX12_holds_9 (by decide) ?_
    refine nr_goto (tgt := 14) dX12_holds_10 (by decide) ?_
    exact nk_locals [] rfl (s_X12_holds_c14 hl0  h1 1)
  · refine nr_iconst (v := 0) dX12_holds_13 (by decide) ?_
    exact nk_locals [] rfl (s_X12_holds_c14 hl0  h1 0)
theorem c_X12_holds {G : nk_G} {l : Launch} (hl0 : l.flags = flags0) (h : nk_H) (t0 : Nat) (v1 : Int32) : nk_Con G l yX12_holds cX12_holds 2 (some FieldType.boolean) 0 0 nk_eI [.inr (some t0), .inl v1] h (f_X12_holds h t0 v1) :=
  nk_con (ini := false) (by decide) hl0 (Nat.le_of_ble_eq_true rfl) (by decide) (s_X12_holds hl0 h t0 v1)
set_option maxHeartbeats 4000000 in
theorem s_X12_in_c15 {G : nk_G} {l : Launch} (hl0 : l.flags = flags0)   (h : nk_H)  (s0 : Int32) : nk_Sim G l RX12 cX12_in 3 (some FieldType.boolean) 0 0 false nk_eI 15 [] [.inl s0] h (f_X12_in_c15   h  s0) := by
  unfold f_X12_in_c15
  exact nr_zret rfl rfl dX12_in_15
set_option maxHeartbeats 4000000 in
theorem s_X12_in_c14 {G : nk_G} {l : Launch} (hl0 : l.flags = flags0)   (h : nk_H)   : nk_Sim G l RX12 cX12_in 3 (some FieldType.boolean) 0 0 false nk_eI 14 [] [] h (f_X12_in_c14   h  ) := by
  unfold f_X12_in_c14
  refine nr_iconst (v := 0) dX12_in_14 (by decide) ?_
  exact s_X12_in_c15 hl0  h 0
set_option maxHeartbeats 4000000 in
theorem s_X12_in {G : nk_G} {l : Launch} (hl0 : l.flags = flags0) (h : nk_H) (v0 : Int32) (v1 : Int32) (v2 : Int32) : nk_Sim G l RX12 cX12_in 3 (some FieldType.boolean) 0 0 false nk_eI 0 [(0, .inl v0), (1, .inl v1), (2, .inl v2)] [] h (f_X12_in  h v0 v1 v2) := by
  unfold f_X12_in
  refine nr_iload_n 0 dX12_in_0 rfl ?_
  refine nr_iload_n 1 dX12_in_1 rfl ?_
  refine nr_icmp_lt (tgt := 14) dX12_in_2 (by decide) (fun _ => ?_) (fun _ => ?_)
  · exact nk_locals [] rfl (s_X12_in_c14 hl0  h)
  · refine nr_iload_n 0 dX12_in_5 rfl ?_
    refine nr_iload_n 2 dX12_in_6 rfl ?_
    refine nr_icmp_gt (tgt := 14) dX12_in_7 (by decide) (fun _ => ?_) (fun _ => ?_)
    · exact nk_locals [] rfl (s_X12_in_c14 hl0  h)
    · refine nr_iconst (v := 1) dX12_in_10 (by decide) ?_
      refine nr_goto (tgt := 15) dX12_in_11 (by decide) ?_
      exact nk_locals [] rfl (s_X12_in_c15 hl0  h 1)
theorem c_X12_in {G : nk_G} {l : Launch} (hl0 : l.flags = flags0) (h : nk_H) (v0 : Int32) (v1 : Int32) (v2 : Int32) : nk_Con G l yX12_in cX12_in 3 (some FieldType.boolean) 0 0 nk_eI [.inl v0, .inl v1, .inl v2] h (f_X12_in h v0 v1 v2) :=
  nk_con (ini := false) (by decide) hl0 (Nat.le_of_ble_eq_true rfl) (by decide) (s_X12_in hl0 h v0 v1 v2)
set_option maxHeartbeats 4000000 in
theorem s_X12_isKiosk {G : nk_G} {l : Launch} (hl0 : l.flags = flags0) (h : nk_H) (v0 : Int32) : nk_Sim G l RX12 cX12_isKiosk 1 (some FieldType.boolean) 1 22 false nk_eI 0 [(0, .inl v0)] [] h (f_X12_isKiosk  h v0) := by
  unfold f_X12_isKiosk
  refine nr_iload_n 0 dX12_isKiosk_0 rfl ?_
  refine nr_iconst (v := 0) dX12_isKiosk_1 (by decide) ?_
  refine nr_iconst (v := 5) dX12_isKiosk_2 (by decide) ?_
  refine nr_doI (st := []) (nk_callS (c_X12_in (G := G) hl0 h v0 0 5) dX12_isKiosk_3 my_X12_in st_X12_in ml_RX12_124 rfl rfl (Nat.le_of_ble_eq_true rfl) (by decide) (by decide)) (fun h1 x2 => ?_)
  exact nr_zret rfl rfl dX12_isKiosk_6
theorem c_X12_isKiosk {G : nk_G} {l : Launch} (hl0 : l.flags = flags0) (h : nk_H) (v0 : Int32) : nk_Con G l yX12_isKiosk cX12_isKiosk 1 (some FieldType.boolean) 1 22 nk_eI [.inl v0] h (f_X12_isKiosk h v0) :=
  nk_con (ini := false) (by decide) hl0 (Nat.le_of_ble_eq_true rfl) (by decide) (s_X12_isKiosk hl0 h v0)
set_option maxHeartbeats 4000000 in
theorem s_X12_isPerson {G : nk_G} {l : Launch} (hl0 : l.flags = flags0) (h : nk_H) (v0 : Int32) : nk_Sim G l RX12 cX12_isPerson 1 (some FieldType.boolean) 1 22 false nk_eI 0 [(0, .inl v0)] [] h (f_X12_isPerson  h v0) := by
  unfold f_X12_isPerson
  refine nr_iload_n 0 dX12_isPerson_0 rfl ?_
  refine nr_iconst (v := 0) dX12_isPerson_1 (by decide) ?_
  refine nr_bipush (v := 9) dX12_isPerson_2 (by decide) ?_
  refine nr_doI (st := []) (nk_callS (c_X12_in (G := G) hl0 h v0 0 9) dX12_isPerson_4 my_X12_in st_X12_in ml_RX12_124 rfl rfl (Nat.le_of_ble_eq_true rfl) (by decide) (by decide)) (fun h1 x2 => ?_)
  exact nr_zret rfl rfl dX12_isPerson_7
theorem c_X12_isPerson {G : nk_G} {l : Launch} (hl0 : l.flags = flags0) (h : nk_H) (v0 : Int32) : nk_Con G l yX12_isPerson cX12_isPerson 1 (some FieldType.boolean) 1 22 nk_eI [.inl v0] h (f_X12_isPerson h v0) :=
  nk_con (ini := false) (by decide) hl0 (Nat.le_of_ble_eq_true rfl) (by decide) (s_X12_isPerson hl0 h v0)
set_option maxHeartbeats 4000000 in
theorem s_X12_isPower {G : nk_G} {l : Launch} (hl0 : l.flags = flags0) (h : nk_H) (t0 : Nat) (v1 : Int32) : nk_Sim G l RX12 cX12_isPower 2 (some FieldType.boolean) 1 22 false nk_eI 0 [(0, .inr (some t0)), (1, .inl v1)] [] h (f_X12_isPower  h t0 v1) := by
  unfold f_X12_isPower
  refine nr_iload_n 1 dX12_isPower_0 rfl ?_
  refine nr_iconst (v := 0) dX12_isPower_1 (by decide) ?_
  refine nr_aload_n 0 dX12_isPower_2 rfl ?_
  refine nr_getI [19] 12 dX12_isPower_3 fk_RX12_128 (fun x1 => ?_)
  refine nr_iconst (v := 1) dX12_isPower_6 (by decide) ?_
  refine nr_isub dX12_isPower_7 ?_
  refine nr_doI (st := []) (nk_callS (c_X12_in (G := G) hl0 h v1 0 (x1 - 1)) dX12_isPower_8 my_X12_in st_X12_in ml_RX12_124 rfl rfl (Nat.le_of_ble_eq_true rfl) (by decide) (by decide)) (fun h2 x3 => ?_)
  exact nr_zret rfl rfl dX12_isPower_11
theorem c_X12_isPower {G : nk_G} {l : Launch} (hl0 : l.flags = flags0) (h : nk_H) (t0 : Nat) (v1 : Int32) : nk_Con G l yX12_isPower cX12_isPower 2 (some FieldType.boolean) 1 22 nk_eI [.inr (some t0), .inl v1] h (f_X12_isPower h t0 v1) :=
  nk_con (ini := false) (by decide) hl0 (Nat.le_of_ble_eq_true rfl) (by decide) (s_X12_isPower hl0 h t0 v1)
set_option maxHeartbeats 4000000 in
theorem s_X12_isRecord_c28 {G : nk_G} {l : Launch} (hl0 : l.flags = flags0)   (h : nk_H)  (s0 : Int32) : nk_Sim G l RX12 cX12_isRecord 3 (some FieldType.boolean) 2 42 false nk_eI 28 [] [.inl s0] h (f_X12_isRecord_c28   h  s0) := by
  unfold f_X12_isRecord_c28
  exact nr_zret rfl rfl dX12_isRecord_28
set_option maxHeartbeats 4000000 in
theorem s_X12_isRecord_c27 {G : nk_G} {l : Launch} (hl0 : l.flags = flags0)   (h : nk_H)   : nk_Sim G l RX12 cX12_isRecord 3 (some FieldType.boolean) 2 42 false nk_eI 27 [] [] h (f_X12_isRecord_c27   h  ) := by
  unfold f_X12_isRecord_c27
  refine nr_iconst (v := 0) dX12_isRecord_27 (by decide) ?_
  exact s_X12_isRecord_c28 hl0  h 0
set_option maxHeartbeats 4000000 in
theorem s_X12_isRecord {G : nk_G} {l : Launch} (hl0 : l.flags = flags0) (h : nk_H) (t0 : Nat) (v1 : Int32) (v2 : Int32) : nk_Sim G l RX12 cX12_isRecord 3 (some FieldType.boolean) 2 42 false nk_eI 0 [(0, .inr (some t0)), (1, .inl v1), (2, .inl v2)] [] h (f_X12_isRecord  h t0 v1 v2) := by
  unfold f_X12_isRecord
  refine nr_iload_n 1 dX12_isRecord_0 rfl ?_
  refine nr_doI (st := []) (nk_callS (c_X12_isKiosk (G := G) hl0 h v1) dX12_isRecord_1 my_X12_isKiosk st_X12_isKiosk ml_RX12_131 rfl rfl (Nat.le_of_ble_eq_true rfl) (by decide) (by decide)) (fun h1 x2 => ?_)
  refine nr_if_eq (tgt := 27) dX12_isRecord_4 (by decide) (fun _ => ?_) (fun _ => ?_)
  · exact nk_locals [] rfl (s_X12_isRecord_c27 hl0  h1)
  · refine nr_iload_n 2 dX12_isRecord_7 rfl ?_
    refine nr_iconst (v := 0) dX12_isRecord_8 (by decide) ?_
    refine nr_aload_n 0 dX12_isRecord_9 rfl ?_
    refine nr_getP [19] 30 dX12_isRecord_10 fk_RX12_79 (fun x3 => ?_)
    refine nr_iload_n 1 dX12_isRecord_13 rfl ?_
    refine nr_iaload dX12_isRecord_14 (fun x4 => ?_)
    refine nr_iconst (v := 1) dX12_isRecord_15 (by decide) ?_
    refine nr_isub dX12_isRecord_16 ?_
    refine nr_doI (st := []) (nk_callS (c_X12_in (G := G) hl0 h1 v2 0 (x4 - 1)) dX12_isRecord_17 my_X12_in st_X12_in ml_RX12_124 rfl rfl (Nat.le_of_ble_eq_true rfl) (by decide) (by decide)) (fun h5 x6 => ?_)
    refine nr_if_eq (tgt := 27) dX12_isRecord_20 (by decide) (fun _ => ?_) (fun _ => ?_)
    · exact nk_locals [] rfl (s_X12_isRecord_c27 hl0  h5)
    · refine nr_iconst (v := 1) dX12_isRecord_23 (by decide) ?_
      refine nr_goto (tgt := 28) dX12_isRecord_24 (by decide) ?_
      exact nk_locals [] rfl (s_X12_isRecord_c28 hl0  h5 1)
theorem c_X12_isRecord {G : nk_G} {l : Launch} (hl0 : l.flags = flags0) (h : nk_H) (t0 : Nat) (v1 : Int32) (v2 : Int32) : nk_Con G l yX12_isRecord cX12_isRecord 3 (some FieldType.boolean) 2 42 nk_eI [.inr (some t0), .inl v1, .inl v2] h (f_X12_isRecord h t0 v1 v2) :=
  nk_con (ini := false) (by decide) hl0 (Nat.le_of_ble_eq_true rfl) (by decide) (s_X12_isRecord hl0 h t0 v1 v2)
set_option maxHeartbeats 4000000 in
theorem s_X12_many_c4 {G : nk_G} {l : Launch} (hl0 : l.flags = flags0) {r4 : nk_H → Int32 → Int32 → Int32 → Option (nk_H × Int32)} (hr4 : ∀ (h : nk_H) (v0 : Int32) (v1 : Int32) (v2 : Int32), nk_Sim G l RX12 cX12_many 3 (some FieldType.int) 0 0 false nk_eI 4 [(0, .inl v0), (1, .inl v1), (2, .inl v2)] [] h (r4 h v0 v1 v2)) (h : nk_H) (v0 : Int32) (v1 : Int32) (v2 : Int32)  : nk_Sim G l RX12 cX12_many 3 (some FieldType.int) 0 0 false nk_eI 4 [(0, .inl v0), (1, .inl v1), (2, .inl v2)] [] h (f_X12_many_c4  r4 h v0 v1 v2 ) := by
  unfold f_X12_many_c4
  refine nr_iload_n 2 dX12_many_4 rfl ?_
  refine nr_bipush (v := 6) dX12_many_5 (by decide) ?_
  refine nr_icmp_ge (tgt := 24) dX12_many_7 (by decide) (fun _ => ?_) (fun _ => ?_)
  · refine nr_iload_n 1 dX12_many_24 rfl ?_
    exact nr_iret rfl rfl dX12_many_25
  · refine nr_iload_n 1 dX12_many_10 rfl ?_
    refine nr_iload_n 0 dX12_many_11 rfl ?_
    refine nr_iload_n 2 dX12_many_12 rfl ?_
    refine nr_ishr dX12_many_13 ?_
    refine nr_iconst (v := 1) dX12_many_14 (by decide) ?_
    refine nr_iand dX12_many_15 ?_
    refine nr_iadd dX12_many_16 ?_
    refine nr_istore_n (lv2 := [(1, .inl (v1 + ((v0 >>> (v2 &&& 31)) &&& 1))), (0, .inl v0), (2, .inl v2)]) dX12_many_17 (by decide) rfl ?_
    refine nr_iinc (lv2 := [(2, .inl (v2 + 1)), (1, .inl (v1 + ((v0 >>> (v2 &&& 31)) &&& 1))), (0, .inl v0)]) 2 (v2 + 1) dX12_many_18 rfl (by rfl) (by decide) rfl ?_
    refine nr_goto (tgt := 4) dX12_many_21 (by decide) ?_
    exact nk_locals [2, 1, 0] rfl (hr4 h v0 (v1 + ((v0 >>> (v2 &&& 31)) &&& 1)) (v2 + 1))
theorem s_X12_many_b4 {G : nk_G} {l : Launch} (hl0 : l.flags = flags0)   : ∀ (n : Nat) (h : nk_H) (v0 : Int32) (v1 : Int32) (v2 : Int32), nk_Sim G l RX12 cX12_many 3 (some FieldType.int) 0 0 false nk_eI 4 [(0, .inl v0), (1, .inl v1), (2, .inl v2)] [] h (f_X12_many_b4   n h v0 v1 v2)
  | 0, _, _, _, _ => nk_none
  | n + 1, h, v0, v1, v2 => s_X12_many_c4 hl0 (s_X12_many_b4 hl0  n) h v0 v1 v2
set_option maxHeartbeats 4000000 in
theorem s_X12_many {G : nk_G} {l : Launch} (hl0 : l.flags = flags0) (h : nk_H) (v0 : Int32) : nk_Sim G l RX12 cX12_many 3 (some FieldType.int) 0 0 false nk_eI 0 [(0, .inl v0)] [] h (f_X12_many  h v0) := by
  unfold f_X12_many
  refine nr_iconst (v := 0) dX12_many_0 (by decide) ?_
  refine nr_istore_n (lv2 := [(1, .inl 0), (0, .inl v0)]) dX12_many_1 (by decide) rfl ?_
  refine nr_iconst (v := 0) dX12_many_2 (by decide) ?_
  refine nr_istore_n (lv2 := [(2, .inl 0), (1, .inl 0), (0, .inl v0)]) dX12_many_3 (by decide) rfl ?_
  exact nk_locals [2, 1, 0] rfl (s_X12_many_b4 hl0  4096 h v0 0 0)
theorem c_X12_many {G : nk_G} {l : Launch} (hl0 : l.flags = flags0) (h : nk_H) (v0 : Int32) : nk_Con G l yX12_many cX12_many 3 (some FieldType.int) 0 0 nk_eI [.inl v0] h (f_X12_many h v0) :=
  nk_con (ini := false) (by decide) hl0 (Nat.le_of_ble_eq_true rfl) (by decide) (s_X12_many hl0 h v0)
set_option maxHeartbeats 4000000 in
theorem s_X12_errorOfLink_c14 {G : nk_G} {l : Launch} (hl0 : l.flags = flags0)   (h : nk_H)   : nk_Sim G l RX12 cX12_errorOfLink 4 (some FieldType.int) 2 42 false nk_eI 14 [] [] h (f_X12_errorOfLink_c14   h  ) := by
  unfold f_X12_errorOfLink_c14
  refine nr_iconst (v := 1) dX12_errorOfLink_14 (by decide) ?_
  exact nr_iret rfl rfl dX12_errorOfLink_15
set_option maxHeartbeats 4000000 in
theorem s_X12_errorOfLink_c44 {G : nk_G} {l : Launch} (hl0 : l.flags = flags0)   (h : nk_H)  (s0 : Int32) : nk_Sim G l RX12 cX12_errorOfLink 4 (some FieldType.int) 2 42 false nk_eI 44 [] [.inl s0] h (f_X12_errorOfLink_c44   h  s0) := by
  unfold f_X12_errorOfLink_c44
  exact nr_iret rfl rfl dX12_errorOfLink_44
set_option maxHeartbeats 4000000 in
theorem s_X12_errorOfLink {G : nk_G} {l : Launch} (hl0 : l.flags = flags0) (h : nk_H) (t0 : Nat) (v1 : Int32) (v2 : Int32) (v3 : Int32) : nk_Sim G l RX12 cX12_errorOfLink 4 (some FieldType.int) 2 42 false nk_eI 0 [(0, .inr (some t0)), (1, .inl v1), (2, .inl v2), (3, .inl v3)] [] h (f_X12_errorOfLink  h t0 v1 v2 v3) := by
  unfold f_X12_errorOfLink
  refine nr_iload_n 1 dX12_errorOfLink_0 rfl ?_
  refine nr_doI (st := []) (nk_callS (c_X12_isKiosk (G := G) hl0 h v1) dX12_errorOfLink_1 my_X12_isKiosk st_X12_isKiosk ml_RX12_131 rfl rfl (Nat.le_of_ble_eq_true rfl) (by decide) (by decide)) (fun h1 x2 => ?_)
  refine nr_if_eq (tgt := 14) dX12_errorOfLink_4 (by decide) (fun _ => ?_) (fun _ => ?_)
  · exact nk_locals [] rfl (s_X12_errorOfLink_c14 hl0  h1)
  · refine nr_iload_n 2 dX12_errorOfLink_7 rfl ?_
    refine nr_doI (st := []) (nk_callS (c_X12_isKiosk (G := G) hl0 h1 v2) dX12_errorOfLink_8 my_X12_isKiosk st_X12_isKiosk ml_RX12_131 rfl rfl (Nat.le_of_ble_eq_true rfl) (by decide) (by decide)) (fun h3 x4 => ?_)
    refine nr_if_ne (tgt := 16) dX12_errorOfLink_11 (by decide) (fun _ => ?_) (fun _ => ?_)
    · exact nk_locals [] rfl (s_X12_errorOfLink_c14 hl0  h3)
    · refine nr_iload_n 1 dX12_errorOfLink_16 rfl ?_
      refine nr_iload_n 2 dX12_errorOfLink_17 rfl ?_
      refine nr_icmp_ne (tgt := 25) dX12_errorOfLink_18 (by decide) (fun _ => ?_) (fun _ => ?_)
      · refine nr_iconst (v := 2) dX12_errorOfLink_21 (by decide) ?_
        refine nr_goto (tgt := 44) dX12_errorOfLink_22 (by decide) ?_
        exact nk_locals [] rfl (s_X12_errorOfLink_c44 hl0  h3 2)
      · refine nr_aload_n 0 dX12_errorOfLink_25 rfl ?_
        refine nr_getP [19] 2 dX12_errorOfLink_26 fk_RX12_7 (fun x5 => ?_)
        refine nr_iload_n 1 dX12_errorOfLink_29 rfl ?_
        refine nr_iaload dX12_errorOfLink_30 (fun x6 => ?_)
        refine nr_iload_n 2 dX12_errorOfLink_31 rfl ?_
        refine nr_ishr dX12_errorOfLink_32 ?_
        refine nr_iconst (v := 1) dX12_errorOfLink_33 (by decide) ?_
        refine nr_iand dX12_errorOfLink_34 ?_
        refine nr_iload_n 3 dX12_errorOfLink_35 rfl ?_
        refine nr_icmp_ne (tgt := 43) dX12_errorOfLink_36 (by decide) (fun _ => ?_) (fun _ => ?_)
        · refine nr_iconst (v := 3) dX12_errorOfLink_39 (by decide) ?_
          refine nr_goto (tgt := 44) dX12_errorOfLink_40 (by decide) ?_
          exact nk_locals [] rfl (s_X12_errorOfLink_c44 hl0  h3 3)
        · refine nr_iconst (v := 0) dX12_errorOfLink_43 (by decide) ?_
          exact nk_locals [] rfl (s_X12_errorOfLink_c44 hl0  h3 0)
theorem c_X12_errorOfLink {G : nk_G} {l : Launch} (hl0 : l.flags = flags0) (h : nk_H) (t0 : Nat) (v1 : Int32) (v2 : Int32) (v3 : Int32) : nk_Con G l yX12_errorOfLink cX12_errorOfLink 4 (some FieldType.int) 2 42 nk_eI [.inr (some t0), .inl v1, .inl v2, .inl v3] h (f_X12_errorOfLink h t0 v1 v2 v3) :=
  nk_con (ini := false) (by decide) hl0 (Nat.le_of_ble_eq_true rfl) (by decide) (s_X12_errorOfLink hl0 h t0 v1 v2 v3)
set_option maxHeartbeats 4000000 in
theorem s_X12_turns {G : nk_G} {l : Launch} (hl0 : l.flags = flags0) (h : nk_H) (t0 : Nat) (v1 : Int32) (v2 : Int32) : nk_Sim G l RX12 cX12_turns 3 (some FieldType.int) 1 22 false nk_eI 0 [(0, .inr (some t0)), (1, .inl v1), (2, .inl v2)] [] h (f_X12_turns  h t0 v1 v2) := by
  unfold f_X12_turns
  refine nr_aload_n 0 dX12_turns_0 rfl ?_
  refine nr_getP [19] 2 dX12_turns_1 fk_RX12_7 (fun x1 => ?_)
  refine nr_iload_n 1 dX12_turns_4 rfl ?_
  refine nr_dup2 dX12_turns_5 ?_
  refine nr_iaload dX12_turns_6 (fun x2 => ?_)
  refine nr_iconst (v := 1) dX12_turns_7 (by decide) ?_
  refine nr_iload_n 2 dX12_turns_8 rfl ?_
  refine nr_ishl dX12_turns_9 ?_
  refine nr_ixor dX12_turns_10 ?_
  refine nr_iastore dX12_turns_11 (fun h3 => ?_)
  refine nr_aload_n 0 dX12_turns_12 rfl ?_
  refine nr_getP [19] 2 dX12_turns_13 fk_RX12_7 (fun x4 => ?_)
  refine nr_iload_n 2 dX12_turns_16 rfl ?_
  refine nr_dup2 dX12_turns_17 ?_
  refine nr_iaload dX12_turns_18 (fun x5 => ?_)
  refine nr_iconst (v := 1) dX12_turns_19 (by decide) ?_
  refine nr_iload_n 1 dX12_turns_20 rfl ?_
  refine nr_ishl dX12_turns_21 ?_
  refine nr_ixor dX12_turns_22 ?_
  refine nr_iastore dX12_turns_23 (fun h6 => ?_)
  refine nr_aload_n 0 dX12_turns_24 rfl ?_
  refine nr_getP [19] 2 dX12_turns_25 fk_RX12_7 (fun x7 => ?_)
  refine nr_iload_n 1 dX12_turns_28 rfl ?_
  refine nr_iaload dX12_turns_29 (fun x8 => ?_)
  refine nr_doI (st := []) (nk_callS (c_X12_many (G := G) hl0 h6 x8) dX12_turns_30 my_X12_many st_X12_many ml_RX12_135 rfl rfl (Nat.le_of_ble_eq_true rfl) (by decide) (by decide)) (fun h9 x10 => ?_)
  exact nr_iret rfl rfl dX12_turns_33
theorem c_X12_turns {G : nk_G} {l : Launch} (hl0 : l.flags = flags0) (h : nk_H) (t0 : Nat) (v1 : Int32) (v2 : Int32) : nk_Con G l yX12_turns cX12_turns 3 (some FieldType.int) 1 22 nk_eI [.inr (some t0), .inl v1, .inl v2] h (f_X12_turns h t0 v1 v2) :=
  nk_con (ini := false) (by decide) hl0 (Nat.le_of_ble_eq_true rfl) (by decide) (s_X12_turns hl0 h t0 v1 v2)
set_option maxHeartbeats 4000000 in
theorem s_X12_join_c24 {G : nk_G} {l : Launch} (hl0 : l.flags = flags0)   (h : nk_H)  (s0 : Int32) : nk_Sim G l RX12 cX12_join 3 (some FieldType.int) 3 65 false nk_eI 24 [] [.inl s0] h (f_X12_join_c24   h  s0) := by
  unfold f_X12_join_c24
  exact nr_iret rfl rfl dX12_join_24
set_option maxHeartbeats 4000000 in
theorem s_X12_join {G : nk_G} {l : Launch} (hl0 : l.flags = flags0) (h : nk_H) (t0 : Nat) (v1 : Int32) (v2 : Int32) : nk_Sim G l RX12 cX12_join 3 (some FieldType.int) 3 65 false nk_eI 0 [(0, .inr (some t0)), (1, .inl v1), (2, .inl v2)] [] h (f_X12_join  h t0 v1 v2) := by
  unfold f_X12_join
  refine nr_aload_n 0 dX12_join_0 rfl ?_
  refine nr_aload_n 0 dX12_join_1 rfl ?_
  refine nr_iload_n 1 dX12_join_2 rfl ?_
  refine nr_iload_n 2 dX12_join_3 rfl ?_
  refine nr_iconst (v := 1) dX12_join_4 (by decide) ?_
  refine nr_rcv (ks := [19]) (pre := [.inl 1, .inl v2, .inl v1]) (fun a1 hm => ?_)
  refine nr_doI (st := [.inr (some t0)]) (nk_callV (q := (RX12, TX12, 45)) (ci := 12) (c_X12_errorOfLink (G := G) hl0 h a1 v1 v2 1) dX12_join_5 (List.mem_singleton.mp hm) rfl rfl my_X12_errorOfLink im_X12_errorOfLink se_RX12_X12_errorOfLink ml_RX12_139 rfl rfl (Nat.le_of_ble_eq_true rfl) (by decide) (by decide)) (fun h2 x3 => ?_)
  refine nr_rcv (ks := [19]) (pre := [.inl x3]) (fun a4 hm => ?_)
  refine nr_doI (st := []) (nk_callV (q := (RX12, TX12, 45)) (ci := 12) (c_X12_holds (G := G) hl0 h2 a4 x3) dX12_join_8 (List.mem_singleton.mp hm) rfl rfl my_X12_holds im_X12_holds se_RX12_X12_holds ml_RX12_143 rfl rfl (Nat.le_of_ble_eq_true rfl) (by decide) (by decide)) (fun h5 x6 => ?_)
  refine nr_if_eq (tgt := 23) dX12_join_11 (by decide) (fun _ => ?_) (fun _ => ?_)
  · refine nr_iconst (v := 0) dX12_join_23 (by decide) ?_
    exact nk_locals [] rfl (s_X12_join_c24 hl0  h5 0)
  · refine nr_aload_n 0 dX12_join_14 rfl ?_
    refine nr_iload_n 1 dX12_join_15 rfl ?_
    refine nr_iload_n 2 dX12_join_16 rfl ?_
    refine nr_rcv (ks := [19]) (pre := [.inl v2, .inl v1]) (fun a7 hm => ?_)
    refine nr_doI (st := []) (nk_callV (q := (RX12, TX12, 45)) (ci := 12) (c_X12_turns (G := G) hl0 h5 a7 v1 v2) dX12_join_17 (List.mem_singleton.mp hm) rfl rfl my_X12_turns im_X12_turns se_RX12_X12_turns ml_RX12_146 rfl rfl (Nat.le_of_ble_eq_true rfl) (by decide) (by decide)) (fun h8 x9 => ?_)
    refine nr_goto (tgt := 24) dX12_join_20 (by decide) ?_
    exact nk_locals [] rfl (s_X12_join_c24 hl0  h8 x9)
theorem c_X12_join {G : nk_G} {l : Launch} (hl0 : l.flags = flags0) (h : nk_H) (t0 : Nat) (v1 : Int32) (v2 : Int32) : nk_Con G l yX12_join cX12_join 3 (some FieldType.int) 3 65 nk_eI [.inr (some t0), .inl v1, .inl v2] h (f_X12_join h t0 v1 v2) :=
  nk_con (ini := false) (by decide) hl0 (Nat.le_of_ble_eq_true rfl) (by decide) (s_X12_join hl0 h t0 v1 v2)
set_option maxHeartbeats 4000000 in
theorem s_X12_cut_c24 {G : nk_G} {l : Launch} (hl0 : l.flags = flags0)   (h : nk_H)  (s0 : Int32) : nk_Sim G l RX12 cX12_cut 3 (some FieldType.int) 3 65 false nk_eI 24 [] [.inl s0] h (f_X12_cut_c24   h  s0) := by
  unfold f_X12_cut_c24
  exact nr_iret rfl rfl dX12_cut_24
set_option maxHeartbeats 4000000 in
theorem s_X12_cut {G : nk_G} {l : Launch} (hl0 : l.flags = flags0) (h : nk_H) (t0 : Nat) (v1 : Int32) (v2 : Int32) : nk_Sim G l RX12 cX12_cut 3 (some FieldType.int) 3 65 false nk_eI 0 [(0, .inr (some t0)), (1, .inl v1), (2, .inl v2)] [] h (f_X12_cut  h t0 v1 v2) := by
  unfold f_X12_cut
  refine nr_aload_n 0 dX12_cut_0 rfl ?_
  refine nr_aload_n 0 dX12_cut_1 rfl ?_
  refine nr_iload_n 1 dX12_cut_2 rfl ?_
  refine nr_iload_n 2 dX12_cut_3 rfl ?_
  refine nr_iconst (v := 0) dX12_cut_4 (by decide) ?_
  refine nr_rcv (ks := [19]) (pre := [.inl 0, .inl v2, .inl v1]) (fun a1 hm => ?_)
  refine nr_doI (st := [.inr (some t0)]) (nk_callV (q := (RX12, TX12, 45)) (ci := 12) (c_X12_errorOfLink (G := G) hl0 h a1 v1 v2 0) dX12_cut_5 (List.mem_singleton.mp hm) rfl rfl my_X12_errorOfLink im_X12_errorOfLink se_RX12_X12_errorOfLink ml_RX12_139 rfl rfl (Nat.le_of_ble_eq_true rfl) (by decide) (by decide)) (fun h2 x3 => ?_)
  refine nr_rcv (ks := [19]) (pre := [.inl x3]) (fun a4 hm => ?_)
  refine nr_doI (st := []) (nk_callV (q := (RX12, TX12, 45)) (ci := 12) (c_X12_holds (G := G) hl0 h2 a4 x3) dX12_cut_8 (List.mem_singleton.mp hm) rfl rfl my_X12_holds im_X12_holds se_RX12_X12_holds ml_RX12_143 rfl rfl (Nat.le_of_ble_eq_true rfl) (by decide) (by decide)) (fun h5 x6 => ?_)
  refine nr_if_eq (tgt := 23) dX12_cut_11 (by decide) (fun _ => ?_) (fun _ => ?_)
  · refine nr_iconst (v := 0) dX12_cut_23 (by decide) ?_
    exact nk_locals [] rfl (s_X12_cut_c24 hl0  h5 0)
  · refine nr_aload_n 0 dX12_cut_14 rfl ?_
    refine nr_iload_n 1 dX12_cut_15 rfl ?_
    refine nr_iload_n 2 dX12_cut_16 rfl ?_
    refine nr_rcv (ks := [19]) (pre := [.inl v2, .inl v1]) (fun a7 hm => ?_)
    refine nr_doI (st := []) (nk_callV (q := (RX12, TX12, 45)) (ci := 12) (c_X12_turns (G := G) hl0 h5 a7 v1 v2) dX12_cut_17 (List.mem_singleton.mp hm) rfl rfl my_X12_turns im_X12_turns se_RX12_X12_turns ml_RX12_146 rfl rfl (Nat.le_of_ble_eq_true rfl) (by decide) (by decide)) (fun h8 x9 => ?_)
    refine nr_goto (tgt := 24) dX12_cut_20 (by decide) ?_
    exact nk_locals [] rfl (s_X12_cut_c24 hl0  h8 x9)
theorem c_X12_cut {G : nk_G} {l : Launch} (hl0 : l.flags = flags0) (h : nk_H) (t0 : Nat) (v1 : Int32) (v2 : Int32) : nk_Con G l yX12_cut cX12_cut 3 (some FieldType.int) 3 65 nk_eI [.inr (some t0), .inl v1, .inl v2] h (f_X12_cut h t0 v1 v2) :=
  nk_con (ini := false) (by decide) hl0 (Nat.le_of_ble_eq_true rfl) (by decide) (s_X12_cut hl0 h t0 v1 v2)
set_option maxHeartbeats 4000000 in
theorem s_X12_goesOn_c111 {G : nk_G} {l : Launch} (hl0 : l.flags = flags0) {r4 : nk_H → Nat → Int32 → Int32 → Int32 → Option (nk_H × Int32)} (hr4 : ∀ (h : nk_H) (t0 : Nat) (v1 : Int32) (v2 : Int32) (v3 : Int32), nk_Sim G l RX12 cX12_goesOn 7 (some FieldType.int) 1 22 false nk_eI 4 [(0, .inr (some t0)), (1, .inl v1), (2, .inl v2), (3, .inl v3)] [] h (r4 h t0 v1 v2 v3)) (h : nk_H) (t0 : Nat) (v1 : Int32) (v2 : Int32) (v3 : Int32)  : nk_Sim G l RX12 cX12_goesOn 7 (some FieldType.int) 1 22 false nk_eI 111 [(0, .inr (some t0)), (1, .inl v1), (2, .inl v2), (3, .inl v3)] [] h (f_X12_goesOn_c111  r4 h t0 v1 v2 v3 ) := by
  unfold f_X12_goesOn_c111
  refine nr_iinc (lv2 := [(3, .inl (v3 + 1)), (0, .inr (some t0)), (1, .inl v1), (2, .inl v2)]) 3 (v3 + 1) dX12_goesOn_111 rfl (by rfl) (by decide) rfl ?_
  refine nr_goto (tgt := 4) dX12_goesOn_114 (by decide) ?_
  exact nk_locals [1, 2, 3, 0] rfl (hr4 h t0 v1 v2 (v3 + 1))
set_option maxHeartbeats 4000000 in
theorem s_X12_goesOn_c59 {G : nk_G} {l : Launch} (hl0 : l.flags = flags0) {r4 : nk_H → Nat → Int32 → Int32 → Int32 → Option (nk_H × Int32)} (hr4 : ∀ (h : nk_H) (t0 : Nat) (v1 : Int32) (v2 : Int32) (v3 : Int32), nk_Sim G l RX12 cX12_goesOn 7 (some FieldType.int) 1 22 false nk_eI 4 [(0, .inr (some t0)), (1, .inl v1), (2, .inl v2), (3, .inl v3)] [] h (r4 h t0 v1 v2 v3)) (h : nk_H) (t0 : Nat) (v1 : Int32) (v2 : Int32) (v3 : Int32) (v4 : Int32) (v5 : Int32) (s0 : Int32) : nk_Sim G l RX12 cX12_goesOn 7 (some FieldType.int) 1 22 false nk_eI 59 [(0, .inr (some t0)), (1, .inl v1), (2, .inl v2), (3, .inl v3), (4, .inl v4), (5, .inl v5)] [.inl s0] h (f_X12_goesOn_c59  r4 h t0 v1 v2 v3 v4 v5 s0) := by
  unfold f_X12_goesOn_c59
  refine nr_istore (lv2 := [(6, .inl s0), (0, .inr (some t0)), (1, .inl v1), (2, .inl v2), (3, .inl v3), (4, .inl v4), (5, .inl v5)]) dX12_goesOn_59 (by decide) rfl ?_
  refine nr_iload 0 dX12_goesOn_61 rfl ?_
  refine nr_if_eq (tgt := 111) dX12_goesOn_63 (by decide) (fun _ => ?_) (fun _ => ?_)
  · exact nk_locals [1, 2, 3, 4] rfl (s_X12_goesOn_c111 hl0 hr4 h t0 v1 v2 v3)
  · refine nr_aload_n 1 dX12_goesOn_66 rfl ?_
    refine nr_getP [19] 10 dX12_goesOn_67 fk_RX12_31 (fun x1 => ?_)
    refine nr_iload 6 dX12_goesOn_70 rfl ?_
    refine nr_iaload dX12_goesOn_72 (fun x2 => ?_)
    refine nr_iconst (v := (-1)) dX12_goesOn_73 (by decide) ?_
    refine nr_icmp_ne (tgt := 111) dX12_goesOn_74 (by decide) (fun _ => ?_) (fun _ => ?_)
    · refine nr_aload_n 1 dX12_goesOn_77 rfl ?_
      refine nr_getP [19] 10 dX12_goesOn_78 fk_RX12_31 (fun x3 => ?_)
      refine nr_iload 5 dX12_goesOn_81 rfl ?_
      refine nr_iaload dX12_goesOn_83 (fun x4 => ?_)
      refine nr_iconst (v := 0) dX12_goesOn_84 (by decide) ?_
      refine nr_aload_n 1 dX12_goesOn_85 rfl ?_
      refine nr_getI [19] 1 dX12_goesOn_86 fk_RX12_150 (fun x5 => ?_)
      refine nr_iconst (v := 1) dX12_goesOn_89 (by decide) ?_
      refine nr_isub dX12_goesOn_90 ?_
      refine nr_doI (st := []) (nk_callS (c_X12_in (G := G) hl0 h x4 0 (x5 - 1)) dX12_goesOn_91 my_X12_in st_X12_in ml_RX12_124 rfl rfl (Nat.le_of_ble_eq_true rfl) (by decide) (by decide)) (fun h6 x7 => ?_)
      refine nr_if_eq (tgt := 111) dX12_goesOn_94 (by decide) (fun _ => ?_) (fun _ => ?_)
      · exact nk_locals [1, 2, 3, 4] rfl (s_X12_goesOn_c111 hl0 hr4 h6 t0 v1 v2 v3)
      · refine nr_aload_n 1 dX12_goesOn_97 rfl ?_
        refine nr_getP [19] 10 dX12_goesOn_98 fk_RX12_31 (fun x8 => ?_)
        refine nr_iload 6 dX12_goesOn_101 rfl ?_
        refine nr_aload_n 1 dX12_goesOn_103 rfl ?_
        refine nr_getI [19] 1 dX12_goesOn_104 fk_RX12_150 (fun x9 => ?_)
        refine nr_iastore dX12_goesOn_107 (fun h10 => ?_)
        refine nr_iinc (lv2 := [(2, .inl (v2 + 1)), (6, .inl s0), (0, .inr (some t0)), (1, .inl v1), (3, .inl v3), (4, .inl v4), (5, .inl v5)]) 3 (v2 + 1) dX12_goesOn_108 rfl (by rfl) (by decide) rfl ?_
        exact nk_locals [2, 3, 0, 4] rfl (s_X12_goesOn_c111 hl0 hr4 h10 t0 v1 (v2 + 1) v3)
    · exact nk_locals [1, 2, 3, 4] rfl (s_X12_goesOn_c111 hl0 hr4 h t0 v1 v2 v3)
set_option maxHeartbeats 4000000 in
theorem s_X12_goesOn_c4 {G : nk_G} {l : Launch} (hl0 : l.flags = flags0) {r4 : nk_H → Nat → Int32 → Int32 → Int32 → Option (nk_H × Int32)} (hr4 : ∀ (h : nk_H) (t0 : Nat) (v1 : Int32) (v2 : Int32) (v3 : Int32), nk_Sim G l RX12 cX12_goesOn 7 (some FieldType.int) 1 22 false nk_eI 4 [(0, .inr (some t0)), (1, .inl v1), (2, .inl v2), (3, .inl v3)] [] h (r4 h t0 v1 v2 v3)) (h : nk_H) (t0 : Nat) (v1 : Int32) (v2 : Int32) (v3 : Int32)  : nk_Sim G l RX12 cX12_goesOn 7 (some FieldType.int) 1 22 false nk_eI 4 [(0, .inr (some t0)), (1, .inl v1), (2, .inl v2), (3, .inl v3)] [] h (f_X12_goesOn_c4  r4 h t0 v1 v2 v3 ) := by
  unfold f_X12_goesOn_c4
  refine nr_iload_n 3 dX12_goesOn_4 rfl ?_
  refine nr_bipush (v := 36) dX12_goesOn_5 (by decide) ?_
  refine nr_icmp_ge (tgt := 117) dX12_goesOn_7 (by decide) (fun _ => ?_) (fun _ => ?_)
  · refine nr_iload_n 2 dX12_goesOn_117 rfl ?_
    exact nr_iret rfl rfl dX12_goesOn_118
  · refine nr_sipush (v := 160) dX12_goesOn_10 (by decide) ?_
    refine nr_iload_n 3 dX12_goesOn_13 rfl ?_
    refine nr_bipush (v := 6) dX12_goesOn_14 (by decide) ?_
    refine nr_idiv dX12_goesOn_16 (by decide) ?_
    refine nr_imul dX12_goesOn_17 ?_
    refine nr_iload_n 1 dX12_goesOn_18 rfl ?_
    refine nr_iadd dX12_goesOn_19 ?_
    refine nr_istore (lv2 := [(4, .inl ((160 * (v3 / 6)) + v1)), (0, .inr (some t0)), (1, .inl v1), (2, .inl v2), (3, .inl v3)]) dX12_goesOn_20 (by decide) rfl ?_
    refine nr_sipush (v := 160) dX12_goesOn_22 (by decide) ?_
    refine nr_iload_n 4 dX12_goesOn_25 rfl ?_
    refine nr_bipush (v := 6) dX12_goesOn_26 (by decide) ?_
    refine nr_irem dX12_goesOn_28 (by decide) ?_
    refine nr_imul dX12_goesOn_29 ?_
    refine nr_iload_n 2 dX12_goesOn_30 rfl ?_
    refine nr_iadd dX12_goesOn_31 ?_
    refine nr_istore (lv2 := [(5, .inl ((160 * (v3 - v3 / 6 * 6)) + v1)), (4, .inl ((160 * (v3 / 6)) + v1)), (0, .inr (some t0)), (1, .inl v1), (2, .inl v2), (3, .inl v3)]) dX12_goesOn_32 (by decide) rfl ?_
    refine nr_aload_n 2 dX12_goesOn_34 rfl ?_
    refine nr_getP [19] 2 dX12_goesOn_35 fk_RX12_7 (fun x11 => ?_)
    refine nr_iload_n 5 dX12_goesOn_38 rfl ?_
    refine nr_bipush (v := 6) dX12_goesOn_39 (by decide) ?_
    refine nr_idiv dX12_goesOn_41 (by decide) ?_
    refine nr_iaload dX12_goesOn_42 (fun x12 => ?_)
    refine nr_iload_n 5 dX12_goesOn_43 rfl ?_
    refine nr_bipush (v := 6) dX12_goesOn_44 (by decide) ?_
    refine nr_irem dX12_goesOn_46 (by decide) ?_
    refine nr_ishr dX12_goesOn_47 ?_
    refine nr_iconst (v := 1) dX12_goesOn_48 (by decide) ?_
    refine nr_iand dX12_goesOn_49 ?_
    refine nr_iconst (v := 1) dX12_goesOn_50 (by decide) ?_
    refine nr_icmp_ne (tgt := 58) dX12_goesOn_51 (by decide) (fun _ => ?_) (fun _ => ?_)
    · refine nr_iconst (v := 1) dX12_goesOn_54 (by decide) ?_
      refine nr_goto (tgt := 59) dX12_goesOn_55 (by decide) ?_
      exact nk_locals [2, 3, 4, 5, 1, 0] rfl (s_X12_goesOn_c59 hl0 hr4 h t0 v1 v2 v3 ((160 * (v3 / 6)) + v1) ((160 * (v3 - v3 / 6 * 6)) + v1) 1)
    · refine nr_iconst (v := 0) dX12_goesOn_58 (by decide) ?_
      exact nk_locals [2, 3, 4, 5, 1, 0] rfl (s_X12_goesOn_c59 hl0 hr4 h t0 v1 v2 v3 ((160 * (v3 / 6)) + v1) ((160 * (v3 - v3 / 6 * 6)) + v1) 0)
theorem s_X12_goesOn_b4 {G : nk_G} {l : Launch} (hl0 : l.flags = flags0)   : ∀ (n : Nat) (h : nk_H) (t0 : Nat) (v1 : Int32) (v2 : Int32) (v3 : Int32), nk_Sim G l RX12 cX12_goesOn 7 (some FieldType.int) 1 22 false nk_eI 4 [(0, .inr (some t0)), (1, .inl v1), (2, .inl v2), (3, .inl v3)] [] h (f_X12_goesOn_b4   n h t0 v1 v2 v3)
  | 0, _, _, _, _, _ => nk_none
  | n + 1, h, t0, v1, v2, v3 => s_X12_goesOn_c4 hl0 (s_X12_goesOn_b4 hl0  n) h t0 v1 v2 v3
set_option maxHeartbeats 4000000 in
theorem s_X12_goesOn {G : nk_G} {l : Launch} (hl0 : l.flags = flags0) (h : nk_H) (t0 : Nat) (v1 : Int32) : nk_Sim G l RX12 cX12_goesOn 7 (some FieldType.int) 1 22 false nk_eI 0 [(0, .inr (some t0)), (1, .inl v1)] [] h (f_X12_goesOn  h t0 v1) := by
  unfold f_X12_goesOn
  refine nr_iconst (v := 0) dX12_goesOn_0 (by decide) ?_
  refine nr_istore_n (lv2 := [(2, .inl 0), (0, .inr (some t0)), (1, .inl v1)]) dX12_goesOn_1 (by decide) rfl ?_
  refine nr_iconst (v := 0) dX12_goesOn_2 (by decide) ?_
  refine nr_istore_n (lv2 := [(3, .inl 0), (2, .inl 0), (0, .inr (some t0)), (1, .inl v1)]) dX12_goesOn_3 (by decide) rfl ?_
  exact nk_locals [2, 3, 1, 0] rfl (s_X12_goesOn_b4 hl0  4096 h t0 v1 0 0)
theorem c_X12_goesOn {G : nk_G} {l : Launch} (hl0 : l.flags = flags0) (h : nk_H) (t0 : Nat) (v1 : Int32) : nk_Con G l yX12_goesOn cX12_goesOn 7 (some FieldType.int) 1 22 nk_eI [.inr (some t0), .inl v1] h (f_X12_goesOn h t0 v1) :=
  nk_con (ini := false) (by decide) hl0 (Nat.le_of_ble_eq_true rfl) (by decide) (s_X12_goesOn hl0 h t0 v1)
set_option maxHeartbeats 4000000 in
theorem s_X12_pass_c62 {G : nk_G} {l : Launch} (hl0 : l.flags = flags0) {r44 : nk_H → Nat → Int32 → Int32 → Int32 → Option (nk_H × Int32)} {r62 : nk_H → Nat → Int32 → Int32 → Int32 → Int32 → Option (nk_H × Int32)} (hr44 : ∀ (h : nk_H) (t0 : Nat) (v1 : Int32) (v2 : Int32) (v3 : Int32), nk_Sim G l RX12 cX12_pass 5 (some FieldType.int) 2 48 false nk_eI 44 [(0, .inr (some t0)), (1, .inl v1), (2, .inl v2), (3, .inl v3)] [] h (r44 h t0 v1 v2 v3)) (hr62 : ∀ (h : nk_H) (t0 : Nat) (v1 : Int32) (v2 : Int32) (v3 : Int32) (v4 : Int32), nk_Sim G l RX12 cX12_pass 5 (some FieldType.int) 2 48 false nk_eI 62 [(0, .inr (some t0)), (1, .inl v1), (2, .inl v2), (3, .inl v3), (4, .inl v4)] [] h (r62 h t0 v1 v2 v3 v4)) (h : nk_H) (t0 : Nat) (v1 : Int32) (v2 : Int32) (v3 : Int32) (v4 : Int32)  : nk_Sim G l RX12 cX12_pass 5 (some FieldType.int) 2 48 false nk_eI 62 [(0, .inr (some t0)), (1, .inl v1), (2, .inl v2), (3, .inl v3), (4, .inl v4)] [] h (f_X12_pass_c62  r44 r62 h t0 v1 v2 v3 v4 ) := by
  unfold f_X12_pass_c62
  refine nr_iload 4 dX12_pass_62 rfl ?_
  refine nr_aload_n 0 dX12_pass_64 rfl ?_
  refine nr_getI [19] 3 dX12_pass_65 fk_RX12_153 (fun x1 => ?_)
  refine nr_icmp_ge (tgt := 86) dX12_pass_68 (by decide) (fun _ => ?_) (fun _ => ?_)
  · refine nr_iinc (lv2 := [(3, .inl (v3 + 1)), (0, .inr (some t0)), (1, .inl v1), (2, .inl v2), (4, .inl v4)]) 3 (v3 + 1) dX12_pass_86 rfl (by rfl) (by decide) rfl ?_
    refine nr_goto (tgt := 44) dX12_pass_89 (by decide) ?_
    exact nk_locals [1, 2, 3, 0] rfl (hr44 h t0 v1 v2 (v3 + 1))
  · refine nr_iload_n 2 dX12_pass_71 rfl ?_
    refine nr_aload_n 0 dX12_pass_72 rfl ?_
    refine nr_iload 4 dX12_pass_73 rfl ?_
    refine nr_rcv (ks := [19]) (pre := [.inl v4]) (fun a2 hm => ?_)
    refine nr_doI (st := [.inl v2]) (nk_callV (q := (RX12, TX12, 45)) (ci := 12) (c_X12_goesOn (G := G) hl0 h a2 v4) dX12_pass_75 (List.mem_singleton.mp hm) rfl rfl my_X12_goesOn im_X12_goesOn se_RX12_X12_goesOn ml_RX12_156 rfl rfl (Nat.le_of_ble_eq_true rfl) (by decide) (by decide)) (fun h3 x4 => ?_)
    refine nr_iadd dX12_pass_78 ?_
    refine nr_istore_n (lv2 := [(2, .inl (v2 + x4)), (0, .inr (some t0)), (1, .inl v1), (3, .inl v3), (4, .inl v4)]) dX12_pass_79 (by decide) rfl ?_
    refine nr_iinc (lv2 := [(4, .inl (v4 + 1)), (2, .inl (v2 + x4)), (0, .inr (some t0)), (1, .inl v1), (3, .inl v3)]) 4 (v4 + 1) dX12_pass_80 rfl (by rfl) (by decide) rfl ?_
    refine nr_goto (tgt := 62) dX12_pass_83 (by decide) ?_
    exact nk_locals [2, 3, 1, 4, 0] rfl (hr62 h3 t0 v1 (v2 + x4) v3 (v4 + 1))
theorem s_X12_pass_b62 {G : nk_G} {l : Launch} (hl0 : l.flags = flags0) {r44 : nk_H → Nat → Int32 → Int32 → Int32 → Option (nk_H × Int32)} (hr44 : ∀ (h : nk_H) (t0 : Nat) (v1 : Int32) (v2 : Int32) (v3 : Int32), nk_Sim G l RX12 cX12_pass 5 (some FieldType.int) 2 48 false nk_eI 44 [(0, .inr (some t0)), (1, .inl v1), (2, .inl v2), (3, .inl v3)] [] h (r44 h t0 v1 v2 v3)) : ∀ (n : Nat) (h : nk_H) (t0 : Nat) (v1 : Int32) (v2 : Int32) (v3 : Int32) (v4 : Int32), nk_Sim G l RX12 cX12_pass 5 (some FieldType.int) 2 48 false nk_eI 62 [(0, .inr (some t0)), (1, .inl v1), (2, .inl v2), (3, .inl v3), (4, .inl v4)] [] h (f_X12_pass_b62  r44 n h t0 v1 v2 v3 v4)
  | 0, _, _, _, _, _, _ => nk_none
  | n + 1, h, t0, v1, v2, v3, v4 => s_X12_pass_c62 hl0 hr44 (s_X12_pass_b62 hl0 hr44 n) h t0 v1 v2 v3 v4
set_option maxHeartbeats 4000000 in
theorem s_X12_pass_c44 {G : nk_G} {l : Launch} (hl0 : l.flags = flags0) {r44 : nk_H → Nat → Int32 → Int32 → Int32 → Option (nk_H × Int32)} (hr44 : ∀ (h : nk_H) (t0 : Nat) (v1 : Int32) (v2 : Int32) (v3 : Int32), nk_Sim G l RX12 cX12_pass 5 (some FieldType.int) 2 48 false nk_eI 44 [(0, .inr (some t0)), (1, .inl v1), (2, .inl v2), (3, .inl v3)] [] h (r44 h t0 v1 v2 v3)) (h : nk_H) (t0 : Nat) (v1 : Int32) (v2 : Int32) (v3 : Int32)  : nk_Sim G l RX12 cX12_pass 5 (some FieldType.int) 2 48 false nk_eI 44 [(0, .inr (some t0)), (1, .inl v1), (2, .inl v2), (3, .inl v3)] [] h (f_X12_pass_c44  r44 h t0 v1 v2 v3 ) := by
  unfold f_X12_pass_c44
  refine nr_iload_n 3 dX12_pass_44 rfl ?_
  refine nr_iload_n 1 dX12_pass_45 rfl ?_
  refine nr_icmp_ge (tgt := 92) dX12_pass_46 (by decide) (fun _ => ?_) (fun _ => ?_)
  · refine nr_iload_n 2 dX12_pass_92 rfl ?_
    exact nr_iret rfl rfl dX12_pass_93
  · refine nr_aload_n 0 dX12_pass_49 rfl ?_
    refine nr_dup dX12_pass_50 ?_
    refine nr_getI [19] 1 dX12_pass_51 fk_RX12_150 (fun x5 => ?_)
    refine nr_iconst (v := 1) dX12_pass_54 (by decide) ?_
    refine nr_iadd dX12_pass_55 ?_
    refine nr_putI [19] 1 dX12_pass_56 fk_RX12_150 fw_RX12_150_n (fun h6 => ?_)
    refine nr_iconst (v := 0) dX12_pass_59 (by decide) ?_
    refine nr_istore (lv2 := [(4, .inl 0), (0, .inr (some t0)), (1, .inl v1), (2, .inl v2), (3, .inl v3)]) dX12_pass_60 (by decide) rfl ?_
    exact nk_locals [1, 2, 3, 4, 0] rfl (s_X12_pass_b62 hl0 hr44 4096 h6 t0 v1 v2 v3 0)
theorem s_X12_pass_b44 {G : nk_G} {l : Launch} (hl0 : l.flags = flags0)   : ∀ (n : Nat) (h : nk_H) (t0 : Nat) (v1 : Int32) (v2 : Int32) (v3 : Int32), nk_Sim G l RX12 cX12_pass 5 (some FieldType.int) 2 48 false nk_eI 44 [(0, .inr (some t0)), (1, .inl v1), (2, .inl v2), (3, .inl v3)] [] h (f_X12_pass_b44   n h t0 v1 v2 v3)
  | 0, _, _, _, _, _ => nk_none
  | n + 1, h, t0, v1, v2, v3 => s_X12_pass_c44 hl0 (s_X12_pass_b44 hl0  n) h t0 v1 v2 v3
set_option maxHeartbeats 4000000 in
theorem s_X12_pass_c32 {G : nk_G} {l : Launch} (hl0 : l.flags = flags0)   (h : nk_H) (t0 : Nat) (v1 : Int32) (s0 : Int32) (s1 : Option Nat) : nk_Sim G l RX12 cX12_pass 5 (some FieldType.int) 2 48 false nk_eI 32 [(0, .inr (some t0)), (1, .inl v1)] [.inl s0, .inr s1] h (f_X12_pass_c32   h t0 v1 s0 s1) := by
  unfold f_X12_pass_c32
  refine nr_rcv (ks := [19]) (pre := [.inl s0]) (fun a7 hm => ?_)
  refine nr_doI (st := []) (nk_callV (q := (RX12, TX12, 45)) (ci := 12) (c_X12_holds (G := G) hl0 h a7 s0) dX12_pass_32 (List.mem_singleton.mp hm) rfl rfl my_X12_holds im_X12_holds se_RX12_X12_holds ml_RX12_143 rfl rfl (Nat.le_of_ble_eq_true rfl) (by decide) (by decide)) (fun h8 x9 => ?_)
  refine nr_if_ne (tgt := 40) dX12_pass_35 (by decide) (fun _ => ?_) (fun _ => ?_)
  · refine nr_iconst (v := 0) dX12_pass_38 (by decide) ?_
    exact nr_iret rfl rfl dX12_pass_39
  · refine nr_iconst (v := 0) dX12_pass_40 (by decide) ?_
    refine nr_istore_n (lv2 := [(2, .inl 0), (0, .inr (some t0)), (1, .inl v1)]) dX12_pass_41 (by decide) rfl ?_
    refine nr_iconst (v := 0) dX12_pass_42 (by decide) ?_
    refine nr_istore_n (lv2 := [(3, .inl 0), (2, .inl 0), (0, .inr (some t0)), (1, .inl v1)]) dX12_pass_43 (by decide) rfl ?_
    exact nk_locals [2, 3, 1, 0] rfl (s_X12_pass_b44 hl0  4096 h8 t0 v1 0 0)
set_option maxHeartbeats 4000000 in
theorem s_X12_pass {G : nk_G} {l : Launch} (hl0 : l.flags = flags0) (h : nk_H) (t0 : Nat) (v1 : Int32) : nk_Sim G l RX12 cX12_pass 5 (some FieldType.int) 2 48 false nk_eI 0 [(0, .inr (some t0)), (1, .inl v1)] [] h (f_X12_pass  h t0 v1) := by
  unfold f_X12_pass
  refine nr_aload_n 0 dX12_pass_0 rfl ?_
  refine nr_iload_n 1 dX12_pass_1 rfl ?_
  refine nr_iconst (v := 1) dX12_pass_2 (by decide) ?_
  refine nr_bipush (v := 50) dX12_pass_3 (by decide) ?_
  refine nr_doI (st := [.inr (some t0)]) (nk_callS (c_X12_in (G := G) hl0 h v1 1 50) dX12_pass_5 my_X12_in st_X12_in ml_RX12_124 rfl rfl (Nat.le_of_ble_eq_true rfl) (by decide) (by decide)) (fun h10 x11 => ?_)
  refine nr_if_ne (tgt := 15) dX12_pass_8 (by decide) (fun _ => ?_) (fun _ => ?_)
  · refine nr_iconst (v := 1) dX12_pass_11 (by decide) ?_
    refine nr_goto (tgt := 32) dX12_pass_12 (by decide) ?_
    exact s_X12_pass_c32 hl0  h10 t0 v1 1 (some t0)
  · refine nr_aload_n 0 dX12_pass_15 rfl ?_
    refine nr_getI [19] 1 dX12_pass_16 fk_RX12_150 (fun x12 => ?_)
    refine nr_iload_n 1 dX12_pass_19 rfl ?_
    refine nr_iadd dX12_pass_20 ?_
    refine nr_sipush (v := 400) dX12_pass_21 (by decide) ?_
    refine nr_icmp_le (tgt := 31) dX12_pass_24 (by decide) (fun _ => ?_) (fun _ => ?_)
    · refine nr_iconst (v := 0) dX12_pass_31 (by decide) ?_
      exact s_X12_pass_c32 hl0  h10 t0 v1 0 (some t0)
    · refine nr_iconst (v := 2) dX12_pass_27 (by decide) ?_
      refine nr_goto (tgt := 32) dX12_pass_28 (by decide) ?_
      exact s_X12_pass_c32 hl0  h10 t0 v1 2 (some t0)
theorem c_X12_pass {G : nk_G} {l : Launch} (hl0 : l.flags = flags0) (h : nk_H) (t0 : Nat) (v1 : Int32) : nk_Con G l yX12_pass cX12_pass 5 (some FieldType.int) 2 48 nk_eI [.inr (some t0), .inl v1] h (f_X12_pass h t0 v1) :=
  nk_con (ini := false) (by decide) hl0 (Nat.le_of_ble_eq_true rfl) (by decide) (s_X12_pass hl0 h t0 v1)
set_option maxHeartbeats 4000000 in
theorem s_X12_unread_c49 {G : nk_G} {l : Launch} (hl0 : l.flags = flags0) {r4 : nk_H → Nat → Int32 → Int32 → Int32 → Option (nk_H × Int32)} (hr4 : ∀ (h : nk_H) (t0 : Nat) (v1 : Int32) (v2 : Int32) (v3 : Int32), nk_Sim G l RX12 cX12_unread 4 (some FieldType.int) 0 0 false nk_eI 4 [(0, .inr (some t0)), (1, .inl v1), (2, .inl v2), (3, .inl v3)] [] h (r4 h t0 v1 v2 v3)) (h : nk_H) (t0 : Nat) (v1 : Int32) (v3 : Int32) (s0 : Int32) (s1 : Int32) : nk_Sim G l RX12 cX12_unread 4 (some FieldType.int) 0 0 false nk_eI 49 [(0, .inr (some t0)), (1, .inl v1), (3, .inl v3)] [.inl s0, .inl s1] h (f_X12_unread_c49  r4 h t0 v1 v3 s0 s1) := by
  unfold f_X12_unread_c49
  refine nr_iadd dX12_unread_49 ?_
  refine nr_istore_n (lv2 := [(2, .inl (s1 + s0)), (0, .inr (some t0)), (1, .inl v1), (3, .inl v3)]) dX12_unread_50 (by decide) rfl ?_
  refine nr_iinc (lv2 := [(3, .inl (v3 + 1)), (2, .inl (s1 + s0)), (0, .inr (some t0)), (1, .inl v1)]) 3 (v3 + 1) dX12_unread_51 rfl (by rfl) (by decide) rfl ?_
  refine nr_goto (tgt := 4) dX12_unread_54 (by decide) ?_
  exact nk_locals [2, 3, 1, 0] rfl (hr4 h t0 v1 (s1 + s0) (v3 + 1))
set_option maxHeartbeats 4000000 in
theorem s_X12_unread_c48 {G : nk_G} {l : Launch} (hl0 : l.flags = flags0) {r4 : nk_H → Nat → Int32 → Int32 → Int32 → Option (nk_H × Int32)} (hr4 : ∀ (h : nk_H) (t0 : Nat) (v1 : Int32) (v2 : Int32) (v3 : Int32), nk_Sim G l RX12 cX12_unread 4 (some FieldType.int) 0 0 false nk_eI 4 [(0, .inr (some t0)), (1, .inl v1), (2, .inl v2), (3, .inl v3)] [] h (r4 h t0 v1 v2 v3)) (h : nk_H) (t0 : Nat) (v1 : Int32) (v3 : Int32) (s0 : Int32) : nk_Sim G l RX12 cX12_unread 4 (some FieldType.int) 0 0 false nk_eI 48 [(0, .inr (some t0)), (1, .inl v1), (3, .inl v3)] [.inl s0] h (f_X12_unread_c48  r4 h t0 v1 v3 s0) := by
  unfold f_X12_unread_c48
  refine nr_iconst (v := 0) dX12_unread_48 (by decide) ?_
  exact s_X12_unread_c49 hl0 hr4 h t0 v1 v3 0 s0
set_option maxHeartbeats 4000000 in
theorem s_X12_unread_c4 {G : nk_G} {l : Launch} (hl0 : l.flags = flags0) {r4 : nk_H → Nat → Int32 → Int32 → Int32 → Option (nk_H × Int32)} (hr4 : ∀ (h : nk_H) (t0 : Nat) (v1 : Int32) (v2 : Int32) (v3 : Int32), nk_Sim G l RX12 cX12_unread 4 (some FieldType.int) 0 0 false nk_eI 4 [(0, .inr (some t0)), (1, .inl v1), (2, .inl v2), (3, .inl v3)] [] h (r4 h t0 v1 v2 v3)) (h : nk_H) (t0 : Nat) (v1 : Int32) (v2 : Int32) (v3 : Int32)  : nk_Sim G l RX12 cX12_unread 4 (some FieldType.int) 0 0 false nk_eI 4 [(0, .inr (some t0)), (1, .inl v1), (2, .inl v2), (3, .inl v3)] [] h (f_X12_unread_c4  r4 h t0 v1 v2 v3 ) := by
  unfold f_X12_unread_c4
  refine nr_iload_n 3 dX12_unread_4 rfl ?_
  refine nr_aload_n 0 dX12_unread_5 rfl ?_
  refine nr_getI [19] 3 dX12_unread_6 fk_RX12_153 (fun x1 => ?_)
  refine nr_icmp_ge (tgt := 57) dX12_unread_9 (by decide) (fun _ => ?_) (fun _ => ?_)
  · refine nr_iload_n 2 dX12_unread_57 rfl ?_
    exact nr_iret rfl rfl dX12_unread_58
  · refine nr_iload_n 2 dX12_unread_12 rfl ?_
    refine nr_aload_n 0 dX12_unread_13 rfl ?_
    refine nr_getP [19] 10 dX12_unread_14 fk_RX12_31 (fun x2 => ?_)
    refine nr_sipush (v := 160) dX12_unread_17 (by decide) ?_
    refine nr_iload_n 1 dX12_unread_20 rfl ?_
    refine nr_imul dX12_unread_21 ?_
    refine nr_iload_n 3 dX12_unread_22 rfl ?_
    refine nr_iadd dX12_unread_23 ?_
    refine nr_iaload dX12_unread_24 (fun x3 => ?_)
    refine nr_iconst (v := (-1)) dX12_unread_25 (by decide) ?_
    refine nr_icmp_eq (tgt := 48) dX12_unread_26 (by decide) (fun _ => ?_) (fun _ => ?_)
    · exact nk_locals [0, 1, 3] rfl (s_X12_unread_c48 hl0 hr4 h t0 v1 v3 v2)
    · refine nr_aload_n 0 dX12_unread_29 rfl ?_
      refine nr_getP [19] 11 dX12_unread_30 fk_RX12_34 (fun x4 => ?_)
      refine nr_sipush (v := 160) dX12_unread_33 (by decide) ?_
      refine nr_iload_n 1 dX12_unread_36 rfl ?_
      refine nr_imul dX12_unread_37 ?_
      refine nr_iload_n 3 dX12_unread_38 rfl ?_
      refine nr_iadd dX12_unread_39 ?_
      refine nr_baload dX12_unread_40 (fun x5 => ?_)
      refine nr_if_ne (tgt := 48) dX12_unread_41 (by decide) (fun _ => ?_) (fun _ => ?_)
      · refine nr_iconst (v := 1) dX12_unread_44 (by decide) ?_
        refine nr_goto (tgt := 49) dX12_unread_45 (by decide) ?_
        exact nk_locals [0, 1, 3] rfl (s_X12_unread_c49 hl0 hr4 h t0 v1 v3 1 v2)
      · exact nk_locals [0, 1, 3] rfl (s_X12_unread_c48 hl0 hr4 h t0 v1 v3 v2)
theorem s_X12_unread_b4 {G : nk_G} {l : Launch} (hl0 : l.flags = flags0)   : ∀ (n : Nat) (h : nk_H) (t0 : Nat) (v1 : Int32) (v2 : Int32) (v3 : Int32), nk_Sim G l RX12 cX12_unread 4 (some FieldType.int) 0 0 false nk_eI 4 [(0, .inr (some t0)), (1, .inl v1), (2, .inl v2), (3, .inl v3)] [] h (f_X12_unread_b4   n h t0 v1 v2 v3)
  | 0, _, _, _, _, _ => nk_none
  | n + 1, h, t0, v1, v2, v3 => s_X12_unread_c4 hl0 (s_X12_unread_b4 hl0  n) h t0 v1 v2 v3
set_option maxHeartbeats 4000000 in
theorem s_X12_unread {G : nk_G} {l : Launch} (hl0 : l.flags = flags0) (h : nk_H) (t0 : Nat) (v1 : Int32) : nk_Sim G l RX12 cX12_unread 4 (some FieldType.int) 0 0 false nk_eI 0 [(0, .inr (some t0)), (1, .inl v1)] [] h (f_X12_unread  h t0 v1) := by
  unfold f_X12_unread
  refine nr_iconst (v := 0) dX12_unread_0 (by decide) ?_
  refine nr_istore_n (lv2 := [(2, .inl 0), (0, .inr (some t0)), (1, .inl v1)]) dX12_unread_1 (by decide) rfl ?_
  refine nr_iconst (v := 0) dX12_unread_2 (by decide) ?_
  refine nr_istore_n (lv2 := [(3, .inl 0), (2, .inl 0), (0, .inr (some t0)), (1, .inl v1)]) dX12_unread_3 (by decide) rfl ?_
  exact nk_locals [2, 3, 1, 0] rfl (s_X12_unread_b4 hl0  4096 h t0 v1 0 0)
theorem c_X12_unread {G : nk_G} {l : Launch} (hl0 : l.flags = flags0) (h : nk_H) (t0 : Nat) (v1 : Int32) : nk_Con G l yX12_unread cX12_unread 4 (some FieldType.int) 0 0 nk_eI [.inr (some t0), .inl v1] h (f_X12_unread h t0 v1) :=
  nk_con (ini := false) (by decide) hl0 (Nat.le_of_ble_eq_true rfl) (by decide) (s_X12_unread hl0 h t0 v1)
set_option maxHeartbeats 4000000 in
theorem s_X12_read_c69 {G : nk_G} {l : Launch} (hl0 : l.flags = flags0) {r29 : nk_H → Nat → Int32 → Int32 → Int32 → Option (nk_H × Int32)} (hr29 : ∀ (h : nk_H) (t0 : Nat) (v1 : Int32) (v2 : Int32) (v3 : Int32), nk_Sim G l RX12 cX12_read 4 (some FieldType.int) 2 42 false nk_eI 29 [(0, .inr (some t0)), (1, .inl v1), (2, .inl v2), (3, .inl v3)] [] h (r29 h t0 v1 v2 v3)) (h : nk_H) (t0 : Nat) (v1 : Int32) (v2 : Int32) (v3 : Int32) (s0 : Int32) (s1 : Int32) (s2 : Option Nat) : nk_Sim G l RX12 cX12_read 4 (some FieldType.int) 2 42 false nk_eI 69 [(0, .inr (some t0)), (1, .inl v1), (2, .inl v2), (3, .inl v3)] [.inl s0, .inl s1, .inr s2] h (f_X12_read_c69  r29 h t0 v1 v2 v3 s0 s1 s2) := by
  unfold f_X12_read_c69
  refine nr_bastore dX12_read_69 (fun h1 => ?_)
  refine nr_iinc (lv2 := [(3, .inl (v3 + 1)), (0, .inr (some t0)), (1, .inl v1), (2, .inl v2)]) 3 (v3 + 1) dX12_read_70 rfl (by rfl) (by decide) rfl ?_
  refine nr_goto (tgt := 29) dX12_read_73 (by decide) ?_
  exact nk_locals [1, 2, 3, 0] rfl (hr29 h1 t0 v1 v2 (v3 + 1))
set_option maxHeartbeats 4000000 in
theorem s_X12_read_c29 {G : nk_G} {l : Launch} (hl0 : l.flags = flags0) {r29 : nk_H → Nat → Int32 → Int32 → Int32 → Option (nk_H × Int32)} (hr29 : ∀ (h : nk_H) (t0 : Nat) (v1 : Int32) (v2 : Int32) (v3 : Int32), nk_Sim G l RX12 cX12_read 4 (some FieldType.int) 2 42 false nk_eI 29 [(0, .inr (some t0)), (1, .inl v1), (2, .inl v2), (3, .inl v3)] [] h (r29 h t0 v1 v2 v3)) (h : nk_H) (t0 : Nat) (v1 : Int32) (v2 : Int32) (v3 : Int32)  : nk_Sim G l RX12 cX12_read 4 (some FieldType.int) 2 42 false nk_eI 29 [(0, .inr (some t0)), (1, .inl v1), (2, .inl v2), (3, .inl v3)] [] h (f_X12_read_c29  r29 h t0 v1 v2 v3 ) := by
  unfold f_X12_read_c29
  refine nr_iload_n 3 dX12_read_29 rfl ?_
  refine nr_aload_n 0 dX12_read_30 rfl ?_
  refine nr_getI [19] 3 dX12_read_31 fk_RX12_153 (fun x2 => ?_)
  refine nr_icmp_ge (tgt := 76) dX12_read_34 (by decide) (fun _ => ?_) (fun _ => ?_)
  · refine nr_iload_n 2 dX12_read_76 rfl ?_
    exact nr_iret rfl rfl dX12_read_77
  · refine nr_aload_n 0 dX12_read_37 rfl ?_
    refine nr_getP [19] 11 dX12_read_38 fk_RX12_34 (fun x3 => ?_)
    refine nr_sipush (v := 160) dX12_read_41 (by decide) ?_
    refine nr_iload_n 1 dX12_read_44 rfl ?_
    refine nr_imul dX12_read_45 ?_
    refine nr_iload_n 3 dX12_read_46 rfl ?_
    refine nr_iadd dX12_read_47 ?_
    refine nr_aload_n 0 dX12_read_48 rfl ?_
    refine nr_getP [19] 10 dX12_read_49 fk_RX12_31 (fun x4 => ?_)
    refine nr_sipush (v := 160) dX12_read_52 (by decide) ?_
    refine nr_iload_n 1 dX12_read_55 rfl ?_
    refine nr_imul dX12_read_56 ?_
    refine nr_iload_n 3 dX12_read_57 rfl ?_
    refine nr_iadd dX12_read_58 ?_
    refine nr_iaload dX12_read_59 (fun x5 => ?_)
    refine nr_iconst (v := (-1)) dX12_read_60 (by decide) ?_
    refine nr_icmp_eq (tgt := 68) dX12_read_61 (by decide) (fun _ => ?_) (fun _ => ?_)
    · refine nr_iconst (v := 0) dX12_read_68 (by decide) ?_
      exact s_X12_read_c69 hl0 hr29 h t0 v1 v2 v3 0 ((160 * v1) + v3) x3
    · refine nr_iconst (v := 1) dX12_read_64 (by decide) ?_
      refine nr_goto (tgt := 69) dX12_read_65 (by decide) ?_
      exact s_X12_read_c69 hl0 hr29 h t0 v1 v2 v3 1 ((160 * v1) + v3) x3
theorem s_X12_read_b29 {G : nk_G} {l : Launch} (hl0 : l.flags = flags0)   : ∀ (n : Nat) (h : nk_H) (t0 : Nat) (v1 : Int32) (v2 : Int32) (v3 : Int32), nk_Sim G l RX12 cX12_read 4 (some FieldType.int) 2 42 false nk_eI 29 [(0, .inr (some t0)), (1, .inl v1), (2, .inl v2), (3, .inl v3)] [] h (f_X12_read_b29   n h t0 v1 v2 v3)
  | 0, _, _, _, _, _ => nk_none
  | n + 1, h, t0, v1, v2, v3 => s_X12_read_c29 hl0 (s_X12_read_b29 hl0  n) h t0 v1 v2 v3
set_option maxHeartbeats 4000000 in
theorem s_X12_read_c13 {G : nk_G} {l : Launch} (hl0 : l.flags = flags0)   (h : nk_H) (t0 : Nat) (v1 : Int32) (s0 : Int32) (s1 : Option Nat) : nk_Sim G l RX12 cX12_read 4 (some FieldType.int) 2 42 false nk_eI 13 [(0, .inr (some t0)), (1, .inl v1)] [.inl s0, .inr s1] h (f_X12_read_c13   h t0 v1 s0 s1) := by
  unfold f_X12_read_c13
  refine nr_rcv (ks := [19]) (pre := [.inl s0]) (fun a6 hm => ?_)
  refine nr_doI (st := []) (nk_callV (q := (RX12, TX12, 45)) (ci := 12) (c_X12_holds (G := G) hl0 h a6 s0) dX12_read_13 (List.mem_singleton.mp hm) rfl rfl my_X12_holds im_X12_holds se_RX12_X12_holds ml_RX12_143 rfl rfl (Nat.le_of_ble_eq_true rfl) (by decide) (by decide)) (fun h7 x8 => ?_)
  refine nr_if_ne (tgt := 21) dX12_read_16 (by decide) (fun _ => ?_) (fun _ => ?_)
  · refine nr_iconst (v := 0) dX12_read_19 (by decide) ?_
    exact nr_iret rfl rfl dX12_read_20
  · refine nr_aload_n 0 dX12_read_21 rfl ?_
    refine nr_iload_n 1 dX12_read_22 rfl ?_
    refine nr_rcv (ks := [19]) (pre := [.inl v1]) (fun a9 hm => ?_)
    refine nr_doI (st := []) (nk_callV (q := (RX12, TX12, 45)) (ci := 12) (c_X12_unread (G := G) hl0 h7 a9 v1) dX12_read_23 (List.mem_singleton.mp hm) rfl rfl my_X12_unread im_X12_unread se_RX12_X12_unread ml_RX12_159 rfl rfl (Nat.le_of_ble_eq_true rfl) (by decide) (by decide)) (fun h10 x11 => ?_)
    refine nr_istore_n (lv2 := [(2, .inl x11), (0, .inr (some t0)), (1, .inl v1)]) dX12_read_26 (by decide) rfl ?_
    refine nr_iconst (v := 0) dX12_read_27 (by decide) ?_
    refine nr_istore_n (lv2 := [(3, .inl 0), (2, .inl x11), (0, .inr (some t0)), (1, .inl v1)]) dX12_read_28 (by decide) rfl ?_
    exact nk_locals [2, 3, 1, 0] rfl (s_X12_read_b29 hl0  4096 h10 t0 v1 x11 0)
set_option maxHeartbeats 4000000 in
theorem s_X12_read {G : nk_G} {l : Launch} (hl0 : l.flags = flags0) (h : nk_H) (t0 : Nat) (v1 : Int32) : nk_Sim G l RX12 cX12_read 4 (some FieldType.int) 2 42 false nk_eI 0 [(0, .inr (some t0)), (1, .inl v1)] [] h (f_X12_read  h t0 v1) := by
  unfold f_X12_read
  refine nr_aload_n 0 dX12_read_0 rfl ?_
  refine nr_iload_n 1 dX12_read_1 rfl ?_
  refine nr_doI (st := [.inr (some t0)]) (nk_callS (c_X12_isKiosk (G := G) hl0 h v1) dX12_read_2 my_X12_isKiosk st_X12_isKiosk ml_RX12_131 rfl rfl (Nat.le_of_ble_eq_true rfl) (by decide) (by decide)) (fun h12 x13 => ?_)
  refine nr_if_eq (tgt := 12) dX12_read_5 (by decide) (fun _ => ?_) (fun _ => ?_)
  · refine nr_iconst (v := 1) dX12_read_12 (by decide) ?_
    exact s_X12_read_c13 hl0  h12 t0 v1 1 (some t0)
  · refine nr_iconst (v := 0) dX12_read_8 (by decide) ?_
    refine nr_goto (tgt := 13) dX12_read_9 (by decide) ?_
    exact s_X12_read_c13 hl0  h12 t0 v1 0 (some t0)
theorem c_X12_read {G : nk_G} {l : Launch} (hl0 : l.flags = flags0) (h : nk_H) (t0 : Nat) (v1 : Int32) : nk_Con G l yX12_read cX12_read 4 (some FieldType.int) 2 42 nk_eI [.inr (some t0), .inl v1] h (f_X12_read h t0 v1) :=
  nk_con (ini := false) (by decide) hl0 (Nat.le_of_ble_eq_true rfl) (by decide) (s_X12_read hl0 h t0 v1)
set_option maxHeartbeats 4000000 in
theorem s_X12_makes {G : nk_G} {l : Launch} (hl0 : l.flags = flags0) (h : nk_H) (t0 : Nat) (v1 : Int32) (v2 : Int32) (v3 : Int32) : nk_Sim G l RX12 cX12_makes 4 (some FieldType.int) 0 0 false nk_eI 0 [(0, .inr (some t0)), (1, .inl v1), (2, .inl v2), (3, .inl v3)] [] h (f_X12_makes  h t0 v1 v2 v3) := by
  unfold f_X12_makes
  refine nr_aload_n 0 dX12_makes_0 rfl ?_
  refine nr_getP [19] 4 dX12_makes_1 fk_RX12_13 (fun x1 => ?_)
  refine nr_aload_n 0 dX12_makes_4 rfl ?_
  refine nr_getI [19] 3 dX12_makes_5 fk_RX12_153 (fun x2 => ?_)
  refine nr_iload_n 2 dX12_makes_8 rfl ?_
  refine nr_iastore dX12_makes_9 (fun h3 => ?_)
  refine nr_aload_n 0 dX12_makes_10 rfl ?_
  refine nr_getP [19] 5 dX12_makes_11 fk_RX12_16 (fun x4 => ?_)
  refine nr_aload_n 0 dX12_makes_14 rfl ?_
  refine nr_getI [19] 3 dX12_makes_15 fk_RX12_153 (fun x5 => ?_)
  refine nr_iload_n 1 dX12_makes_18 rfl ?_
  refine nr_iastore dX12_makes_19 (fun h6 => ?_)
  refine nr_aload_n 0 dX12_makes_20 rfl ?_
  refine nr_getP [19] 6 dX12_makes_21 fk_RX12_19 (fun x7 => ?_)
  refine nr_aload_n 0 dX12_makes_24 rfl ?_
  refine nr_getI [19] 3 dX12_makes_25 fk_RX12_153 (fun x8 => ?_)
  refine nr_aload_n 0 dX12_makes_28 rfl ?_
  refine nr_getI [19] 1 dX12_makes_29 fk_RX12_150 (fun x9 => ?_)
  refine nr_iastore dX12_makes_32 (fun h10 => ?_)
  refine nr_aload_n 0 dX12_makes_33 rfl ?_
  refine nr_getP [19] 7 dX12_makes_34 fk_RX12_22 (fun x11 => ?_)
  refine nr_aload_n 0 dX12_makes_37 rfl ?_
  refine nr_getI [19] 3 dX12_makes_38 fk_RX12_153 (fun x12 => ?_)
  refine nr_iload_n 3 dX12_makes_41 rfl ?_
  refine nr_iastore dX12_makes_42 (fun h13 => ?_)
  refine nr_aload_n 0 dX12_makes_43 rfl ?_
  refine nr_getP [19] 10 dX12_makes_44 fk_RX12_31 (fun x14 => ?_)
  refine nr_sipush (v := 160) dX12_makes_47 (by decide) ?_
  refine nr_iload_n 1 dX12_makes_50 rfl ?_
  refine nr_imul dX12_makes_51 ?_
  refine nr_aload_n 0 dX12_makes_52 rfl ?_
  refine nr_getI [19] 3 dX12_makes_53 fk_RX12_153 (fun x15 => ?_)
  refine nr_iadd dX12_makes_56 ?_
  refine nr_aload_n 0 dX12_makes_57 rfl ?_
  refine nr_getI [19] 1 dX12_makes_58 fk_RX12_150 (fun x16 => ?_)
  refine nr_iastore dX12_makes_61 (fun h17 => ?_)
  refine nr_aload_n 0 dX12_makes_62 rfl ?_
  refine nr_getP [19] 11 dX12_makes_63 fk_RX12_34 (fun x18 => ?_)
  refine nr_sipush (v := 160) dX12_makes_66 (by decide) ?_
  refine nr_iload_n 1 dX12_makes_69 rfl ?_
  refine nr_imul dX12_makes_70 ?_
  refine nr_aload_n 0 dX12_makes_71 rfl ?_
  refine nr_getI [19] 3 dX12_makes_72 fk_RX12_153 (fun x19 => ?_)
  refine nr_iadd dX12_makes_75 ?_
  refine nr_iconst (v := 1) dX12_makes_76 (by decide) ?_
  refine nr_bastore dX12_makes_77 (fun h20 => ?_)
  refine nr_aload_n 0 dX12_makes_78 rfl ?_
  refine nr_dup dX12_makes_79 ?_
  refine nr_getI [19] 3 dX12_makes_80 fk_RX12_153 (fun x21 => ?_)
  refine nr_iconst (v := 1) dX12_makes_83 (by decide) ?_
  refine nr_iadd dX12_makes_84 ?_
  refine nr_putI [19] 3 dX12_makes_85 fk_RX12_153 fw_RX12_153_n (fun h22 => ?_)
  refine nr_aload_n 0 dX12_makes_88 rfl ?_
  refine nr_getI [19] 3 dX12_makes_89 fk_RX12_153 (fun x23 => ?_)
  refine nr_iconst (v := 1) dX12_makes_92 (by decide) ?_
  refine nr_isub dX12_makes_93 ?_
  exact nr_iret rfl rfl dX12_makes_94
theorem c_X12_makes {G : nk_G} {l : Launch} (hl0 : l.flags = flags0) (h : nk_H) (t0 : Nat) (v1 : Int32) (v2 : Int32) (v3 : Int32) : nk_Con G l yX12_makes cX12_makes 4 (some FieldType.int) 0 0 nk_eI [.inr (some t0), .inl v1, .inl v2, .inl v3] h (f_X12_makes h t0 v1 v2 v3) :=
  nk_con (ini := false) (by decide) hl0 (Nat.le_of_ble_eq_true rfl) (by decide) (s_X12_makes hl0 h t0 v1 v2 v3)
set_option maxHeartbeats 4000000 in
theorem s_X12_has_c86 {G : nk_G} {l : Launch} (hl0 : l.flags = flags0)   (h : nk_H)  (s0 : Int32) : nk_Sim G l RX12 cX12_has 5 (some FieldType.boolean) 1 22 false nk_eI 86 [] [.inl s0] h (f_X12_has_c86   h  s0) := by
  unfold f_X12_has_c86
  exact nr_zret rfl rfl dX12_has_86
set_option maxHeartbeats 4000000 in
theorem s_X12_has_c81 {G : nk_G} {l : Launch} (hl0 : l.flags = flags0)   (h : nk_H)   : nk_Sim G l RX12 cX12_has 5 (some FieldType.boolean) 1 22 false nk_eI 81 [] [] h (f_X12_has_c81   h  ) := by
  unfold f_X12_has_c81
  refine nr_iconst (v := 1) dX12_has_81 (by decide) ?_
  refine nr_goto (tgt := 86) dX12_has_82 (by decide) ?_
  exact s_X12_has_c86 hl0  h 1
set_option maxHeartbeats 4000000 in
theorem s_X12_has_c85 {G : nk_G} {l : Launch} (hl0 : l.flags = flags0)   (h : nk_H)   : nk_Sim G l RX12 cX12_has 5 (some FieldType.boolean) 1 22 false nk_eI 85 [] [] h (f_X12_has_c85   h  ) := by
  unfold f_X12_has_c85
  refine nr_iconst (v := 0) dX12_has_85 (by decide) ?_
  exact s_X12_has_c86 hl0  h 0
set_option maxHeartbeats 4000000 in
theorem s_X12_has {G : nk_G} {l : Launch} (hl0 : l.flags = flags0) (h : nk_H) (t0 : Nat) (v1 : Int32) (v2 : Int32) : nk_Sim G l RX12 cX12_has 5 (some FieldType.boolean) 1 22 false nk_eI 0 [(0, .inr (some t0)), (1, .inl v1), (2, .inl v2)] [] h (f_X12_has  h t0 v1 v2) := by
  unfold f_X12_has
  refine nr_iload_n 1 dX12_has_0 rfl ?_
  refine nr_iconst (v := (-1)) dX12_has_1 (by decide) ?_
  refine nr_icmp_ne (tgt := 7) dX12_has_2 (by decide) (fun _ => ?_) (fun _ => ?_)
  · refine nr_iconst (v := 1) dX12_has_5 (by decide) ?_
    exact nr_zret rfl rfl dX12_has_6
  · refine nr_iload_n 1 dX12_has_7 rfl ?_
    refine nr_bipush (v := 6) dX12_has_8 (by decide) ?_
    refine nr_icmp_ge (tgt := 26) dX12_has_10 (by decide) (fun _ => ?_) (fun _ => ?_)
    · refine nr_iload_n 1 dX12_has_26 rfl ?_
      refine nr_bipush (v := 6) dX12_has_27 (by decide) ?_
      refine nr_isub dX12_has_29 ?_
      refine nr_istore_n (lv2 := [(3, .inl (v1 - 6)), (0, .inr (some t0)), (1, .inl v1), (2, .inl v2)]) dX12_has_30 (by decide) rfl ?_
      refine nr_aload_n 1 dX12_has_31 rfl ?_
      refine nr_getP [19] 5 dX12_has_32 fk_RX12_16 (fun x1 => ?_)
      refine nr_iload_n 0 dX12_has_35 rfl ?_
      refine nr_iaload dX12_has_36 (fun x2 => ?_)
      refine nr_istore (lv2 := [(4, .inl x2), (3, .inl (v1 - 6)), (0, .inr (some t0)), (1, .inl v1), (2, .inl v2)]) dX12_has_37 (by decide) rfl ?_
      refine nr_aload_n 2 dX12_has_39 rfl ?_
      refine nr_getP [19] 10 dX12_has_40 fk_RX12_31 (fun x3 => ?_)
      refine nr_sipush (v := 160) dX12_has_43 (by decide) ?_
      refine nr_iload 0 dX12_has_46 rfl ?_
      refine nr_imul dX12_has_48 ?_
      refine nr_iload_n 4 dX12_has_49 rfl ?_
      refine nr_iadd dX12_has_50 ?_
      refine nr_iaload dX12_has_51 (fun x4 => ?_)
      refine nr_iconst (v := 0) dX12_has_52 (by decide) ?_
      refine nr_aload_n 2 dX12_has_53 rfl ?_
      refine nr_getP [19] 6 dX12_has_54 fk_RX12_19 (fun x5 => ?_)
      refine nr_iload_n 1 dX12_has_57 rfl ?_
      refine nr_iaload dX12_has_58 (fun x6 => ?_)
      refine nr_doI (st := []) (nk_callS (c_X12_in (G := G) hl0 h x4 0 x6) dX12_has_59 my_X12_in st_X12_in ml_RX12_124 rfl rfl (Nat.le_of_ble_eq_true rfl) (by decide) (by decide)) (fun h7 x8 => ?_)
      refine nr_if_eq (tgt := 85) dX12_has_62 (by decide) (fun _ => ?_) (fun _ => ?_)
      · exact nk_locals [] rfl (s_X12_has_c85 hl0  h7)
      · refine nr_aload_n 2 dX12_has_65 rfl ?_
        refine nr_getP [19] 5 dX12_has_66 fk_RX12_16 (fun x9 => ?_)
        refine nr_iload_n 4 dX12_has_69 rfl ?_
        refine nr_iaload dX12_has_70 (fun x10 => ?_)
        refine nr_iload 0 dX12_has_71 rfl ?_
        refine nr_icmp_ne (tgt := 81) dX12_has_73 (by decide) (fun _ => ?_) (fun _ => ?_)
        · refine nr_iload_n 4 dX12_has_76 rfl ?_
          refine nr_iload_n 1 dX12_has_77 rfl ?_
          refine nr_icmp_ge (tgt := 85) dX12_has_78 (by decide) (fun _ => ?_) (fun _ => ?_)
          · exact nk_locals [] rfl (s_X12_has_c85 hl0  h7)
          · exact nk_locals [] rfl (s_X12_has_c81 hl0  h7)
        · exact nk_locals [] rfl (s_X12_has_c81 hl0  h7)
    · refine nr_aload_n 0 dX12_has_13 rfl ?_
      refine nr_getP [19] 11 dX12_has_14 fk_RX12_34 (fun x11 => ?_)
      refine nr_sipush (v := 160) dX12_has_17 (by decide) ?_
      refine nr_iload_n 1 dX12_has_20 rfl ?_
      refine nr_imul dX12_has_21 ?_
      refine nr_iload_n 2 dX12_has_22 rfl ?_
      refine nr_iadd dX12_has_23 ?_
      refine nr_baload dX12_has_24 (fun x12 => ?_)
      exact nr_zret rfl rfl dX12_has_25
theorem c_X12_has {G : nk_G} {l : Launch} (hl0 : l.flags = flags0) (h : nk_H) (t0 : Nat) (v1 : Int32) (v2 : Int32) : nk_Con G l yX12_has cX12_has 5 (some FieldType.boolean) 1 22 nk_eI [.inr (some t0), .inl v1, .inl v2] h (f_X12_has h t0 v1 v2) :=
  nk_con (ini := false) (by decide) hl0 (Nat.le_of_ble_eq_true rfl) (by decide) (s_X12_has hl0 h t0 v1 v2)
