set_option maxHeartbeats 4000000 in
theorem s_L_law_c2879 {G : nk_G} {l : Launch} (hl0 : l.flags = flags0) {r23 : nk_H → Option Nat → Option Nat → Option Nat → Int32 → Option (nk_H × Int32)} (hr23 : ∀ (h : nk_H)  (v1 : Option Nat) (v2 : Option Nat) (v3 : Option Nat) (v4 : Int32), nk_Sim G l RL cL_law 7 (some FieldType.boolean) 11 260 false nk_eI 23 [(0, .inr (some (nk_gB G))), (1, .inr v1), (2, .inr v2), (3, .inr v3), (4, .inl v4)] [] h (r23 h  v1 v2 v3 v4)) (h : nk_H)  (v1 : Option Nat) (v2 : Option Nat) (v3 : Option Nat) (v4 : Int32)  : nk_Sim G l RL cL_law 7 (some FieldType.boolean) 11 260 false nk_eI 2879 [(0, .inr (some (nk_gB G))), (1, .inr v1), (2, .inr v2), (3, .inr v3), (4, .inl v4)] [] h (f_L_law_c2879 G r23 h v1 v2 v3 v4 ) := by
  unfold f_L_law_c2879
  refine nr_iinc (lv2 := [(4, .inl (v4 + 6)), (0, .inr (some (nk_gB G))), (1, .inr v1), (2, .inr v2), (3, .inr v3)]) 4 (v4 + 6) dL_law_2879 rfl (by rfl) (by decide) rfl ?_
  refine nr_goto (tgt := 23) dL_law_2882 (by decide) ?_
  exact nk_locals [1, 2, 3, 4, 0] rfl (hr23 h v1 v2 v3 (v4 + 6))
set_option maxHeartbeats 4000000 in
theorem s_L_law_c285 {G : nk_G} {l : Launch} (hl0 : l.flags = flags0) {r23 : nk_H → Option Nat → Option Nat → Option Nat → Int32 → Option (nk_H × Int32)} (hr23 : ∀ (h : nk_H)  (v1 : Option Nat) (v2 : Option Nat) (v3 : Option Nat) (v4 : Int32), nk_Sim G l RL cL_law 7 (some FieldType.boolean) 11 260 false nk_eI 23 [(0, .inr (some (nk_gB G))), (1, .inr v1), (2, .inr v2), (3, .inr v3), (4, .inl v4)] [] h (r23 h  v1 v2 v3 v4)) (h : nk_H)  (v1 : Option Nat) (v2 : Option Nat) (v3 : Option Nat) (v4 : Int32)  : nk_Sim G l RL cL_law 7 (some FieldType.boolean) 11 260 false nk_eI 285 [(0, .inr (some (nk_gB G))), (1, .inr v1), (2, .inr v2), (3, .inr v3), (4, .inl v4)] [] h (f_L_law_c285 G r23 h v1 v2 v3 v4 ) := by
  unfold f_L_law_c285
  refine nr_goto (tgt := 2879) dL_law_285 (by decide) ?_
  exact s_L_law_c2879 hl0 hr23 h v1 v2 v3 v4
set_option maxHeartbeats 4000000 in
theorem s_L_law_c220 {G : nk_G} {l : Launch} (hl0 : l.flags = flags0) {r23 : nk_H → Option Nat → Option Nat → Option Nat → Int32 → Option (nk_H × Int32)} (hr23 : ∀ (h : nk_H)  (v1 : Option Nat) (v2 : Option Nat) (v3 : Option Nat) (v4 : Int32), nk_Sim G l RL cL_law 7 (some FieldType.boolean) 11 260 false nk_eI 23 [(0, .inr (some (nk_gB G))), (1, .inr v1), (2, .inr v2), (3, .inr v3), (4, .inl v4)] [] h (r23 h  v1 v2 v3 v4)) (h : nk_H)  (v1 : Option Nat) (v2 : Option Nat) (v3 : Option Nat) (v4 : Int32)  : nk_Sim G l RL cL_law 7 (some FieldType.boolean) 11 260 false nk_eI 220 [(0, .inr (some (nk_gB G))), (1, .inr v1), (2, .inr v2), (3, .inr v3), (4, .inl v4)] [] h (f_L_law_c220 G r23 h v1 v2 v3 v4 ) := by
  unfold f_L_law_c220
  refine nr_aload_n 1 dL_law_220 rfl ?_
  refine nr_aload_n 0 dL_law_221 rfl ?_
  refine nr_iload 4 dL_law_222 rfl ?_
  refine nr_iconst (v := 1) dL_law_224 (by decide) ?_
  refine nr_iadd dL_law_225 ?_
  refine nr_sld dL_law_226 (fun x1 => ?_)
  refine nr_aload_n 0 dL_law_227 rfl ?_
  refine nr_iload 4 dL_law_228 rfl ?_
  refine nr_iconst (v := 2) dL_law_230 (by decide) ?_
  refine nr_iadd dL_law_231 ?_
  refine nr_sld dL_law_232 (fun x2 => ?_)
  refine nr_aload_n 3 dL_law_233 rfl ?_
  refine nr_doI (st := []) (nk_callSW (c_L_join (G := G) hl0 h v1 x1 x2 v3) dL_law_234 my_L_join st_L_join ml_RL_138 rfl rfl (Nat.le_of_ble_eq_true rfl) (by decide) (by decide)) (fun h3 x4 => ?_)
  refine nr_istore (lv2 := [(5, .inl x4), (0, .inr (some (nk_gB G))), (1, .inr v1), (2, .inr v2), (3, .inr v3), (4, .inl v4)]) dL_law_237 (by decide) rfl ?_
  refine nr_aload_n 3 dL_law_239 rfl ?_
  refine nr_aload_n 1 dL_law_240 rfl ?_
  refine nr_iload 5 dL_law_241 rfl ?_
  refine nr_iconst (v := 1) dL_law_243 (by decide) ?_
  refine nr_iadd dL_law_244 ?_
  refine nr_sld dL_law_245 (fun x5 => ?_)
  refine nr_aload_n 1 dL_law_246 rfl ?_
  refine nr_iload 5 dL_law_247 rfl ?_
  refine nr_iconst (v := 2) dL_law_249 (by decide) ?_
  refine nr_iadd dL_law_250 ?_
  refine nr_sld dL_law_251 (fun x6 => ?_)
  refine nr_rcv (ks := [19]) (pre := [.inl x6, .inl x5]) (fun a7 hm => ?_)
  refine nr_doI (st := []) (nk_callV (q := (RX12, TX12, 45)) (ci := 12) (c_X12_join (G := G) hl0 h3 a7 x5 x6) dL_law_252 (List.mem_singleton.mp hm) rfl rfl my_X12_join im_X12_join se_RX12_X12_join ml_RL_143 rfl rfl (Nat.le_of_ble_eq_true rfl) (by decide) (by decide)) (fun h8 x9 => ?_)
  refine nr_istore (lv2 := [(6, .inl x9), (5, .inl x4), (0, .inr (some (nk_gB G))), (1, .inr v1), (2, .inr v2), (3, .inr v3), (4, .inl v4)]) dL_law_255 (by decide) rfl ?_
  refine nr_aload_n 4 dL_law_257 rfl ?_
  refine nr_rcv (ks := [19]) (pre := []) (fun a10 hm => ?_)
  refine nr_doI (st := []) (nk_callV (q := (RX12, TX12, 45)) (ci := 12) (c_X12_thrown (G := G) hl0 h8 a10) dL_law_258 (List.mem_singleton.mp hm) rfl rfl my_X12_thrown im_X12_thrown se_RX12_X12_thrown ml_RL_144 rfl rfl (Nat.le_of_ble_eq_true rfl) (by decide) (by decide)) (fun h11 x12 => ?_)
  refine nr_iload 1 dL_law_261 rfl ?_
  refine nr_icmp_eq (tgt := 268) dL_law_263 (by decide) (fun _ => ?_) (fun _ => ?_)
  · refine nr_iload 1 dL_law_268 rfl ?_
    refine nr_if_ne (tgt := 285) dL_law_270 (by decide) (fun _ => ?_) (fun _ => ?_)
    · refine nr_aload_n 5 dL_law_273 rfl ?_
      refine nr_iconst (v := 0) dL_law_274 (by decide) ?_
      refine nr_lcI (j := 0) (tgt := 285) dL_law_275 dL_law_276 rfl dL_law_278 dL_law_279 dL_law_280 (by decide) (fun x13 => ?_) (fun x13 => ?_)
      · exact nk_locals [2, 3, 4, 5, 6] rfl (s_L_law_c285 hl0 hr23 h11 v1 v2 v3 v4)
      · refine nr_iconst (v := 0) dL_law_283 (by decide) ?_
        exact nr_zret rfl rfl dL_law_284
    · exact nk_locals [2, 3, 4, 5, 6] rfl (s_L_law_c285 hl0 hr23 h11 v1 v2 v3 v4)
  · refine nr_iconst (v := 0) dL_law_266 (by decide) ?_
    exact nr_zret rfl rfl dL_law_267
set_option maxHeartbeats 4000000 in
theorem s_L_law_c353 {G : nk_G} {l : Launch} (hl0 : l.flags = flags0) {r23 : nk_H → Option Nat → Option Nat → Option Nat → Int32 → Option (nk_H × Int32)} (hr23 : ∀ (h : nk_H)  (v1 : Option Nat) (v2 : Option Nat) (v3 : Option Nat) (v4 : Int32), nk_Sim G l RL cL_law 7 (some FieldType.boolean) 11 260 false nk_eI 23 [(0, .inr (some (nk_gB G))), (1, .inr v1), (2, .inr v2), (3, .inr v3), (4, .inl v4)] [] h (r23 h  v1 v2 v3 v4)) (h : nk_H)  (v1 : Option Nat) (v2 : Option Nat) (v3 : Option Nat) (v4 : Int32)  : nk_Sim G l RL cL_law 7 (some FieldType.boolean) 11 260 false nk_eI 353 [(0, .inr (some (nk_gB G))), (1, .inr v1), (2, .inr v2), (3, .inr v3), (4, .inl v4)] [] h (f_L_law_c353 G r23 h v1 v2 v3 v4 ) := by
  unfold f_L_law_c353
  refine nr_goto (tgt := 2879) dL_law_353 (by decide) ?_
  exact s_L_law_c2879 hl0 hr23 h v1 v2 v3 v4
set_option maxHeartbeats 4000000 in
theorem s_L_law_c288 {G : nk_G} {l : Launch} (hl0 : l.flags = flags0) {r23 : nk_H → Option Nat → Option Nat → Option Nat → Int32 → Option (nk_H × Int32)} (hr23 : ∀ (h : nk_H)  (v1 : Option Nat) (v2 : Option Nat) (v3 : Option Nat) (v4 : Int32), nk_Sim G l RL cL_law 7 (some FieldType.boolean) 11 260 false nk_eI 23 [(0, .inr (some (nk_gB G))), (1, .inr v1), (2, .inr v2), (3, .inr v3), (4, .inl v4)] [] h (r23 h  v1 v2 v3 v4)) (h : nk_H)  (v1 : Option Nat) (v2 : Option Nat) (v3 : Option Nat) (v4 : Int32)  : nk_Sim G l RL cL_law 7 (some FieldType.boolean) 11 260 false nk_eI 288 [(0, .inr (some (nk_gB G))), (1, .inr v1), (2, .inr v2), (3, .inr v3), (4, .inl v4)] [] h (f_L_law_c288 G r23 h v1 v2 v3 v4 ) := by
  unfold f_L_law_c288
  refine nr_aload_n 1 dL_law_288 rfl ?_
  refine nr_aload_n 0 dL_law_289 rfl ?_
  refine nr_iload 4 dL_law_290 rfl ?_
  refine nr_iconst (v := 1) dL_law_292 (by decide) ?_
  refine nr_iadd dL_law_293 ?_
  refine nr_sld dL_law_294 (fun x14 => ?_)
  refine nr_aload_n 0 dL_law_295 rfl ?_
  refine nr_iload 4 dL_law_296 rfl ?_
  refine nr_iconst (v := 2) dL_law_298 (by decide) ?_
  refine nr_iadd dL_law_299 ?_
  refine nr_sld dL_law_300 (fun x15 => ?_)
  refine nr_aload_n 3 dL_law_301 rfl ?_
  refine nr_doI (st := []) (nk_callSW (c_L_cut (G := G) hl0 h v1 x14 x15 v3) dL_law_302 my_L_cut st_L_cut ml_RL_148 rfl rfl (Nat.le_of_ble_eq_true rfl) (by decide) (by decide)) (fun h16 x17 => ?_)
  refine nr_istore (lv2 := [(5, .inl x17), (0, .inr (some (nk_gB G))), (1, .inr v1), (2, .inr v2), (3, .inr v3), (4, .inl v4)]) dL_law_305 (by decide) rfl ?_
  refine nr_aload_n 3 dL_law_307 rfl ?_
  refine nr_aload_n 1 dL_law_308 rfl ?_
  refine nr_iload 5 dL_law_309 rfl ?_
  refine nr_iconst (v := 1) dL_law_311 (by decide) ?_
  refine nr_iadd dL_law_312 ?_
  refine nr_sld dL_law_313 (fun x18 => ?_)
  refine nr_aload_n 1 dL_law_314 rfl ?_
  refine nr_iload 5 dL_law_315 rfl ?_
  refine nr_iconst (v := 2) dL_law_317 (by decide) ?_
  refine nr_iadd dL_law_318 ?_
  refine nr_sld dL_law_319 (fun x19 => ?_)
  refine nr_rcv (ks := [19]) (pre := [.inl x19, .inl x18]) (fun a20 hm => ?_)
  refine nr_doI (st := []) (nk_callV (q := (RX12, TX12, 45)) (ci := 12) (c_X12_cut (G := G) hl0 h16 a20 x18 x19) dL_law_320 (List.mem_singleton.mp hm) rfl rfl my_X12_cut im_X12_cut se_RX12_X12_cut ml_RL_150 rfl rfl (Nat.le_of_ble_eq_true rfl) (by decide) (by decide)) (fun h21 x22 => ?_)
  refine nr_istore (lv2 := [(6, .inl x22), (5, .inl x17), (0, .inr (some (nk_gB G))), (1, .inr v1), (2, .inr v2), (3, .inr v3), (4, .inl v4)]) dL_law_323 (by decide) rfl ?_
  refine nr_aload_n 4 dL_law_325 rfl ?_
  refine nr_rcv (ks := [19]) (pre := []) (fun a23 hm => ?_)
  refine nr_doI (st := []) (nk_callV (q := (RX12, TX12, 45)) (ci := 12) (c_X12_thrown (G := G) hl0 h21 a23) dL_law_326 (List.mem_singleton.mp hm) rfl rfl my_X12_thrown im_X12_thrown se_RX12_X12_thrown ml_RL_144 rfl rfl (Nat.le_of_ble_eq_true rfl) (by decide) (by decide)) (fun h24 x25 => ?_)
  refine nr_iload 1 dL_law_329 rfl ?_
  refine nr_icmp_eq (tgt := 336) dL_law_331 (by decide) (fun _ => ?_) (fun _ => ?_)
  · refine nr_iload 1 dL_law_336 rfl ?_
    refine nr_if_ne (tgt := 353) dL_law_338 (by decide) (fun _ => ?_) (fun _ => ?_)
    · refine nr_aload_n 5 dL_law_341 rfl ?_
      refine nr_iconst (v := 0) dL_law_342 (by decide) ?_
      refine nr_lcI (j := 0) (tgt := 353) dL_law_343 dL_law_344 rfl dL_law_346 dL_law_347 dL_law_348 (by decide) (fun x26 => ?_) (fun x26 => ?_)
      · exact nk_locals [2, 3, 4, 5, 6] rfl (s_L_law_c353 hl0 hr23 h24 v1 v2 v3 v4)
      · refine nr_iconst (v := 0) dL_law_351 (by decide) ?_
        exact nr_zret rfl rfl dL_law_352
    · exact nk_locals [2, 3, 4, 5, 6] rfl (s_L_law_c353 hl0 hr23 h24 v1 v2 v3 v4)
  · refine nr_iconst (v := 0) dL_law_334 (by decide) ?_
    exact nr_zret rfl rfl dL_law_335
set_option maxHeartbeats 4000000 in
theorem s_L_law_c409 {G : nk_G} {l : Launch} (hl0 : l.flags = flags0) {r23 : nk_H → Option Nat → Option Nat → Option Nat → Int32 → Option (nk_H × Int32)} (hr23 : ∀ (h : nk_H)  (v1 : Option Nat) (v2 : Option Nat) (v3 : Option Nat) (v4 : Int32), nk_Sim G l RL cL_law 7 (some FieldType.boolean) 11 260 false nk_eI 23 [(0, .inr (some (nk_gB G))), (1, .inr v1), (2, .inr v2), (3, .inr v3), (4, .inl v4)] [] h (r23 h  v1 v2 v3 v4)) (h : nk_H)  (v1 : Option Nat) (v2 : Option Nat) (v3 : Option Nat) (v4 : Int32)  : nk_Sim G l RL cL_law 7 (some FieldType.boolean) 11 260 false nk_eI 409 [(0, .inr (some (nk_gB G))), (1, .inr v1), (2, .inr v2), (3, .inr v3), (4, .inl v4)] [] h (f_L_law_c409 G r23 h v1 v2 v3 v4 ) := by
  unfold f_L_law_c409
  refine nr_goto (tgt := 2879) dL_law_409 (by decide) ?_
  exact s_L_law_c2879 hl0 hr23 h v1 v2 v3 v4
set_option maxHeartbeats 4000000 in
theorem s_L_law_c356 {G : nk_G} {l : Launch} (hl0 : l.flags = flags0) {r23 : nk_H → Option Nat → Option Nat → Option Nat → Int32 → Option (nk_H × Int32)} (hr23 : ∀ (h : nk_H)  (v1 : Option Nat) (v2 : Option Nat) (v3 : Option Nat) (v4 : Int32), nk_Sim G l RL cL_law 7 (some FieldType.boolean) 11 260 false nk_eI 23 [(0, .inr (some (nk_gB G))), (1, .inr v1), (2, .inr v2), (3, .inr v3), (4, .inl v4)] [] h (r23 h  v1 v2 v3 v4)) (h : nk_H)  (v1 : Option Nat) (v2 : Option Nat) (v3 : Option Nat) (v4 : Int32)  : nk_Sim G l RL cL_law 7 (some FieldType.boolean) 11 260 false nk_eI 356 [(0, .inr (some (nk_gB G))), (1, .inr v1), (2, .inr v2), (3, .inr v3), (4, .inl v4)] [] h (f_L_law_c356 G r23 h v1 v2 v3 v4 ) := by
  unfold f_L_law_c356
  refine nr_aload_n 1 dL_law_356 rfl ?_
  refine nr_aload_n 0 dL_law_357 rfl ?_
  refine nr_iload 4 dL_law_358 rfl ?_
  refine nr_iconst (v := 1) dL_law_360 (by decide) ?_
  refine nr_iadd dL_law_361 ?_
  refine nr_sld dL_law_362 (fun x27 => ?_)
  refine nr_aload_n 3 dL_law_363 rfl ?_
  refine nr_doI (st := []) (nk_callSW (c_L_pass (G := G) hl0 h v1 x27 v3) dL_law_364 my_L_pass st_L_pass ml_RL_151 rfl rfl (Nat.le_of_ble_eq_true rfl) (by decide) (by decide)) (fun h28 x29 => ?_)
  refine nr_istore (lv2 := [(5, .inl x29), (0, .inr (some (nk_gB G))), (1, .inr v1), (2, .inr v2), (3, .inr v3), (4, .inl v4)]) dL_law_367 (by decide) rfl ?_
  refine nr_aload_n 3 dL_law_369 rfl ?_
  refine nr_aload_n 1 dL_law_370 rfl ?_
  refine nr_iload 5 dL_law_371 rfl ?_
  refine nr_iconst (v := 1) dL_law_373 (by decide) ?_
  refine nr_iadd dL_law_374 ?_
  refine nr_sld dL_law_375 (fun x30 => ?_)
  refine nr_rcv (ks := [19]) (pre := [.inl x30]) (fun a31 hm => ?_)
  refine nr_doI (st := []) (nk_callV (q := (RX12, TX12, 45)) (ci := 12) (c_X12_pass (G := G) hl0 h28 a31 x30) dL_law_376 (List.mem_singleton.mp hm) rfl rfl my_X12_pass im_X12_pass se_RX12_X12_pass ml_RL_154 rfl rfl (Nat.le_of_ble_eq_true rfl) (by decide) (by decide)) (fun h32 x33 => ?_)
  refine nr_istore (lv2 := [(6, .inl x33), (5, .inl x29), (0, .inr (some (nk_gB G))), (1, .inr v1), (2, .inr v2), (3, .inr v3), (4, .inl v4)]) dL_law_379 (by decide) rfl ?_
  refine nr_aload_n 4 dL_law_381 rfl ?_
  refine nr_rcv (ks := [19]) (pre := []) (fun a34 hm => ?_)
  refine nr_doI (st := []) (nk_callV (q := (RX12, TX12, 45)) (ci := 12) (c_X12_thrown (G := G) hl0 h32 a34) dL_law_382 (List.mem_singleton.mp hm) rfl rfl my_X12_thrown im_X12_thrown se_RX12_X12_thrown ml_RL_144 rfl rfl (Nat.le_of_ble_eq_true rfl) (by decide) (by decide)) (fun h35 x36 => ?_)
  refine nr_iload 1 dL_law_385 rfl ?_
  refine nr_icmp_eq (tgt := 392) dL_law_387 (by decide) (fun _ => ?_) (fun _ => ?_)
  · refine nr_iload 1 dL_law_392 rfl ?_
    refine nr_if_ne (tgt := 409) dL_law_394 (by decide) (fun _ => ?_) (fun _ => ?_)
    · refine nr_aload_n 5 dL_law_397 rfl ?_
      refine nr_iconst (v := 0) dL_law_398 (by decide) ?_
      refine nr_lcI (j := 0) (tgt := 409) dL_law_399 dL_law_400 rfl dL_law_402 dL_law_403 dL_law_404 (by decide) (fun x37 => ?_) (fun x37 => ?_)
      · exact nk_locals [2, 3, 4, 5, 6] rfl (s_L_law_c409 hl0 hr23 h35 v1 v2 v3 v4)
      · refine nr_iconst (v := 0) dL_law_407 (by decide) ?_
        exact nr_zret rfl rfl dL_law_408
    · exact nk_locals [2, 3, 4, 5, 6] rfl (s_L_law_c409 hl0 hr23 h35 v1 v2 v3 v4)
  · refine nr_iconst (v := 0) dL_law_390 (by decide) ?_
    exact nr_zret rfl rfl dL_law_391
set_option maxHeartbeats 4000000 in
theorem s_L_law_c465 {G : nk_G} {l : Launch} (hl0 : l.flags = flags0) {r23 : nk_H → Option Nat → Option Nat → Option Nat → Int32 → Option (nk_H × Int32)} (hr23 : ∀ (h : nk_H)  (v1 : Option Nat) (v2 : Option Nat) (v3 : Option Nat) (v4 : Int32), nk_Sim G l RL cL_law 7 (some FieldType.boolean) 11 260 false nk_eI 23 [(0, .inr (some (nk_gB G))), (1, .inr v1), (2, .inr v2), (3, .inr v3), (4, .inl v4)] [] h (r23 h  v1 v2 v3 v4)) (h : nk_H)  (v1 : Option Nat) (v2 : Option Nat) (v3 : Option Nat) (v4 : Int32)  : nk_Sim G l RL cL_law 7 (some FieldType.boolean) 11 260 false nk_eI 465 [(0, .inr (some (nk_gB G))), (1, .inr v1), (2, .inr v2), (3, .inr v3), (4, .inl v4)] [] h (f_L_law_c465 G r23 h v1 v2 v3 v4 ) := by
  unfold f_L_law_c465
  refine nr_goto (tgt := 2879) dL_law_465 (by decide) ?_
  exact s_L_law_c2879 hl0 hr23 h v1 v2 v3 v4
set_option maxHeartbeats 4000000 in
theorem s_L_law_c412 {G : nk_G} {l : Launch} (hl0 : l.flags = flags0) {r23 : nk_H → Option Nat → Option Nat → Option Nat → Int32 → Option (nk_H × Int32)} (hr23 : ∀ (h : nk_H)  (v1 : Option Nat) (v2 : Option Nat) (v3 : Option Nat) (v4 : Int32), nk_Sim G l RL cL_law 7 (some FieldType.boolean) 11 260 false nk_eI 23 [(0, .inr (some (nk_gB G))), (1, .inr v1), (2, .inr v2), (3, .inr v3), (4, .inl v4)] [] h (r23 h  v1 v2 v3 v4)) (h : nk_H)  (v1 : Option Nat) (v2 : Option Nat) (v3 : Option Nat) (v4 : Int32)  : nk_Sim G l RL cL_law 7 (some FieldType.boolean) 11 260 false nk_eI 412 [(0, .inr (some (nk_gB G))), (1, .inr v1), (2, .inr v2), (3, .inr v3), (4, .inl v4)] [] h (f_L_law_c412 G r23 h v1 v2 v3 v4 ) := by
  unfold f_L_law_c412
  refine nr_aload_n 1 dL_law_412 rfl ?_
  refine nr_aload_n 0 dL_law_413 rfl ?_
  refine nr_iload 4 dL_law_414 rfl ?_
  refine nr_iconst (v := 1) dL_law_416 (by decide) ?_
  refine nr_iadd dL_law_417 ?_
  refine nr_sld dL_law_418 (fun x38 => ?_)
  refine nr_aload_n 3 dL_law_419 rfl ?_
  refine nr_doI (st := []) (nk_callSW (c_L_read (G := G) hl0 h v1 x38 v3) dL_law_420 my_L_read st_L_read ml_RL_155 rfl rfl (Nat.le_of_ble_eq_true rfl) (by decide) (by decide)) (fun h39 x40 => ?_)
  refine nr_istore (lv2 := [(5, .inl x40), (0, .inr (some (nk_gB G))), (1, .inr v1), (2, .inr v2), (3, .inr v3), (4, .inl v4)]) dL_law_423 (by decide) rfl ?_
  refine nr_aload_n 3 dL_law_425 rfl ?_
  refine nr_aload_n 1 dL_law_426 rfl ?_
  refine nr_iload 5 dL_law_427 rfl ?_
  refine nr_iconst (v := 1) dL_law_429 (by decide) ?_
  refine nr_iadd dL_law_430 ?_
  refine nr_sld dL_law_431 (fun x41 => ?_)
  refine nr_rcv (ks := [19]) (pre := [.inl x41]) (fun a42 hm => ?_)
  refine nr_doI (st := []) (nk_callV (q := (RX12, TX12, 45)) (ci := 12) (c_X12_read (G := G) hl0 h39 a42 x41) dL_law_432 (List.mem_singleton.mp hm) rfl rfl my_X12_read im_X12_read se_RX12_X12_read ml_RL_157 rfl rfl (Nat.le_of_ble_eq_true rfl) (by decide) (by decide)) (fun h43 x44 => ?_)
  refine nr_istore (lv2 := [(6, .inl x44), (5, .inl x40), (0, .inr (some (nk_gB G))), (1, .inr v1), (2, .inr v2), (3, .inr v3), (4, .inl v4)]) dL_law_435 (by decide) rfl ?_
  refine nr_aload_n 4 dL_law_437 rfl ?_
  refine nr_rcv (ks := [19]) (pre := []) (fun a45 hm => ?_)
  refine nr_doI (st := []) (nk_callV (q := (RX12, TX12, 45)) (ci := 12) (c_X12_thrown (G := G) hl0 h43 a45) dL_law_438 (List.mem_singleton.mp hm) rfl rfl my_X12_thrown im_X12_thrown se_RX12_X12_thrown ml_RL_144 rfl rfl (Nat.le_of_ble_eq_true rfl) (by decide) (by decide)) (fun h46 x47 => ?_)
  refine nr_iload 1 dL_law_441 rfl ?_
  refine nr_icmp_eq (tgt := 448) dL_law_443 (by decide) (fun _ => ?_) (fun _ => ?_)
  · refine nr_iload 1 dL_law_448 rfl ?_
    refine nr_if_ne (tgt := 465) dL_law_450 (by decide) (fun _ => ?_) (fun _ => ?_)
    · refine nr_aload_n 5 dL_law_453 rfl ?_
      refine nr_iconst (v := 0) dL_law_454 (by decide) ?_
      refine nr_lcI (j := 0) (tgt := 465) dL_law_455 dL_law_456 rfl dL_law_458 dL_law_459 dL_law_460 (by decide) (fun x48 => ?_) (fun x48 => ?_)
      · exact nk_locals [2, 3, 4, 5, 6] rfl (s_L_law_c465 hl0 hr23 h46 v1 v2 v3 v4)
      · refine nr_iconst (v := 0) dL_law_463 (by decide) ?_
        exact nr_zret rfl rfl dL_law_464
    · exact nk_locals [2, 3, 4, 5, 6] rfl (s_L_law_c465 hl0 hr23 h46 v1 v2 v3 v4)
  · refine nr_iconst (v := 0) dL_law_446 (by decide) ?_
    exact nr_zret rfl rfl dL_law_447
set_option maxHeartbeats 4000000 in
theorem s_L_law_c468 {G : nk_G} {l : Launch} (hl0 : l.flags = flags0) {r23 : nk_H → Option Nat → Option Nat → Option Nat → Int32 → Option (nk_H × Int32)} (hr23 : ∀ (h : nk_H)  (v1 : Option Nat) (v2 : Option Nat) (v3 : Option Nat) (v4 : Int32), nk_Sim G l RL cL_law 7 (some FieldType.boolean) 11 260 false nk_eI 23 [(0, .inr (some (nk_gB G))), (1, .inr v1), (2, .inr v2), (3, .inr v3), (4, .inl v4)] [] h (r23 h  v1 v2 v3 v4)) (h : nk_H)  (v1 : Option Nat) (v2 : Option Nat) (v3 : Option Nat) (v4 : Int32)  : nk_Sim G l RL cL_law 7 (some FieldType.boolean) 11 260 false nk_eI 468 [(0, .inr (some (nk_gB G))), (1, .inr v1), (2, .inr v2), (3, .inr v3), (4, .inl v4)] [] h (f_L_law_c468 G r23 h v1 v2 v3 v4 ) := by
  unfold f_L_law_c468
  refine nr_aload_n 1 dL_law_468 rfl ?_
  refine nr_aload_n 0 dL_law_469 rfl ?_
  refine nr_iload 4 dL_law_470 rfl ?_
  refine nr_iconst (v := 1) dL_law_472 (by decide) ?_
  refine nr_iadd dL_law_473 ?_
  refine nr_sld dL_law_474 (fun x49 => ?_)
  refine nr_aload_n 0 dL_law_475 rfl ?_
  refine nr_iload 4 dL_law_476 rfl ?_
  refine nr_iconst (v := 2) dL_law_478 (by decide) ?_
  refine nr_iadd dL_law_479 ?_
  refine nr_sld dL_law_480 (fun x50 => ?_)
  refine nr_aload_n 0 dL_law_481 rfl ?_
  refine nr_iload 4 dL_law_482 rfl ?_
  refine nr_iconst (v := 3) dL_law_484 (by decide) ?_
  refine nr_iadd dL_law_485 ?_
  refine nr_sld dL_law_486 (fun x51 => ?_)
  refine nr_aload_n 0 dL_law_487 rfl ?_
  refine nr_iload 4 dL_law_488 rfl ?_
  refine nr_iconst (v := 4) dL_law_490 (by decide) ?_
  refine nr_iadd dL_law_491 ?_
  refine nr_sld dL_law_492 (fun x52 => ?_)
  refine nr_aload_n 0 dL_law_493 rfl ?_
  refine nr_iload 4 dL_law_494 rfl ?_
  refine nr_iconst (v := 5) dL_law_496 (by decide) ?_
  refine nr_iadd dL_law_497 ?_
  refine nr_sld dL_law_498 (fun x53 => ?_)
  refine nr_doI (st := []) (nk_callSW (c_L_draft (G := G) hl0 h v1 x49 x50 x51 x52 x53) dL_law_499 my_L_draft st_L_draft ml_RL_158 rfl rfl (Nat.le_of_ble_eq_true rfl) (by decide) (by decide)) (fun h54 x55 => ?_)
  refine nr_istore (lv2 := [(5, .inl x55), (0, .inr (some (nk_gB G))), (1, .inr v1), (2, .inr v2), (3, .inr v3), (4, .inl v4)]) dL_law_502 (by decide) rfl ?_
  refine nr_aload_n 3 dL_law_504 rfl ?_
  refine nr_aload_n 1 dL_law_505 rfl ?_
  refine nr_iload 5 dL_law_506 rfl ?_
  refine nr_iconst (v := 1) dL_law_508 (by decide) ?_
  refine nr_iadd dL_law_509 ?_
  refine nr_sld dL_law_510 (fun x56 => ?_)
  refine nr_aload_n 1 dL_law_511 rfl ?_
  refine nr_iload 5 dL_law_512 rfl ?_
  refine nr_iconst (v := 2) dL_law_514 (by decide) ?_
  refine nr_iadd dL_law_515 ?_
  refine nr_sld dL_law_516 (fun x57 => ?_)
  refine nr_aload_n 1 dL_law_517 rfl ?_
  refine nr_iload 5 dL_law_518 rfl ?_
  refine nr_iconst (v := 3) dL_law_520 (by decide) ?_
  refine nr_iadd dL_law_521 ?_
  refine nr_sld dL_law_522 (fun x58 => ?_)
  refine nr_aload_n 1 dL_law_523 rfl ?_
  refine nr_iload 5 dL_law_524 rfl ?_
  refine nr_iconst (v := 4) dL_law_526 (by decide) ?_
  refine nr_iadd dL_law_527 ?_
  refine nr_sld dL_law_528 (fun x59 => ?_)
  refine nr_aload_n 1 dL_law_529 rfl ?_
  refine nr_iload 5 dL_law_530 rfl ?_
  refine nr_iconst (v := 5) dL_law_532 (by decide) ?_
  refine nr_iadd dL_law_533 ?_
  refine nr_sld dL_law_534 (fun x60 => ?_)
  refine nr_rcv (ks := [19]) (pre := [.inl x60, .inl x59, .inl x58, .inl x57, .inl x56]) (fun a61 hm => ?_)
  refine nr_doV (st := []) (nk_callV (q := (RX12, TX12, 45)) (ci := 12) (c_X12_draft (G := G) hl0 h54 a61 x56 x57 x58 x59 x60) dL_law_535 (List.mem_singleton.mp hm) rfl rfl my_X12_draft im_X12_draft se_RX12_X12_draft ml_RL_161 rfl rfl (Nat.le_of_ble_eq_true rfl) (by decide) (by decide)) (fun h62 x63 => ?_)
  refine nr_aload_n 3 dL_law_538 rfl ?_
  refine nr_rcv (ks := [19]) (pre := []) (fun a64 hm => ?_)
  refine nr_doI (st := []) (nk_callV (q := (RX12, TX12, 45)) (ci := 12) (c_X12_thrown (G := G) hl0 h62 a64) dL_law_539 (List.mem_singleton.mp hm) rfl rfl my_X12_thrown im_X12_thrown se_RX12_X12_thrown ml_RL_144 rfl rfl (Nat.le_of_ble_eq_true rfl) (by decide) (by decide)) (fun h65 x66 => ?_)
  refine nr_iload 0 dL_law_542 rfl ?_
  refine nr_icmp_eq (tgt := 549) dL_law_544 (by decide) (fun _ => ?_) (fun _ => ?_)
  · refine nr_goto (tgt := 2879) dL_law_549 (by decide) ?_
    exact nk_locals [1, 2, 3, 4, 5] rfl (s_L_law_c2879 hl0 hr23 h65 v1 v2 v3 v4)
  · refine nr_iconst (v := 0) dL_law_547 (by decide) ?_
    exact nr_zret rfl rfl dL_law_548
set_option maxHeartbeats 4000000 in
theorem s_L_law_c629 {G : nk_G} {l : Launch} (hl0 : l.flags = flags0) {r23 : nk_H → Option Nat → Option Nat → Option Nat → Int32 → Option (nk_H × Int32)} (hr23 : ∀ (h : nk_H)  (v1 : Option Nat) (v2 : Option Nat) (v3 : Option Nat) (v4 : Int32), nk_Sim G l RL cL_law 7 (some FieldType.boolean) 11 260 false nk_eI 23 [(0, .inr (some (nk_gB G))), (1, .inr v1), (2, .inr v2), (3, .inr v3), (4, .inl v4)] [] h (r23 h  v1 v2 v3 v4)) (h : nk_H)  (v1 : Option Nat) (v2 : Option Nat) (v3 : Option Nat) (v4 : Int32)  : nk_Sim G l RL cL_law 7 (some FieldType.boolean) 11 260 false nk_eI 629 [(0, .inr (some (nk_gB G))), (1, .inr v1), (2, .inr v2), (3, .inr v3), (4, .inl v4)] [] h (f_L_law_c629 G r23 h v1 v2 v3 v4 ) := by
  unfold f_L_law_c629
  refine nr_goto (tgt := 2879) dL_law_629 (by decide) ?_
  exact s_L_law_c2879 hl0 hr23 h v1 v2 v3 v4
set_option maxHeartbeats 4000000 in
theorem s_L_law_c552 {G : nk_G} {l : Launch} (hl0 : l.flags = flags0) {r23 : nk_H → Option Nat → Option Nat → Option Nat → Int32 → Option (nk_H × Int32)} (hr23 : ∀ (h : nk_H)  (v1 : Option Nat) (v2 : Option Nat) (v3 : Option Nat) (v4 : Int32), nk_Sim G l RL cL_law 7 (some FieldType.boolean) 11 260 false nk_eI 23 [(0, .inr (some (nk_gB G))), (1, .inr v1), (2, .inr v2), (3, .inr v3), (4, .inl v4)] [] h (r23 h  v1 v2 v3 v4)) (h : nk_H)  (v1 : Option Nat) (v2 : Option Nat) (v3 : Option Nat) (v4 : Int32)  : nk_Sim G l RL cL_law 7 (some FieldType.boolean) 11 260 false nk_eI 552 [(0, .inr (some (nk_gB G))), (1, .inr v1), (2, .inr v2), (3, .inr v3), (4, .inl v4)] [] h (f_L_law_c552 G r23 h v1 v2 v3 v4 ) := by
  unfold f_L_law_c552
  refine nr_aload_n 1 dL_law_552 rfl ?_
  refine nr_aload_n 0 dL_law_553 rfl ?_
  refine nr_iload 4 dL_law_554 rfl ?_
  refine nr_iconst (v := 1) dL_law_556 (by decide) ?_
  refine nr_iadd dL_law_557 ?_
  refine nr_sld dL_law_558 (fun x67 => ?_)
  refine nr_aload_n 0 dL_law_559 rfl ?_
  refine nr_iload 4 dL_law_560 rfl ?_
  refine nr_iconst (v := 2) dL_law_562 (by decide) ?_
  refine nr_iadd dL_law_563 ?_
  refine nr_sld dL_law_564 (fun x68 => ?_)
  refine nr_aload_n 0 dL_law_565 rfl ?_
  refine nr_iload 4 dL_law_566 rfl ?_
  refine nr_iconst (v := 3) dL_law_568 (by decide) ?_
  refine nr_iadd dL_law_569 ?_
  refine nr_sld dL_law_570 (fun x69 => ?_)
  refine nr_aload_n 3 dL_law_571 rfl ?_
  refine nr_doI (st := []) (nk_callSW (c_L_grant (G := G) hl0 h v1 x67 x68 x69 v3) dL_law_572 my_L_grant st_L_grant ml_RL_162 rfl rfl (Nat.le_of_ble_eq_true rfl) (by decide) (by decide)) (fun h70 x71 => ?_)
  refine nr_istore (lv2 := [(5, .inl x71), (0, .inr (some (nk_gB G))), (1, .inr v1), (2, .inr v2), (3, .inr v3), (4, .inl v4)]) dL_law_575 (by decide) rfl ?_
  refine nr_aload_n 3 dL_law_577 rfl ?_
  refine nr_aload_n 1 dL_law_578 rfl ?_
  refine nr_iload 5 dL_law_579 rfl ?_
  refine nr_iconst (v := 1) dL_law_581 (by decide) ?_
  refine nr_iadd dL_law_582 ?_
  refine nr_sld dL_law_583 (fun x72 => ?_)
  refine nr_aload_n 1 dL_law_584 rfl ?_
  refine nr_iload 5 dL_law_585 rfl ?_
  refine nr_iconst (v := 2) dL_law_587 (by decide) ?_
  refine nr_iadd dL_law_588 ?_
  refine nr_sld dL_law_589 (fun x73 => ?_)
  refine nr_aload_n 1 dL_law_590 rfl ?_
  refine nr_iload 5 dL_law_591 rfl ?_
  refine nr_iconst (v := 3) dL_law_593 (by decide) ?_
  refine nr_iadd dL_law_594 ?_
  refine nr_sld dL_law_595 (fun x74 => ?_)
  refine nr_rcv (ks := [19]) (pre := [.inl x74, .inl x73, .inl x72]) (fun a75 hm => ?_)
  refine nr_doI (st := []) (nk_callV (q := (RX12, TX12, 45)) (ci := 12) (c_X12_grant (G := G) hl0 h70 a75 x72 x73 x74) dL_law_596 (List.mem_singleton.mp hm) rfl rfl my_X12_grant im_X12_grant se_RX12_X12_grant ml_RL_165 rfl rfl (Nat.le_of_ble_eq_true rfl) (by decide) (by decide)) (fun h76 x77 => ?_)
  refine nr_istore (lv2 := [(6, .inl x77), (5, .inl x71), (0, .inr (some (nk_gB G))), (1, .inr v1), (2, .inr v2), (3, .inr v3), (4, .inl v4)]) dL_law_599 (by decide) rfl ?_
  refine nr_aload_n 4 dL_law_601 rfl ?_
  refine nr_rcv (ks := [19]) (pre := []) (fun a78 hm => ?_)
  refine nr_doI (st := []) (nk_callV (q := (RX12, TX12, 45)) (ci := 12) (c_X12_thrown (G := G) hl0 h76 a78) dL_law_602 (List.mem_singleton.mp hm) rfl rfl my_X12_thrown im_X12_thrown se_RX12_X12_thrown ml_RL_144 rfl rfl (Nat.le_of_ble_eq_true rfl) (by decide) (by decide)) (fun h79 x80 => ?_)
  refine nr_iload 1 dL_law_605 rfl ?_
  refine nr_icmp_eq (tgt := 612) dL_law_607 (by decide) (fun _ => ?_) (fun _ => ?_)
  · refine nr_iload 1 dL_law_612 rfl ?_
    refine nr_if_ne (tgt := 629) dL_law_614 (by decide) (fun _ => ?_) (fun _ => ?_)
    · refine nr_aload_n 5 dL_law_617 rfl ?_
      refine nr_iconst (v := 0) dL_law_618 (by decide) ?_
      refine nr_lcI (j := 0) (tgt := 629) dL_law_619 dL_law_620 rfl dL_law_622 dL_law_623 dL_law_624 (by decide) (fun x81 => ?_) (fun x81 => ?_)
      · exact nk_locals [2, 3, 4, 5, 6] rfl (s_L_law_c629 hl0 hr23 h79 v1 v2 v3 v4)
      · refine nr_iconst (v := 0) dL_law_627 (by decide) ?_
        exact nr_zret rfl rfl dL_law_628
    · exact nk_locals [2, 3, 4, 5, 6] rfl (s_L_law_c629 hl0 hr23 h79 v1 v2 v3 v4)
  · refine nr_iconst (v := 0) dL_law_610 (by decide) ?_
    exact nr_zret rfl rfl dL_law_611
set_option maxHeartbeats 4000000 in
theorem s_L_law_c709 {G : nk_G} {l : Launch} (hl0 : l.flags = flags0) {r23 : nk_H → Option Nat → Option Nat → Option Nat → Int32 → Option (nk_H × Int32)} (hr23 : ∀ (h : nk_H)  (v1 : Option Nat) (v2 : Option Nat) (v3 : Option Nat) (v4 : Int32), nk_Sim G l RL cL_law 7 (some FieldType.boolean) 11 260 false nk_eI 23 [(0, .inr (some (nk_gB G))), (1, .inr v1), (2, .inr v2), (3, .inr v3), (4, .inl v4)] [] h (r23 h  v1 v2 v3 v4)) (h : nk_H)  (v1 : Option Nat) (v2 : Option Nat) (v3 : Option Nat) (v4 : Int32)  : nk_Sim G l RL cL_law 7 (some FieldType.boolean) 11 260 false nk_eI 709 [(0, .inr (some (nk_gB G))), (1, .inr v1), (2, .inr v2), (3, .inr v3), (4, .inl v4)] [] h (f_L_law_c709 G r23 h v1 v2 v3 v4 ) := by
  unfold f_L_law_c709
  refine nr_goto (tgt := 2879) dL_law_709 (by decide) ?_
  exact s_L_law_c2879 hl0 hr23 h v1 v2 v3 v4
set_option maxHeartbeats 4000000 in
theorem s_L_law_c632 {G : nk_G} {l : Launch} (hl0 : l.flags = flags0) {r23 : nk_H → Option Nat → Option Nat → Option Nat → Int32 → Option (nk_H × Int32)} (hr23 : ∀ (h : nk_H)  (v1 : Option Nat) (v2 : Option Nat) (v3 : Option Nat) (v4 : Int32), nk_Sim G l RL cL_law 7 (some FieldType.boolean) 11 260 false nk_eI 23 [(0, .inr (some (nk_gB G))), (1, .inr v1), (2, .inr v2), (3, .inr v3), (4, .inl v4)] [] h (r23 h  v1 v2 v3 v4)) (h : nk_H)  (v1 : Option Nat) (v2 : Option Nat) (v3 : Option Nat) (v4 : Int32)  : nk_Sim G l RL cL_law 7 (some FieldType.boolean) 11 260 false nk_eI 632 [(0, .inr (some (nk_gB G))), (1, .inr v1), (2, .inr v2), (3, .inr v3), (4, .inl v4)] [] h (f_L_law_c632 G r23 h v1 v2 v3 v4 ) := by
  unfold f_L_law_c632
  refine nr_aload_n 1 dL_law_632 rfl ?_
  refine nr_aload_n 0 dL_law_633 rfl ?_
  refine nr_iload 4 dL_law_634 rfl ?_
  refine nr_iconst (v := 1) dL_law_636 (by decide) ?_
  refine nr_iadd dL_law_637 ?_
  refine nr_sld dL_law_638 (fun x82 => ?_)
  refine nr_aload_n 0 dL_law_639 rfl ?_
  refine nr_iload 4 dL_law_640 rfl ?_
  refine nr_iconst (v := 2) dL_law_642 (by decide) ?_
  refine nr_iadd dL_law_643 ?_
  refine nr_sld dL_law_644 (fun x83 => ?_)
  refine nr_aload_n 0 dL_law_645 rfl ?_
  refine nr_iload 4 dL_law_646 rfl ?_
  refine nr_iconst (v := 3) dL_law_648 (by decide) ?_
  refine nr_iadd dL_law_649 ?_
  refine nr_sld dL_law_650 (fun x84 => ?_)
  refine nr_aload_n 3 dL_law_651 rfl ?_
  refine nr_doI (st := []) (nk_callSW (c_L_passOn (G := G) hl0 h v1 x82 x83 x84 v3) dL_law_652 my_L_passOn st_L_passOn ml_RL_166 rfl rfl (Nat.le_of_ble_eq_true rfl) (by decide) (by decide)) (fun h85 x86 => ?_)
  refine nr_istore (lv2 := [(5, .inl x86), (0, .inr (some (nk_gB G))), (1, .inr v1), (2, .inr v2), (3, .inr v3), (4, .inl v4)]) dL_law_655 (by decide) rfl ?_
  refine nr_aload_n 3 dL_law_657 rfl ?_
  refine nr_aload_n 1 dL_law_658 rfl ?_
  refine nr_iload 5 dL_law_659 rfl ?_
  refine nr_iconst (v := 1) dL_law_661 (by decide) ?_
  refine nr_iadd dL_law_662 ?_
  refine nr_sld dL_law_663 (fun x87 => ?_)
  refine nr_aload_n 1 dL_law_664 rfl ?_
  refine nr_iload 5 dL_law_665 rfl ?_
  refine nr_iconst (v := 2) dL_law_667 (by decide) ?_
  refine nr_iadd dL_law_668 ?_
  refine nr_sld dL_law_669 (fun x88 => ?_)
  refine nr_aload_n 1 dL_law_670 rfl ?_
  refine nr_iload 5 dL_law_671 rfl ?_
  refine nr_iconst (v := 3) dL_law_673 (by decide) ?_
  refine nr_iadd dL_law_674 ?_
  refine nr_sld dL_law_675 (fun x89 => ?_)
  refine nr_rcv (ks := [19]) (pre := [.inl x89, .inl x88, .inl x87]) (fun a90 hm => ?_)
  refine nr_doI (st := []) (nk_callV (q := (RX12, TX12, 45)) (ci := 12) (c_X12_passOn (G := G) hl0 h85 a90 x87 x88 x89) dL_law_676 (List.mem_singleton.mp hm) rfl rfl my_X12_passOn im_X12_passOn se_RX12_X12_passOn ml_RL_168 rfl rfl (Nat.le_of_ble_eq_true rfl) (by decide) (by decide)) (fun h91 x92 => ?_)
  refine nr_istore (lv2 := [(6, .inl x92), (5, .inl x86), (0, .inr (some (nk_gB G))), (1, .inr v1), (2, .inr v2), (3, .inr v3), (4, .inl v4)]) dL_law_679 (by decide) rfl ?_
  refine nr_aload_n 4 dL_law_681 rfl ?_
  refine nr_rcv (ks := [19]) (pre := []) (fun a93 hm => ?_)
  refine nr_doI (st := []) (nk_callV (q := (RX12, TX12, 45)) (ci := 12) (c_X12_thrown (G := G) hl0 h91 a93) dL_law_682 (List.mem_singleton.mp hm) rfl rfl my_X12_thrown im_X12_thrown se_RX12_X12_thrown ml_RL_144 rfl rfl (Nat.le_of_ble_eq_true rfl) (by decide) (by decide)) (fun h94 x95 => ?_)
  refine nr_iload 1 dL_law_685 rfl ?_
  refine nr_icmp_eq (tgt := 692) dL_law_687 (by decide) (fun _ => ?_) (fun _ => ?_)
  · refine nr_iload 1 dL_law_692 rfl ?_
    refine nr_if_ne (tgt := 709) dL_law_694 (by decide) (fun _ => ?_) (fun _ => ?_)
    · refine nr_aload_n 5 dL_law_697 rfl ?_
      refine nr_iconst (v := 0) dL_law_698 (by decide) ?_
      refine nr_lcI (j := 0) (tgt := 709) dL_law_699 dL_law_700 rfl dL_law_702 dL_law_703 dL_law_704 (by decide) (fun x96 => ?_) (fun x96 => ?_)
      · exact nk_locals [2, 3, 4, 5, 6] rfl (s_L_law_c709 hl0 hr23 h94 v1 v2 v3 v4)
      · refine nr_iconst (v := 0) dL_law_707 (by decide) ?_
        exact nr_zret rfl rfl dL_law_708
    · exact nk_locals [2, 3, 4, 5, 6] rfl (s_L_law_c709 hl0 hr23 h94 v1 v2 v3 v4)
  · refine nr_iconst (v := 0) dL_law_690 (by decide) ?_
    exact nr_zret rfl rfl dL_law_691
set_option maxHeartbeats 4000000 in
theorem s_L_law_c789 {G : nk_G} {l : Launch} (hl0 : l.flags = flags0) {r23 : nk_H → Option Nat → Option Nat → Option Nat → Int32 → Option (nk_H × Int32)} (hr23 : ∀ (h : nk_H)  (v1 : Option Nat) (v2 : Option Nat) (v3 : Option Nat) (v4 : Int32), nk_Sim G l RL cL_law 7 (some FieldType.boolean) 11 260 false nk_eI 23 [(0, .inr (some (nk_gB G))), (1, .inr v1), (2, .inr v2), (3, .inr v3), (4, .inl v4)] [] h (r23 h  v1 v2 v3 v4)) (h : nk_H)  (v1 : Option Nat) (v2 : Option Nat) (v3 : Option Nat) (v4 : Int32)  : nk_Sim G l RL cL_law 7 (some FieldType.boolean) 11 260 false nk_eI 789 [(0, .inr (some (nk_gB G))), (1, .inr v1), (2, .inr v2), (3, .inr v3), (4, .inl v4)] [] h (f_L_law_c789 G r23 h v1 v2 v3 v4 ) := by
  unfold f_L_law_c789
  refine nr_goto (tgt := 2879) dL_law_789 (by decide) ?_
  exact s_L_law_c2879 hl0 hr23 h v1 v2 v3 v4
set_option maxHeartbeats 4000000 in
theorem s_L_law_c712 {G : nk_G} {l : Launch} (hl0 : l.flags = flags0) {r23 : nk_H → Option Nat → Option Nat → Option Nat → Int32 → Option (nk_H × Int32)} (hr23 : ∀ (h : nk_H)  (v1 : Option Nat) (v2 : Option Nat) (v3 : Option Nat) (v4 : Int32), nk_Sim G l RL cL_law 7 (some FieldType.boolean) 11 260 false nk_eI 23 [(0, .inr (some (nk_gB G))), (1, .inr v1), (2, .inr v2), (3, .inr v3), (4, .inl v4)] [] h (r23 h  v1 v2 v3 v4)) (h : nk_H)  (v1 : Option Nat) (v2 : Option Nat) (v3 : Option Nat) (v4 : Int32)  : nk_Sim G l RL cL_law 7 (some FieldType.boolean) 11 260 false nk_eI 712 [(0, .inr (some (nk_gB G))), (1, .inr v1), (2, .inr v2), (3, .inr v3), (4, .inl v4)] [] h (f_L_law_c712 G r23 h v1 v2 v3 v4 ) := by
  unfold f_L_law_c712
  refine nr_aload_n 1 dL_law_712 rfl ?_
  refine nr_aload_n 0 dL_law_713 rfl ?_
  refine nr_iload 4 dL_law_714 rfl ?_
  refine nr_iconst (v := 1) dL_law_716 (by decide) ?_
  refine nr_iadd dL_law_717 ?_
  refine nr_sld dL_law_718 (fun x97 => ?_)
  refine nr_aload_n 0 dL_law_719 rfl ?_
  refine nr_iload 4 dL_law_720 rfl ?_
  refine nr_iconst (v := 2) dL_law_722 (by decide) ?_
  refine nr_iadd dL_law_723 ?_
  refine nr_sld dL_law_724 (fun x98 => ?_)
  refine nr_aload_n 0 dL_law_725 rfl ?_
  refine nr_iload 4 dL_law_726 rfl ?_
  refine nr_iconst (v := 3) dL_law_728 (by decide) ?_
  refine nr_iadd dL_law_729 ?_
  refine nr_sld dL_law_730 (fun x99 => ?_)
  refine nr_aload_n 3 dL_law_731 rfl ?_
  refine nr_doI (st := []) (nk_callSW (c_L_revoke (G := G) hl0 h v1 x97 x98 x99 v3) dL_law_732 my_L_revoke st_L_revoke ml_RL_169 rfl rfl (Nat.le_of_ble_eq_true rfl) (by decide) (by decide)) (fun h100 x101 => ?_)
  refine nr_istore (lv2 := [(5, .inl x101), (0, .inr (some (nk_gB G))), (1, .inr v1), (2, .inr v2), (3, .inr v3), (4, .inl v4)]) dL_law_735 (by decide) rfl ?_
  refine nr_aload_n 3 dL_law_737 rfl ?_
  refine nr_aload_n 1 dL_law_738 rfl ?_
  refine nr_iload 5 dL_law_739 rfl ?_
  refine nr_iconst (v := 1) dL_law_741 (by decide) ?_
  refine nr_iadd dL_law_742 ?_
  refine nr_sld dL_law_743 (fun x102 => ?_)
  refine nr_aload_n 1 dL_law_744 rfl ?_
  refine nr_iload 5 dL_law_745 rfl ?_
  refine nr_iconst (v := 2) dL_law_747 (by decide) ?_
  refine nr_iadd dL_law_748 ?_
  refine nr_sld dL_law_749 (fun x103 => ?_)
  refine nr_aload_n 1 dL_law_750 rfl ?_
  refine nr_iload 5 dL_law_751 rfl ?_
  refine nr_iconst (v := 3) dL_law_753 (by decide) ?_
  refine nr_iadd dL_law_754 ?_
  refine nr_sld dL_law_755 (fun x104 => ?_)
  refine nr_rcv (ks := [19]) (pre := [.inl x104, .inl x103, .inl x102]) (fun a105 hm => ?_)
  refine nr_doI (st := []) (nk_callV (q := (RX12, TX12, 45)) (ci := 12) (c_X12_revoke (G := G) hl0 h100 a105 x102 x103 x104) dL_law_756 (List.mem_singleton.mp hm) rfl rfl my_X12_revoke im_X12_revoke se_RX12_X12_revoke ml_RL_171 rfl rfl (Nat.le_of_ble_eq_true rfl) (by decide) (by decide)) (fun h106 x107 => ?_)
  refine nr_istore (lv2 := [(6, .inl x107), (5, .inl x101), (0, .inr (some (nk_gB G))), (1, .inr v1), (2, .inr v2), (3, .inr v3), (4, .inl v4)]) dL_law_759 (by decide) rfl ?_
  refine nr_aload_n 4 dL_law_761 rfl ?_
  refine nr_rcv (ks := [19]) (pre := []) (fun a108 hm => ?_)
  refine nr_doI (st := []) (nk_callV (q := (RX12, TX12, 45)) (ci := 12) (c_X12_thrown (G := G) hl0 h106 a108) dL_law_762 (List.mem_singleton.mp hm) rfl rfl my_X12_thrown im_X12_thrown se_RX12_X12_thrown ml_RL_144 rfl rfl (Nat.le_of_ble_eq_true rfl) (by decide) (by decide)) (fun h109 x110 => ?_)
  refine nr_iload 1 dL_law_765 rfl ?_
  refine nr_icmp_eq (tgt := 772) dL_law_767 (by decide) (fun _ => ?_) (fun _ => ?_)
  · refine nr_iload 1 dL_law_772 rfl ?_
    refine nr_if_ne (tgt := 789) dL_law_774 (by decide) (fun _ => ?_) (fun _ => ?_)
    · refine nr_aload_n 5 dL_law_777 rfl ?_
      refine nr_iconst (v := 0) dL_law_778 (by decide) ?_
      refine nr_lcI (j := 0) (tgt := 789) dL_law_779 dL_law_780 rfl dL_law_782 dL_law_783 dL_law_784 (by decide) (fun x111 => ?_) (fun x111 => ?_)
      · exact nk_locals [2, 3, 4, 5, 6] rfl (s_L_law_c789 hl0 hr23 h109 v1 v2 v3 v4)
      · refine nr_iconst (v := 0) dL_law_787 (by decide) ?_
        exact nr_zret rfl rfl dL_law_788
    · exact nk_locals [2, 3, 4, 5, 6] rfl (s_L_law_c789 hl0 hr23 h109 v1 v2 v3 v4)
  · refine nr_iconst (v := 0) dL_law_770 (by decide) ?_
    exact nr_zret rfl rfl dL_law_771
set_option maxHeartbeats 4000000 in
theorem s_L_law_c869 {G : nk_G} {l : Launch} (hl0 : l.flags = flags0) {r23 : nk_H → Option Nat → Option Nat → Option Nat → Int32 → Option (nk_H × Int32)} (hr23 : ∀ (h : nk_H)  (v1 : Option Nat) (v2 : Option Nat) (v3 : Option Nat) (v4 : Int32), nk_Sim G l RL cL_law 7 (some FieldType.boolean) 11 260 false nk_eI 23 [(0, .inr (some (nk_gB G))), (1, .inr v1), (2, .inr v2), (3, .inr v3), (4, .inl v4)] [] h (r23 h  v1 v2 v3 v4)) (h : nk_H)  (v1 : Option Nat) (v2 : Option Nat) (v3 : Option Nat) (v4 : Int32)  : nk_Sim G l RL cL_law 7 (some FieldType.boolean) 11 260 false nk_eI 869 [(0, .inr (some (nk_gB G))), (1, .inr v1), (2, .inr v2), (3, .inr v3), (4, .inl v4)] [] h (f_L_law_c869 G r23 h v1 v2 v3 v4 ) := by
  unfold f_L_law_c869
  refine nr_goto (tgt := 2879) dL_law_869 (by decide) ?_
  exact s_L_law_c2879 hl0 hr23 h v1 v2 v3 v4
set_option maxHeartbeats 4000000 in
theorem s_L_law_c792 {G : nk_G} {l : Launch} (hl0 : l.flags = flags0) {r23 : nk_H → Option Nat → Option Nat → Option Nat → Int32 → Option (nk_H × Int32)} (hr23 : ∀ (h : nk_H)  (v1 : Option Nat) (v2 : Option Nat) (v3 : Option Nat) (v4 : Int32), nk_Sim G l RL cL_law 7 (some FieldType.boolean) 11 260 false nk_eI 23 [(0, .inr (some (nk_gB G))), (1, .inr v1), (2, .inr v2), (3, .inr v3), (4, .inl v4)] [] h (r23 h  v1 v2 v3 v4)) (h : nk_H)  (v1 : Option Nat) (v2 : Option Nat) (v3 : Option Nat) (v4 : Int32)  : nk_Sim G l RL cL_law 7 (some FieldType.boolean) 11 260 false nk_eI 792 [(0, .inr (some (nk_gB G))), (1, .inr v1), (2, .inr v2), (3, .inr v3), (4, .inl v4)] [] h (f_L_law_c792 G r23 h v1 v2 v3 v4 ) := by
  unfold f_L_law_c792
  refine nr_aload_n 1 dL_law_792 rfl ?_
  refine nr_aload_n 0 dL_law_793 rfl ?_
  refine nr_iload 4 dL_law_794 rfl ?_
  refine nr_iconst (v := 1) dL_law_796 (by decide) ?_
  refine nr_iadd dL_law_797 ?_
  refine nr_sld dL_law_798 (fun x112 => ?_)
  refine nr_aload_n 0 dL_law_799 rfl ?_
  refine nr_iload 4 dL_law_800 rfl ?_
  refine nr_iconst (v := 2) dL_law_802 (by decide) ?_
  refine nr_iadd dL_law_803 ?_
  refine nr_sld dL_law_804 (fun x113 => ?_)
  refine nr_aload_n 0 dL_law_805 rfl ?_
  refine nr_iload 4 dL_law_806 rfl ?_
  refine nr_iconst (v := 3) dL_law_808 (by decide) ?_
  refine nr_iadd dL_law_809 ?_
  refine nr_sld dL_law_810 (fun x114 => ?_)
  refine nr_aload_n 3 dL_law_811 rfl ?_
  refine nr_doI (st := []) (nk_callSW (c_L_depute (G := G) hl0 h v1 x112 x113 x114 v3) dL_law_812 my_L_depute st_L_depute ml_RL_172 rfl rfl (Nat.le_of_ble_eq_true rfl) (by decide) (by decide)) (fun h115 x116 => ?_)
  refine nr_istore (lv2 := [(5, .inl x116), (0, .inr (some (nk_gB G))), (1, .inr v1), (2, .inr v2), (3, .inr v3), (4, .inl v4)]) dL_law_815 (by decide) rfl ?_
  refine nr_aload_n 3 dL_law_817 rfl ?_
  refine nr_aload_n 1 dL_law_818 rfl ?_
  refine nr_iload 5 dL_law_819 rfl ?_
  refine nr_iconst (v := 1) dL_law_821 (by decide) ?_
  refine nr_iadd dL_law_822 ?_
  refine nr_sld dL_law_823 (fun x117 => ?_)
  refine nr_aload_n 1 dL_law_824 rfl ?_
  refine nr_iload 5 dL_law_825 rfl ?_
  refine nr_iconst (v := 2) dL_law_827 (by decide) ?_
  refine nr_iadd dL_law_828 ?_
  refine nr_sld dL_law_829 (fun x118 => ?_)
  refine nr_aload_n 1 dL_law_830 rfl ?_
  refine nr_iload 5 dL_law_831 rfl ?_
  refine nr_iconst (v := 3) dL_law_833 (by decide) ?_
  refine nr_iadd dL_law_834 ?_
  refine nr_sld dL_law_835 (fun x119 => ?_)
  refine nr_rcv (ks := [19]) (pre := [.inl x119, .inl x118, .inl x117]) (fun a120 hm => ?_)
  refine nr_doI (st := []) (nk_callV (q := (RX12, TX12, 45)) (ci := 12) (c_X12_depute (G := G) hl0 h115 a120 x117 x118 x119) dL_law_836 (List.mem_singleton.mp hm) rfl rfl my_X12_depute im_X12_depute se_RX12_X12_depute ml_RL_174 rfl rfl (Nat.le_of_ble_eq_true rfl) (by decide) (by decide)) (fun h121 x122 => ?_)
  refine nr_istore (lv2 := [(6, .inl x122), (5, .inl x116), (0, .inr (some (nk_gB G))), (1, .inr v1), (2, .inr v2), (3, .inr v3), (4, .inl v4)]) dL_law_839 (by decide) rfl ?_
  refine nr_aload_n 4 dL_law_841 rfl ?_
  refine nr_rcv (ks := [19]) (pre := []) (fun a123 hm => ?_)
  refine nr_doI (st := []) (nk_callV (q := (RX12, TX12, 45)) (ci := 12) (c_X12_thrown (G := G) hl0 h121 a123) dL_law_842 (List.mem_singleton.mp hm) rfl rfl my_X12_thrown im_X12_thrown se_RX12_X12_thrown ml_RL_144 rfl rfl (Nat.le_of_ble_eq_true rfl) (by decide) (by decide)) (fun h124 x125 => ?_)
  refine nr_iload 1 dL_law_845 rfl ?_
  refine nr_icmp_eq (tgt := 852) dL_law_847 (by decide) (fun _ => ?_) (fun _ => ?_)
  · refine nr_iload 1 dL_law_852 rfl ?_
    refine nr_if_ne (tgt := 869) dL_law_854 (by decide) (fun _ => ?_) (fun _ => ?_)
    · refine nr_aload_n 5 dL_law_857 rfl ?_
      refine nr_iconst (v := 0) dL_law_858 (by decide) ?_
      refine nr_lcI (j := 0) (tgt := 869) dL_law_859 dL_law_860 rfl dL_law_862 dL_law_863 dL_law_864 (by decide) (fun x126 => ?_) (fun x126 => ?_)
      · exact nk_locals [2, 3, 4, 5, 6] rfl (s_L_law_c869 hl0 hr23 h124 v1 v2 v3 v4)
      · refine nr_iconst (v := 0) dL_law_867 (by decide) ?_
        exact nr_zret rfl rfl dL_law_868
    · exact nk_locals [2, 3, 4, 5, 6] rfl (s_L_law_c869 hl0 hr23 h124 v1 v2 v3 v4)
  · refine nr_iconst (v := 0) dL_law_850 (by decide) ?_
    exact nr_zret rfl rfl dL_law_851
set_option maxHeartbeats 4000000 in
theorem s_L_law_c872 {G : nk_G} {l : Launch} (hl0 : l.flags = flags0) {r23 : nk_H → Option Nat → Option Nat → Option Nat → Int32 → Option (nk_H × Int32)} (hr23 : ∀ (h : nk_H)  (v1 : Option Nat) (v2 : Option Nat) (v3 : Option Nat) (v4 : Int32), nk_Sim G l RL cL_law 7 (some FieldType.boolean) 11 260 false nk_eI 23 [(0, .inr (some (nk_gB G))), (1, .inr v1), (2, .inr v2), (3, .inr v3), (4, .inl v4)] [] h (r23 h  v1 v2 v3 v4)) (h : nk_H)  (v1 : Option Nat) (v2 : Option Nat) (v3 : Option Nat) (v4 : Int32)  : nk_Sim G l RL cL_law 7 (some FieldType.boolean) 11 260 false nk_eI 872 [(0, .inr (some (nk_gB G))), (1, .inr v1), (2, .inr v2), (3, .inr v3), (4, .inl v4)] [] h (f_L_law_c872 G r23 h v1 v2 v3 v4 ) := by
  unfold f_L_law_c872
  refine nr_aload_n 1 dL_law_872 rfl ?_
  refine nr_aload_n 0 dL_law_873 rfl ?_
  refine nr_iload 4 dL_law_874 rfl ?_
  refine nr_iconst (v := 1) dL_law_876 (by decide) ?_
  refine nr_iadd dL_law_877 ?_
  refine nr_sld dL_law_878 (fun x127 => ?_)
  refine nr_aload_n 0 dL_law_879 rfl ?_
  refine nr_iload 4 dL_law_880 rfl ?_
  refine nr_iconst (v := 2) dL_law_882 (by decide) ?_
  refine nr_iadd dL_law_883 ?_
  refine nr_sld dL_law_884 (fun x128 => ?_)
  refine nr_doI (st := []) (nk_callSW (c_L_prepare (G := G) hl0 h v1 x127 x128) dL_law_885 my_L_prepare st_L_prepare ml_RL_175 rfl rfl (Nat.le_of_ble_eq_true rfl) (by decide) (by decide)) (fun h129 x130 => ?_)
  refine nr_istore (lv2 := [(5, .inl x130), (0, .inr (some (nk_gB G))), (1, .inr v1), (2, .inr v2), (3, .inr v3), (4, .inl v4)]) dL_law_888 (by decide) rfl ?_
  refine nr_aload_n 3 dL_law_890 rfl ?_
  refine nr_aload_n 1 dL_law_891 rfl ?_
  refine nr_iload 5 dL_law_892 rfl ?_
  refine nr_iconst (v := 1) dL_law_894 (by decide) ?_
  refine nr_iadd dL_law_895 ?_
  refine nr_sld dL_law_896 (fun x131 => ?_)
  refine nr_aload_n 1 dL_law_897 rfl ?_
  refine nr_iload 5 dL_law_898 rfl ?_
  refine nr_iconst (v := 2) dL_law_900 (by decide) ?_
  refine nr_iadd dL_law_901 ?_
  refine nr_sld dL_law_902 (fun x132 => ?_)
  refine nr_rcv (ks := [19]) (pre := [.inl x132, .inl x131]) (fun a133 hm => ?_)
  refine nr_doV (st := []) (nk_callV (q := (RX12, TX12, 45)) (ci := 12) (c_X12_prepare (G := G) hl0 h129 a133 x131 x132) dL_law_903 (List.mem_singleton.mp hm) rfl rfl my_X12_prepare im_X12_prepare se_RX12_X12_prepare ml_RL_178 rfl rfl (Nat.le_of_ble_eq_true rfl) (by decide) (by decide)) (fun h134 x135 => ?_)
  refine nr_aload_n 3 dL_law_906 rfl ?_
  refine nr_rcv (ks := [19]) (pre := []) (fun a136 hm => ?_)
  refine nr_doI (st := []) (nk_callV (q := (RX12, TX12, 45)) (ci := 12) (c_X12_thrown (G := G) hl0 h134 a136) dL_law_907 (List.mem_singleton.mp hm) rfl rfl my_X12_thrown im_X12_thrown se_RX12_X12_thrown ml_RL_144 rfl rfl (Nat.le_of_ble_eq_true rfl) (by decide) (by decide)) (fun h137 x138 => ?_)
  refine nr_iload 0 dL_law_910 rfl ?_
  refine nr_icmp_eq (tgt := 917) dL_law_912 (by decide) (fun _ => ?_) (fun _ => ?_)
  · refine nr_goto (tgt := 2879) dL_law_917 (by decide) ?_
    exact nk_locals [1, 2, 3, 4, 5] rfl (s_L_law_c2879 hl0 hr23 h137 v1 v2 v3 v4)
  · refine nr_iconst (v := 0) dL_law_915 (by decide) ?_
    exact nr_zret rfl rfl dL_law_916
set_option maxHeartbeats 4000000 in
theorem s_L_law_c1009 {G : nk_G} {l : Launch} (hl0 : l.flags = flags0) {r23 : nk_H → Option Nat → Option Nat → Option Nat → Int32 → Option (nk_H × Int32)} (hr23 : ∀ (h : nk_H)  (v1 : Option Nat) (v2 : Option Nat) (v3 : Option Nat) (v4 : Int32), nk_Sim G l RL cL_law 7 (some FieldType.boolean) 11 260 false nk_eI 23 [(0, .inr (some (nk_gB G))), (1, .inr v1), (2, .inr v2), (3, .inr v3), (4, .inl v4)] [] h (r23 h  v1 v2 v3 v4)) (h : nk_H)  (v1 : Option Nat) (v2 : Option Nat) (v3 : Option Nat) (v4 : Int32)  : nk_Sim G l RL cL_law 7 (some FieldType.boolean) 11 260 false nk_eI 1009 [(0, .inr (some (nk_gB G))), (1, .inr v1), (2, .inr v2), (3, .inr v3), (4, .inl v4)] [] h (f_L_law_c1009 G r23 h v1 v2 v3 v4 ) := by
  unfold f_L_law_c1009
  refine nr_goto (tgt := 2879) dL_law_1009 (by decide) ?_
  exact s_L_law_c2879 hl0 hr23 h v1 v2 v3 v4
set_option maxHeartbeats 4000000 in
theorem s_L_law_c920 {G : nk_G} {l : Launch} (hl0 : l.flags = flags0) {r23 : nk_H → Option Nat → Option Nat → Option Nat → Int32 → Option (nk_H × Int32)} (hr23 : ∀ (h : nk_H)  (v1 : Option Nat) (v2 : Option Nat) (v3 : Option Nat) (v4 : Int32), nk_Sim G l RL cL_law 7 (some FieldType.boolean) 11 260 false nk_eI 23 [(0, .inr (some (nk_gB G))), (1, .inr v1), (2, .inr v2), (3, .inr v3), (4, .inl v4)] [] h (r23 h  v1 v2 v3 v4)) (h : nk_H)  (v1 : Option Nat) (v2 : Option Nat) (v3 : Option Nat) (v4 : Int32)  : nk_Sim G l RL cL_law 7 (some FieldType.boolean) 11 260 false nk_eI 920 [(0, .inr (some (nk_gB G))), (1, .inr v1), (2, .inr v2), (3, .inr v3), (4, .inl v4)] [] h (f_L_law_c920 G r23 h v1 v2 v3 v4 ) := by
  unfold f_L_law_c920
  refine nr_aload_n 1 dL_law_920 rfl ?_
  refine nr_aload_n 0 dL_law_921 rfl ?_
  refine nr_iload 4 dL_law_922 rfl ?_
  refine nr_iconst (v := 1) dL_law_924 (by decide) ?_
  refine nr_iadd dL_law_925 ?_
  refine nr_sld dL_law_926 (fun x139 => ?_)
  refine nr_aload_n 0 dL_law_927 rfl ?_
  refine nr_iload 4 dL_law_928 rfl ?_
  refine nr_iconst (v := 2) dL_law_930 (by decide) ?_
  refine nr_iadd dL_law_931 ?_
  refine nr_sld dL_law_932 (fun x140 => ?_)
  refine nr_aload_n 0 dL_law_933 rfl ?_
  refine nr_iload 4 dL_law_934 rfl ?_
  refine nr_iconst (v := 3) dL_law_936 (by decide) ?_
  refine nr_iadd dL_law_937 ?_
  refine nr_sld dL_law_938 (fun x141 => ?_)
  refine nr_aload_n 0 dL_law_939 rfl ?_
  refine nr_iload 4 dL_law_940 rfl ?_
  refine nr_iconst (v := 4) dL_law_942 (by decide) ?_
  refine nr_iadd dL_law_943 ?_
  refine nr_sld dL_law_944 (fun x142 => ?_)
  refine nr_aload_n 3 dL_law_945 rfl ?_
  refine nr_doI (st := []) (nk_callSW (c_L_act (G := G) hl0 h v1 x139 x140 x141 x142 v3) dL_law_946 my_L_act st_L_act ml_RL_179 rfl rfl (Nat.le_of_ble_eq_true rfl) (by decide) (by decide)) (fun h143 x144 => ?_)
  refine nr_istore (lv2 := [(5, .inl x144), (0, .inr (some (nk_gB G))), (1, .inr v1), (2, .inr v2), (3, .inr v3), (4, .inl v4)]) dL_law_949 (by decide) rfl ?_
  refine nr_aload_n 3 dL_law_951 rfl ?_
  refine nr_aload_n 1 dL_law_952 rfl ?_
  refine nr_iload 5 dL_law_953 rfl ?_
  refine nr_iconst (v := 1) dL_law_955 (by decide) ?_
  refine nr_iadd dL_law_956 ?_
  refine nr_sld dL_law_957 (fun x145 => ?_)
  refine nr_aload_n 1 dL_law_958 rfl ?_
  refine nr_iload 5 dL_law_959 rfl ?_
  refine nr_iconst (v := 2) dL_law_961 (by decide) ?_
  refine nr_iadd dL_law_962 ?_
  refine nr_sld dL_law_963 (fun x146 => ?_)
  refine nr_aload_n 1 dL_law_964 rfl ?_
  refine nr_iload 5 dL_law_965 rfl ?_
  refine nr_iconst (v := 3) dL_law_967 (by decide) ?_
  refine nr_iadd dL_law_968 ?_
  refine nr_sld dL_law_969 (fun x147 => ?_)
  refine nr_aload_n 1 dL_law_970 rfl ?_
  refine nr_iload 5 dL_law_971 rfl ?_
  refine nr_iconst (v := 4) dL_law_973 (by decide) ?_
  refine nr_iadd dL_law_974 ?_
  refine nr_sld dL_law_975 (fun x148 => ?_)
  refine nr_rcv (ks := [19]) (pre := [.inl x148, .inl x147, .inl x146, .inl x145]) (fun a149 hm => ?_)
  refine nr_doI (st := []) (nk_callV (q := (RX12, TX12, 45)) (ci := 12) (c_X12_act (G := G) hl0 h143 a149 x145 x146 x147 x148) dL_law_976 (List.mem_singleton.mp hm) rfl rfl my_X12_act im_X12_act se_RX12_X12_act ml_RL_182 rfl rfl (Nat.le_of_ble_eq_true rfl) (by decide) (by decide)) (fun h150 x151 => ?_)
  refine nr_istore (lv2 := [(6, .inl x151), (5, .inl x144), (0, .inr (some (nk_gB G))), (1, .inr v1), (2, .inr v2), (3, .inr v3), (4, .inl v4)]) dL_law_979 (by decide) rfl ?_
  refine nr_aload_n 4 dL_law_981 rfl ?_
  refine nr_rcv (ks := [19]) (pre := []) (fun a152 hm => ?_)
  refine nr_doI (st := []) (nk_callV (q := (RX12, TX12, 45)) (ci := 12) (c_X12_thrown (G := G) hl0 h150 a152) dL_law_982 (List.mem_singleton.mp hm) rfl rfl my_X12_thrown im_X12_thrown se_RX12_X12_thrown ml_RL_144 rfl rfl (Nat.le_of_ble_eq_true rfl) (by decide) (by decide)) (fun h153 x154 => ?_)
  refine nr_iload 1 dL_law_985 rfl ?_
  refine nr_icmp_eq (tgt := 992) dL_law_987 (by decide) (fun _ => ?_) (fun _ => ?_)
  · refine nr_iload 1 dL_law_992 rfl ?_
    refine nr_if_ne (tgt := 1009) dL_law_994 (by decide) (fun _ => ?_) (fun _ => ?_)
    · refine nr_aload_n 5 dL_law_997 rfl ?_
      refine nr_iconst (v := 0) dL_law_998 (by decide) ?_
      refine nr_lcI (j := 0) (tgt := 1009) dL_law_999 dL_law_1000 rfl dL_law_1002 dL_law_1003 dL_law_1004 (by decide) (fun x155 => ?_) (fun x155 => ?_)
      · exact nk_locals [2, 3, 4, 5, 6] rfl (s_L_law_c1009 hl0 hr23 h153 v1 v2 v3 v4)
      · refine nr_iconst (v := 0) dL_law_1007 (by decide) ?_
        exact nr_zret rfl rfl dL_law_1008
    · exact nk_locals [2, 3, 4, 5, 6] rfl (s_L_law_c1009 hl0 hr23 h153 v1 v2 v3 v4)
  · refine nr_iconst (v := 0) dL_law_990 (by decide) ?_
    exact nr_zret rfl rfl dL_law_991
set_option maxHeartbeats 4000000 in
theorem s_L_law_c1089 {G : nk_G} {l : Launch} (hl0 : l.flags = flags0) {r23 : nk_H → Option Nat → Option Nat → Option Nat → Int32 → Option (nk_H × Int32)} (hr23 : ∀ (h : nk_H)  (v1 : Option Nat) (v2 : Option Nat) (v3 : Option Nat) (v4 : Int32), nk_Sim G l RL cL_law 7 (some FieldType.boolean) 11 260 false nk_eI 23 [(0, .inr (some (nk_gB G))), (1, .inr v1), (2, .inr v2), (3, .inr v3), (4, .inl v4)] [] h (r23 h  v1 v2 v3 v4)) (h : nk_H)  (v1 : Option Nat) (v2 : Option Nat) (v3 : Option Nat) (v4 : Int32)  : nk_Sim G l RL cL_law 7 (some FieldType.boolean) 11 260 false nk_eI 1089 [(0, .inr (some (nk_gB G))), (1, .inr v1), (2, .inr v2), (3, .inr v3), (4, .inl v4)] [] h (f_L_law_c1089 G r23 h v1 v2 v3 v4 ) := by
  unfold f_L_law_c1089
  refine nr_goto (tgt := 2879) dL_law_1089 (by decide) ?_
  exact s_L_law_c2879 hl0 hr23 h v1 v2 v3 v4
set_option maxHeartbeats 4000000 in
theorem s_L_law_c1012 {G : nk_G} {l : Launch} (hl0 : l.flags = flags0) {r23 : nk_H → Option Nat → Option Nat → Option Nat → Int32 → Option (nk_H × Int32)} (hr23 : ∀ (h : nk_H)  (v1 : Option Nat) (v2 : Option Nat) (v3 : Option Nat) (v4 : Int32), nk_Sim G l RL cL_law 7 (some FieldType.boolean) 11 260 false nk_eI 23 [(0, .inr (some (nk_gB G))), (1, .inr v1), (2, .inr v2), (3, .inr v3), (4, .inl v4)] [] h (r23 h  v1 v2 v3 v4)) (h : nk_H)  (v1 : Option Nat) (v2 : Option Nat) (v3 : Option Nat) (v4 : Int32)  : nk_Sim G l RL cL_law 7 (some FieldType.boolean) 11 260 false nk_eI 1012 [(0, .inr (some (nk_gB G))), (1, .inr v1), (2, .inr v2), (3, .inr v3), (4, .inl v4)] [] h (f_L_law_c1012 G r23 h v1 v2 v3 v4 ) := by
  unfold f_L_law_c1012
  refine nr_aload_n 1 dL_law_1012 rfl ?_
  refine nr_aload_n 0 dL_law_1013 rfl ?_
  refine nr_iload 4 dL_law_1014 rfl ?_
  refine nr_iconst (v := 1) dL_law_1016 (by decide) ?_
  refine nr_iadd dL_law_1017 ?_
  refine nr_sld dL_law_1018 (fun x156 => ?_)
  refine nr_aload_n 0 dL_law_1019 rfl ?_
  refine nr_iload 4 dL_law_1020 rfl ?_
  refine nr_iconst (v := 2) dL_law_1022 (by decide) ?_
  refine nr_iadd dL_law_1023 ?_
  refine nr_sld dL_law_1024 (fun x157 => ?_)
  refine nr_aload_n 0 dL_law_1025 rfl ?_
  refine nr_iload 4 dL_law_1026 rfl ?_
  refine nr_iconst (v := 3) dL_law_1028 (by decide) ?_
  refine nr_iadd dL_law_1029 ?_
  refine nr_sld dL_law_1030 (fun x158 => ?_)
  refine nr_aload_n 3 dL_law_1031 rfl ?_
  refine nr_doI (st := []) (nk_callSW (c_L_tamper (G := G) hl0 h v1 x156 x157 x158 v3) dL_law_1032 my_L_tamper st_L_tamper ml_RL_183 rfl rfl (Nat.le_of_ble_eq_true rfl) (by decide) (by decide)) (fun h159 x160 => ?_)
  refine nr_istore (lv2 := [(5, .inl x160), (0, .inr (some (nk_gB G))), (1, .inr v1), (2, .inr v2), (3, .inr v3), (4, .inl v4)]) dL_law_1035 (by decide) rfl ?_
  refine nr_aload_n 3 dL_law_1037 rfl ?_
  refine nr_aload_n 1 dL_law_1038 rfl ?_
  refine nr_iload 5 dL_law_1039 rfl ?_
  refine nr_iconst (v := 1) dL_law_1041 (by decide) ?_
  refine nr_iadd dL_law_1042 ?_
  refine nr_sld dL_law_1043 (fun x161 => ?_)
  refine nr_aload_n 1 dL_law_1044 rfl ?_
  refine nr_iload 5 dL_law_1045 rfl ?_
  refine nr_iconst (v := 2) dL_law_1047 (by decide) ?_
  refine nr_iadd dL_law_1048 ?_
  refine nr_sld dL_law_1049 (fun x162 => ?_)
  refine nr_aload_n 1 dL_law_1050 rfl ?_
  refine nr_iload 5 dL_law_1051 rfl ?_
  refine nr_iconst (v := 3) dL_law_1053 (by decide) ?_
  refine nr_iadd dL_law_1054 ?_
  refine nr_sld dL_law_1055 (fun x163 => ?_)
  refine nr_rcv (ks := [19]) (pre := [.inl x163, .inl x162, .inl x161]) (fun a164 hm => ?_)
  refine nr_doI (st := []) (nk_callV (q := (RX12, TX12, 45)) (ci := 12) (c_X12_tamper (G := G) hl0 h159 a164 x161 x162 x163) dL_law_1056 (List.mem_singleton.mp hm) rfl rfl my_X12_tamper im_X12_tamper se_RX12_X12_tamper ml_RL_185 rfl rfl (Nat.le_of_ble_eq_true rfl) (by decide) (by decide)) (fun h165 x166 => ?_)
  refine nr_istore (lv2 := [(6, .inl x166), (5, .inl x160), (0, .inr (some (nk_gB G))), (1, .inr v1), (2, .inr v2), (3, .inr v3), (4, .inl v4)]) dL_law_1059 (by decide) rfl ?_
  refine nr_aload_n 4 dL_law_1061 rfl ?_
  refine nr_rcv (ks := [19]) (pre := []) (fun a167 hm => ?_)
  refine nr_doI (st := []) (nk_callV (q := (RX12, TX12, 45)) (ci := 12) (c_X12_thrown (G := G) hl0 h165 a167) dL_law_1062 (List.mem_singleton.mp hm) rfl rfl my_X12_thrown im_X12_thrown se_RX12_X12_thrown ml_RL_144 rfl rfl (Nat.le_of_ble_eq_true rfl) (by decide) (by decide)) (fun h168 x169 => ?_)
  refine nr_iload 1 dL_law_1065 rfl ?_
  refine nr_icmp_eq (tgt := 1072) dL_law_1067 (by decide) (fun _ => ?_) (fun _ => ?_)
  · refine nr_iload 1 dL_law_1072 rfl ?_
    refine nr_if_ne (tgt := 1089) dL_law_1074 (by decide) (fun _ => ?_) (fun _ => ?_)
    · refine nr_aload_n 5 dL_law_1077 rfl ?_
      refine nr_iconst (v := 0) dL_law_1078 (by decide) ?_
      refine nr_lcI (j := 0) (tgt := 1089) dL_law_1079 dL_law_1080 rfl dL_law_1082 dL_law_1083 dL_law_1084 (by decide) (fun x170 => ?_) (fun x170 => ?_)
      · exact nk_locals [2, 3, 4, 5, 6] rfl (s_L_law_c1089 hl0 hr23 h168 v1 v2 v3 v4)
      · refine nr_iconst (v := 0) dL_law_1087 (by decide) ?_
        exact nr_zret rfl rfl dL_law_1088
    · exact nk_locals [2, 3, 4, 5, 6] rfl (s_L_law_c1089 hl0 hr23 h168 v1 v2 v3 v4)
  · refine nr_iconst (v := 0) dL_law_1070 (by decide) ?_
    exact nr_zret rfl rfl dL_law_1071
set_option maxHeartbeats 4000000 in
theorem s_L_law_c1181 {G : nk_G} {l : Launch} (hl0 : l.flags = flags0) {r23 : nk_H → Option Nat → Option Nat → Option Nat → Int32 → Option (nk_H × Int32)} (hr23 : ∀ (h : nk_H)  (v1 : Option Nat) (v2 : Option Nat) (v3 : Option Nat) (v4 : Int32), nk_Sim G l RL cL_law 7 (some FieldType.boolean) 11 260 false nk_eI 23 [(0, .inr (some (nk_gB G))), (1, .inr v1), (2, .inr v2), (3, .inr v3), (4, .inl v4)] [] h (r23 h  v1 v2 v3 v4)) (h : nk_H)  (v1 : Option Nat) (v2 : Option Nat) (v3 : Option Nat) (v4 : Int32)  : nk_Sim G l RL cL_law 7 (some FieldType.boolean) 11 260 false nk_eI 1181 [(0, .inr (some (nk_gB G))), (1, .inr v1), (2, .inr v2), (3, .inr v3), (4, .inl v4)] [] h (f_L_law_c1181 G r23 h v1 v2 v3 v4 ) := by
  unfold f_L_law_c1181
  refine nr_goto (tgt := 2879) dL_law_1181 (by decide) ?_
  exact s_L_law_c2879 hl0 hr23 h v1 v2 v3 v4
set_option maxHeartbeats 4000000 in
theorem s_L_law_c1092 {G : nk_G} {l : Launch} (hl0 : l.flags = flags0) {r23 : nk_H → Option Nat → Option Nat → Option Nat → Int32 → Option (nk_H × Int32)} (hr23 : ∀ (h : nk_H)  (v1 : Option Nat) (v2 : Option Nat) (v3 : Option Nat) (v4 : Int32), nk_Sim G l RL cL_law 7 (some FieldType.boolean) 11 260 false nk_eI 23 [(0, .inr (some (nk_gB G))), (1, .inr v1), (2, .inr v2), (3, .inr v3), (4, .inl v4)] [] h (r23 h  v1 v2 v3 v4)) (h : nk_H)  (v1 : Option Nat) (v2 : Option Nat) (v3 : Option Nat) (v4 : Int32)  : nk_Sim G l RL cL_law 7 (some FieldType.boolean) 11 260 false nk_eI 1092 [(0, .inr (some (nk_gB G))), (1, .inr v1), (2, .inr v2), (3, .inr v3), (4, .inl v4)] [] h (f_L_law_c1092 G r23 h v1 v2 v3 v4 ) := by
  unfold f_L_law_c1092
  refine nr_aload_n 1 dL_law_1092 rfl ?_
  refine nr_aload_n 0 dL_law_1093 rfl ?_
  refine nr_iload 4 dL_law_1094 rfl ?_
  refine nr_iconst (v := 1) dL_law_1096 (by decide) ?_
  refine nr_iadd dL_law_1097 ?_
  refine nr_sld dL_law_1098 (fun x171 => ?_)
  refine nr_aload_n 0 dL_law_1099 rfl ?_
  refine nr_iload 4 dL_law_1100 rfl ?_
  refine nr_iconst (v := 2) dL_law_1102 (by decide) ?_
  refine nr_iadd dL_law_1103 ?_
  refine nr_sld dL_law_1104 (fun x172 => ?_)
  refine nr_aload_n 0 dL_law_1105 rfl ?_
  refine nr_iload 4 dL_law_1106 rfl ?_
  refine nr_iconst (v := 3) dL_law_1108 (by decide) ?_
  refine nr_iadd dL_law_1109 ?_
  refine nr_sld dL_law_1110 (fun x173 => ?_)
  refine nr_aload_n 0 dL_law_1111 rfl ?_
  refine nr_iload 4 dL_law_1112 rfl ?_
  refine nr_iconst (v := 4) dL_law_1114 (by decide) ?_
  refine nr_iadd dL_law_1115 ?_
  refine nr_sld dL_law_1116 (fun x174 => ?_)
  refine nr_aload_n 3 dL_law_1117 rfl ?_
  refine nr_doI (st := []) (nk_callSW (c_L_copy (G := G) hl0 h v1 x171 x172 x173 x174 v3) dL_law_1118 my_L_copy st_L_copy ml_RL_186 rfl rfl (Nat.le_of_ble_eq_true rfl) (by decide) (by decide)) (fun h175 x176 => ?_)
  refine nr_istore (lv2 := [(5, .inl x176), (0, .inr (some (nk_gB G))), (1, .inr v1), (2, .inr v2), (3, .inr v3), (4, .inl v4)]) dL_law_1121 (by decide) rfl ?_
  refine nr_aload_n 3 dL_law_1123 rfl ?_
  refine nr_aload_n 1 dL_law_1124 rfl ?_
  refine nr_iload 5 dL_law_1125 rfl ?_
  refine nr_iconst (v := 1) dL_law_1127 (by decide) ?_
  refine nr_iadd dL_law_1128 ?_
  refine nr_sld dL_law_1129 (fun x177 => ?_)
  refine nr_aload_n 1 dL_law_1130 rfl ?_
  refine nr_iload 5 dL_law_1131 rfl ?_
  refine nr_iconst (v := 2) dL_law_1133 (by decide) ?_
  refine nr_iadd dL_law_1134 ?_
  refine nr_sld dL_law_1135 (fun x178 => ?_)
  refine nr_aload_n 1 dL_law_1136 rfl ?_
  refine nr_iload 5 dL_law_1137 rfl ?_
  refine nr_iconst (v := 3) dL_law_1139 (by decide) ?_
  refine nr_iadd dL_law_1140 ?_
  refine nr_sld dL_law_1141 (fun x179 => ?_)
  refine nr_aload_n 1 dL_law_1142 rfl ?_
  refine nr_iload 5 dL_law_1143 rfl ?_
  refine nr_iconst (v := 4) dL_law_1145 (by decide) ?_
  refine nr_iadd dL_law_1146 ?_
  refine nr_sld dL_law_1147 (fun x180 => ?_)
  refine nr_rcv (ks := [19]) (pre := [.inl x180, .inl x179, .inl x178, .inl x177]) (fun a181 hm => ?_)
  refine nr_doI (st := []) (nk_callV (q := (RX12, TX12, 45)) (ci := 12) (c_X12_copy (G := G) hl0 h175 a181 x177 x178 x179 x180) dL_law_1148 (List.mem_singleton.mp hm) rfl rfl my_X12_copy im_X12_copy se_RX12_X12_copy ml_RL_188 rfl rfl (Nat.le_of_ble_eq_true rfl) (by decide) (by decide)) (fun h182 x183 => ?_)
  refine nr_istore (lv2 := [(6, .inl x183), (5, .inl x176), (0, .inr (some (nk_gB G))), (1, .inr v1), (2, .inr v2), (3, .inr v3), (4, .inl v4)]) dL_law_1151 (by decide) rfl ?_
  refine nr_aload_n 4 dL_law_1153 rfl ?_
  refine nr_rcv (ks := [19]) (pre := []) (fun a184 hm => ?_)
  refine nr_doI (st := []) (nk_callV (q := (RX12, TX12, 45)) (ci := 12) (c_X12_thrown (G := G) hl0 h182 a184) dL_law_1154 (List.mem_singleton.mp hm) rfl rfl my_X12_thrown im_X12_thrown se_RX12_X12_thrown ml_RL_144 rfl rfl (Nat.le_of_ble_eq_true rfl) (by decide) (by decide)) (fun h185 x186 => ?_)
  refine nr_iload 1 dL_law_1157 rfl ?_
  refine nr_icmp_eq (tgt := 1164) dL_law_1159 (by decide) (fun _ => ?_) (fun _ => ?_)
  · refine nr_iload 1 dL_law_1164 rfl ?_
    refine nr_if_ne (tgt := 1181) dL_law_1166 (by decide) (fun _ => ?_) (fun _ => ?_)
    · refine nr_aload_n 5 dL_law_1169 rfl ?_
      refine nr_iconst (v := 0) dL_law_1170 (by decide) ?_
      refine nr_lcI (j := 0) (tgt := 1181) dL_law_1171 dL_law_1172 rfl dL_law_1174 dL_law_1175 dL_law_1176 (by decide) (fun x187 => ?_) (fun x187 => ?_)
      · exact nk_locals [2, 3, 4, 5, 6] rfl (s_L_law_c1181 hl0 hr23 h185 v1 v2 v3 v4)
      · refine nr_iconst (v := 0) dL_law_1179 (by decide) ?_
        exact nr_zret rfl rfl dL_law_1180
    · exact nk_locals [2, 3, 4, 5, 6] rfl (s_L_law_c1181 hl0 hr23 h185 v1 v2 v3 v4)
  · refine nr_iconst (v := 0) dL_law_1162 (by decide) ?_
    exact nr_zret rfl rfl dL_law_1163
set_option maxHeartbeats 4000000 in
theorem s_L_law_c1273 {G : nk_G} {l : Launch} (hl0 : l.flags = flags0) {r23 : nk_H → Option Nat → Option Nat → Option Nat → Int32 → Option (nk_H × Int32)} (hr23 : ∀ (h : nk_H)  (v1 : Option Nat) (v2 : Option Nat) (v3 : Option Nat) (v4 : Int32), nk_Sim G l RL cL_law 7 (some FieldType.boolean) 11 260 false nk_eI 23 [(0, .inr (some (nk_gB G))), (1, .inr v1), (2, .inr v2), (3, .inr v3), (4, .inl v4)] [] h (r23 h  v1 v2 v3 v4)) (h : nk_H)  (v1 : Option Nat) (v2 : Option Nat) (v3 : Option Nat) (v4 : Int32)  : nk_Sim G l RL cL_law 7 (some FieldType.boolean) 11 260 false nk_eI 1273 [(0, .inr (some (nk_gB G))), (1, .inr v1), (2, .inr v2), (3, .inr v3), (4, .inl v4)] [] h (f_L_law_c1273 G r23 h v1 v2 v3 v4 ) := by
  unfold f_L_law_c1273
  refine nr_goto (tgt := 2879) dL_law_1273 (by decide) ?_
  exact s_L_law_c2879 hl0 hr23 h v1 v2 v3 v4
set_option maxHeartbeats 4000000 in
theorem s_L_law_c1184 {G : nk_G} {l : Launch} (hl0 : l.flags = flags0) {r23 : nk_H → Option Nat → Option Nat → Option Nat → Int32 → Option (nk_H × Int32)} (hr23 : ∀ (h : nk_H)  (v1 : Option Nat) (v2 : Option Nat) (v3 : Option Nat) (v4 : Int32), nk_Sim G l RL cL_law 7 (some FieldType.boolean) 11 260 false nk_eI 23 [(0, .inr (some (nk_gB G))), (1, .inr v1), (2, .inr v2), (3, .inr v3), (4, .inl v4)] [] h (r23 h  v1 v2 v3 v4)) (h : nk_H)  (v1 : Option Nat) (v2 : Option Nat) (v3 : Option Nat) (v4 : Int32)  : nk_Sim G l RL cL_law 7 (some FieldType.boolean) 11 260 false nk_eI 1184 [(0, .inr (some (nk_gB G))), (1, .inr v1), (2, .inr v2), (3, .inr v3), (4, .inl v4)] [] h (f_L_law_c1184 G r23 h v1 v2 v3 v4 ) := by
  unfold f_L_law_c1184
  refine nr_aload_n 1 dL_law_1184 rfl ?_
  refine nr_aload_n 0 dL_law_1185 rfl ?_
  refine nr_iload 4 dL_law_1186 rfl ?_
  refine nr_iconst (v := 1) dL_law_1188 (by decide) ?_
  refine nr_iadd dL_law_1189 ?_
  refine nr_sld dL_law_1190 (fun x188 => ?_)
  refine nr_aload_n 0 dL_law_1191 rfl ?_
  refine nr_iload 4 dL_law_1192 rfl ?_
  refine nr_iconst (v := 2) dL_law_1194 (by decide) ?_
  refine nr_iadd dL_law_1195 ?_
  refine nr_sld dL_law_1196 (fun x189 => ?_)
  refine nr_aload_n 0 dL_law_1197 rfl ?_
  refine nr_iload 4 dL_law_1198 rfl ?_
  refine nr_iconst (v := 3) dL_law_1200 (by decide) ?_
  refine nr_iadd dL_law_1201 ?_
  refine nr_sld dL_law_1202 (fun x190 => ?_)
  refine nr_aload_n 0 dL_law_1203 rfl ?_
  refine nr_iload 4 dL_law_1204 rfl ?_
  refine nr_iconst (v := 4) dL_law_1206 (by decide) ?_
  refine nr_iadd dL_law_1207 ?_
  refine nr_sld dL_law_1208 (fun x191 => ?_)
  refine nr_aload_n 3 dL_law_1209 rfl ?_
  refine nr_doI (st := []) (nk_callSW (c_L_forge (G := G) hl0 h v1 x188 x189 x190 x191 v3) dL_law_1210 my_L_forge st_L_forge ml_RL_189 rfl rfl (Nat.le_of_ble_eq_true rfl) (by decide) (by decide)) (fun h192 x193 => ?_)
  refine nr_istore (lv2 := [(5, .inl x193), (0, .inr (some (nk_gB G))), (1, .inr v1), (2, .inr v2), (3, .inr v3), (4, .inl v4)]) dL_law_1213 (by decide) rfl ?_
  refine nr_aload_n 3 dL_law_1215 rfl ?_
  refine nr_aload_n 1 dL_law_1216 rfl ?_
  refine nr_iload 5 dL_law_1217 rfl ?_
  refine nr_iconst (v := 1) dL_law_1219 (by decide) ?_
  refine nr_iadd dL_law_1220 ?_
  refine nr_sld dL_law_1221 (fun x194 => ?_)
  refine nr_aload_n 1 dL_law_1222 rfl ?_
  refine nr_iload 5 dL_law_1223 rfl ?_
  refine nr_iconst (v := 2) dL_law_1225 (by decide) ?_
  refine nr_iadd dL_law_1226 ?_
  refine nr_sld dL_law_1227 (fun x195 => ?_)
  refine nr_aload_n 1 dL_law_1228 rfl ?_
  refine nr_iload 5 dL_law_1229 rfl ?_
  refine nr_iconst (v := 3) dL_law_1231 (by decide) ?_
  refine nr_iadd dL_law_1232 ?_
  refine nr_sld dL_law_1233 (fun x196 => ?_)
  refine nr_aload_n 1 dL_law_1234 rfl ?_
  refine nr_iload 5 dL_law_1235 rfl ?_
  refine nr_iconst (v := 4) dL_law_1237 (by decide) ?_
  refine nr_iadd dL_law_1238 ?_
  refine nr_sld dL_law_1239 (fun x197 => ?_)
  refine nr_rcv (ks := [19]) (pre := [.inl x197, .inl x196, .inl x195, .inl x194]) (fun a198 hm => ?_)
  refine nr_doI (st := []) (nk_callV (q := (RX12, TX12, 45)) (ci := 12) (c_X12_forge (G := G) hl0 h192 a198 x194 x195 x196 x197) dL_law_1240 (List.mem_singleton.mp hm) rfl rfl my_X12_forge im_X12_forge se_RX12_X12_forge ml_RL_191 rfl rfl (Nat.le_of_ble_eq_true rfl) (by decide) (by decide)) (fun h199 x200 => ?_)
  refine nr_istore (lv2 := [(6, .inl x200), (5, .inl x193), (0, .inr (some (nk_gB G))), (1, .inr v1), (2, .inr v2), (3, .inr v3), (4, .inl v4)]) dL_law_1243 (by decide) rfl ?_
  refine nr_aload_n 4 dL_law_1245 rfl ?_
  refine nr_rcv (ks := [19]) (pre := []) (fun a201 hm => ?_)
  refine nr_doI (st := []) (nk_callV (q := (RX12, TX12, 45)) (ci := 12) (c_X12_thrown (G := G) hl0 h199 a201) dL_law_1246 (List.mem_singleton.mp hm) rfl rfl my_X12_thrown im_X12_thrown se_RX12_X12_thrown ml_RL_144 rfl rfl (Nat.le_of_ble_eq_true rfl) (by decide) (by decide)) (fun h202 x203 => ?_)
  refine nr_iload 1 dL_law_1249 rfl ?_
  refine nr_icmp_eq (tgt := 1256) dL_law_1251 (by decide) (fun _ => ?_) (fun _ => ?_)
  · refine nr_iload 1 dL_law_1256 rfl ?_
    refine nr_if_ne (tgt := 1273) dL_law_1258 (by decide) (fun _ => ?_) (fun _ => ?_)
    · refine nr_aload_n 5 dL_law_1261 rfl ?_
      refine nr_iconst (v := 0) dL_law_1262 (by decide) ?_
      refine nr_lcI (j := 0) (tgt := 1273) dL_law_1263 dL_law_1264 rfl dL_law_1266 dL_law_1267 dL_law_1268 (by decide) (fun x204 => ?_) (fun x204 => ?_)
      · exact nk_locals [2, 3, 4, 5, 6] rfl (s_L_law_c1273 hl0 hr23 h202 v1 v2 v3 v4)
      · refine nr_iconst (v := 0) dL_law_1271 (by decide) ?_
        exact nr_zret rfl rfl dL_law_1272
    · exact nk_locals [2, 3, 4, 5, 6] rfl (s_L_law_c1273 hl0 hr23 h202 v1 v2 v3 v4)
  · refine nr_iconst (v := 0) dL_law_1254 (by decide) ?_
    exact nr_zret rfl rfl dL_law_1255
set_option maxHeartbeats 4000000 in
theorem s_L_law_c1276 {G : nk_G} {l : Launch} (hl0 : l.flags = flags0) {r23 : nk_H → Option Nat → Option Nat → Option Nat → Int32 → Option (nk_H × Int32)} (hr23 : ∀ (h : nk_H)  (v1 : Option Nat) (v2 : Option Nat) (v3 : Option Nat) (v4 : Int32), nk_Sim G l RL cL_law 7 (some FieldType.boolean) 11 260 false nk_eI 23 [(0, .inr (some (nk_gB G))), (1, .inr v1), (2, .inr v2), (3, .inr v3), (4, .inl v4)] [] h (r23 h  v1 v2 v3 v4)) (h : nk_H)  (v1 : Option Nat) (v2 : Option Nat) (v3 : Option Nat) (v4 : Int32)  : nk_Sim G l RL cL_law 7 (some FieldType.boolean) 11 260 false nk_eI 1276 [(0, .inr (some (nk_gB G))), (1, .inr v1), (2, .inr v2), (3, .inr v3), (4, .inl v4)] [] h (f_L_law_c1276 G r23 h v1 v2 v3 v4 ) := by
  unfold f_L_law_c1276
  refine nr_aload_n 1 dL_law_1276 rfl ?_
  refine nr_rcv (ks := [18]) (pre := []) (fun a205 hm => ?_)
  refine nr_doI (st := []) (nk_callV (q := (RX11, TX11, 9)) (ci := 11) (c_X11_hour (G := G) hl0 h a205) dL_law_1277 (List.mem_singleton.mp hm) rfl rfl my_X11_hour im_X11_hour se_RX11_X11_hour ml_RL_192 rfl rfl (Nat.le_of_ble_eq_true rfl) (by decide) (by decide)) (fun h206 x207 => ?_)
  refine nr_aload_n 2 dL_law_1280 rfl ?_
  refine nr_rcv (ks := [19]) (pre := []) (fun a208 hm => ?_)
  refine nr_doI (st := [.inl x207]) (nk_callV (q := (RX12, TX12, 45)) (ci := 12) (c_X12_hour (G := G) hl0 h206 a208) dL_law_1281 (List.mem_singleton.mp hm) rfl rfl my_X12_hour im_X12_hour se_RX12_X12_hour ml_RL_195 rfl rfl (Nat.le_of_ble_eq_true rfl) (by decide) (by decide)) (fun h209 x210 => ?_)
  refine nr_icmp_eq (tgt := 2879) dL_law_1284 (by decide) (fun _ => ?_) (fun _ => ?_)
  · exact s_L_law_c2879 hl0 hr23 h209 v1 v2 v3 v4
  · refine nr_iconst (v := 0) dL_law_1287 (by decide) ?_
    exact nr_zret rfl rfl dL_law_1288
set_option maxHeartbeats 4000000 in
theorem s_L_law_c1289 {G : nk_G} {l : Launch} (hl0 : l.flags = flags0) {r23 : nk_H → Option Nat → Option Nat → Option Nat → Int32 → Option (nk_H × Int32)} (hr23 : ∀ (h : nk_H)  (v1 : Option Nat) (v2 : Option Nat) (v3 : Option Nat) (v4 : Int32), nk_Sim G l RL cL_law 7 (some FieldType.boolean) 11 260 false nk_eI 23 [(0, .inr (some (nk_gB G))), (1, .inr v1), (2, .inr v2), (3, .inr v3), (4, .inl v4)] [] h (r23 h  v1 v2 v3 v4)) (h : nk_H)  (v1 : Option Nat) (v2 : Option Nat) (v3 : Option Nat) (v4 : Int32)  : nk_Sim G l RL cL_law 7 (some FieldType.boolean) 11 260 false nk_eI 1289 [(0, .inr (some (nk_gB G))), (1, .inr v1), (2, .inr v2), (3, .inr v3), (4, .inl v4)] [] h (f_L_law_c1289 G r23 h v1 v2 v3 v4 ) := by
  unfold f_L_law_c1289
  refine nr_aload_n 1 dL_law_1289 rfl ?_
  refine nr_rcv (ks := [18]) (pre := []) (fun a211 hm => ?_)
  refine nr_doI (st := []) (nk_callV (q := (RX11, TX11, 9)) (ci := 11) (c_X11_news (G := G) hl0 h a211) dL_law_1290 (List.mem_singleton.mp hm) rfl rfl my_X11_news im_X11_news se_RX11_X11_news ml_RL_196 rfl rfl (Nat.le_of_ble_eq_true rfl) (by decide) (by decide)) (fun h212 x213 => ?_)
  refine nr_aload_n 2 dL_law_1293 rfl ?_
  refine nr_rcv (ks := [19]) (pre := []) (fun a214 hm => ?_)
  refine nr_doI (st := [.inl x213]) (nk_callV (q := (RX12, TX12, 45)) (ci := 12) (c_X12_news (G := G) hl0 h212 a214) dL_law_1294 (List.mem_singleton.mp hm) rfl rfl my_X12_news im_X12_news se_RX12_X12_news ml_RL_199 rfl rfl (Nat.le_of_ble_eq_true rfl) (by decide) (by decide)) (fun h215 x216 => ?_)
  refine nr_icmp_eq (tgt := 2879) dL_law_1297 (by decide) (fun _ => ?_) (fun _ => ?_)
  · exact s_L_law_c2879 hl0 hr23 h215 v1 v2 v3 v4
  · refine nr_iconst (v := 0) dL_law_1300 (by decide) ?_
    exact nr_zret rfl rfl dL_law_1301
set_option maxHeartbeats 4000000 in
theorem s_L_law_c1302 {G : nk_G} {l : Launch} (hl0 : l.flags = flags0) {r23 : nk_H → Option Nat → Option Nat → Option Nat → Int32 → Option (nk_H × Int32)} (hr23 : ∀ (h : nk_H)  (v1 : Option Nat) (v2 : Option Nat) (v3 : Option Nat) (v4 : Int32), nk_Sim G l RL cL_law 7 (some FieldType.boolean) 11 260 false nk_eI 23 [(0, .inr (some (nk_gB G))), (1, .inr v1), (2, .inr v2), (3, .inr v3), (4, .inl v4)] [] h (r23 h  v1 v2 v3 v4)) (h : nk_H)  (v1 : Option Nat) (v2 : Option Nat) (v3 : Option Nat) (v4 : Int32)  : nk_Sim G l RL cL_law 7 (some FieldType.boolean) 11 260 false nk_eI 1302 [(0, .inr (some (nk_gB G))), (1, .inr v1), (2, .inr v2), (3, .inr v3), (4, .inl v4)] [] h (f_L_law_c1302 G r23 h v1 v2 v3 v4 ) := by
  unfold f_L_law_c1302
  refine nr_aload_n 1 dL_law_1302 rfl ?_
  refine nr_rcv (ks := [18]) (pre := []) (fun a217 hm => ?_)
  refine nr_doI (st := []) (nk_callV (q := (RX11, TX11, 9)) (ci := 11) (c_X11_powers (G := G) hl0 h a217) dL_law_1303 (List.mem_singleton.mp hm) rfl rfl my_X11_powers im_X11_powers se_RX11_X11_powers ml_RL_200 rfl rfl (Nat.le_of_ble_eq_true rfl) (by decide) (by decide)) (fun h218 x219 => ?_)
  refine nr_aload_n 2 dL_law_1306 rfl ?_
  refine nr_rcv (ks := [19]) (pre := []) (fun a220 hm => ?_)
  refine nr_doI (st := [.inl x219]) (nk_callV (q := (RX12, TX12, 45)) (ci := 12) (c_X12_powers (G := G) hl0 h218 a220) dL_law_1307 (List.mem_singleton.mp hm) rfl rfl my_X12_powers im_X12_powers se_RX12_X12_powers ml_RL_203 rfl rfl (Nat.le_of_ble_eq_true rfl) (by decide) (by decide)) (fun h221 x222 => ?_)
  refine nr_icmp_eq (tgt := 2879) dL_law_1310 (by decide) (fun _ => ?_) (fun _ => ?_)
  · exact s_L_law_c2879 hl0 hr23 h221 v1 v2 v3 v4
  · refine nr_iconst (v := 0) dL_law_1313 (by decide) ?_
    exact nr_zret rfl rfl dL_law_1314
set_option maxHeartbeats 4000000 in
theorem s_L_law_c1368 {G : nk_G} {l : Launch} (hl0 : l.flags = flags0) {r23 : nk_H → Option Nat → Option Nat → Option Nat → Int32 → Option (nk_H × Int32)} (hr23 : ∀ (h : nk_H)  (v1 : Option Nat) (v2 : Option Nat) (v3 : Option Nat) (v4 : Int32), nk_Sim G l RL cL_law 7 (some FieldType.boolean) 11 260 false nk_eI 23 [(0, .inr (some (nk_gB G))), (1, .inr v1), (2, .inr v2), (3, .inr v3), (4, .inl v4)] [] h (r23 h  v1 v2 v3 v4)) (h : nk_H)  (v1 : Option Nat) (v2 : Option Nat) (v3 : Option Nat) (v4 : Int32)  : nk_Sim G l RL cL_law 7 (some FieldType.boolean) 11 260 false nk_eI 1368 [(0, .inr (some (nk_gB G))), (1, .inr v1), (2, .inr v2), (3, .inr v3), (4, .inl v4)] [] h (f_L_law_c1368 G r23 h v1 v2 v3 v4 ) := by
  unfold f_L_law_c1368
  refine nr_goto (tgt := 2879) dL_law_1368 (by decide) ?_
  exact s_L_law_c2879 hl0 hr23 h v1 v2 v3 v4
set_option maxHeartbeats 4000000 in
theorem s_L_law_c1315 {G : nk_G} {l : Launch} (hl0 : l.flags = flags0) {r23 : nk_H → Option Nat → Option Nat → Option Nat → Int32 → Option (nk_H × Int32)} (hr23 : ∀ (h : nk_H)  (v1 : Option Nat) (v2 : Option Nat) (v3 : Option Nat) (v4 : Int32), nk_Sim G l RL cL_law 7 (some FieldType.boolean) 11 260 false nk_eI 23 [(0, .inr (some (nk_gB G))), (1, .inr v1), (2, .inr v2), (3, .inr v3), (4, .inl v4)] [] h (r23 h  v1 v2 v3 v4)) (h : nk_H)  (v1 : Option Nat) (v2 : Option Nat) (v3 : Option Nat) (v4 : Int32)  : nk_Sim G l RL cL_law 7 (some FieldType.boolean) 11 260 false nk_eI 1315 [(0, .inr (some (nk_gB G))), (1, .inr v1), (2, .inr v2), (3, .inr v3), (4, .inl v4)] [] h (f_L_law_c1315 G r23 h v1 v2 v3 v4 ) := by
  unfold f_L_law_c1315
  refine nr_aload_n 1 dL_law_1315 rfl ?_
  refine nr_aload_n 0 dL_law_1316 rfl ?_
  refine nr_iload 4 dL_law_1317 rfl ?_
  refine nr_iconst (v := 1) dL_law_1319 (by decide) ?_
  refine nr_iadd dL_law_1320 ?_
  refine nr_sld dL_law_1321 (fun x223 => ?_)
  refine nr_aload_n 3 dL_law_1322 rfl ?_
  refine nr_doI (st := []) (nk_callSW (c_L_records (G := G) hl0 h v1 x223 v3) dL_law_1323 my_L_records st_L_records ml_RL_204 rfl rfl (Nat.le_of_ble_eq_true rfl) (by decide) (by decide)) (fun h224 x225 => ?_)
  refine nr_istore (lv2 := [(5, .inl x225), (0, .inr (some (nk_gB G))), (1, .inr v1), (2, .inr v2), (3, .inr v3), (4, .inl v4)]) dL_law_1326 (by decide) rfl ?_
  refine nr_aload_n 3 dL_law_1328 rfl ?_
  refine nr_aload_n 1 dL_law_1329 rfl ?_
  refine nr_iload 5 dL_law_1330 rfl ?_
  refine nr_iconst (v := 1) dL_law_1332 (by decide) ?_
  refine nr_iadd dL_law_1333 ?_
  refine nr_sld dL_law_1334 (fun x226 => ?_)
  refine nr_rcv (ks := [19]) (pre := [.inl x226]) (fun a227 hm => ?_)
  refine nr_doI (st := []) (nk_callV (q := (RX12, TX12, 45)) (ci := 12) (c_X12_records (G := G) hl0 h224 a227 x226) dL_law_1335 (List.mem_singleton.mp hm) rfl rfl my_X12_records im_X12_records se_RX12_X12_records ml_RL_206 rfl rfl (Nat.le_of_ble_eq_true rfl) (by decide) (by decide)) (fun h228 x229 => ?_)
  refine nr_istore (lv2 := [(6, .inl x229), (5, .inl x225), (0, .inr (some (nk_gB G))), (1, .inr v1), (2, .inr v2), (3, .inr v3), (4, .inl v4)]) dL_law_1338 (by decide) rfl ?_
  refine nr_aload_n 4 dL_law_1340 rfl ?_
  refine nr_rcv (ks := [19]) (pre := []) (fun a230 hm => ?_)
  refine nr_doI (st := []) (nk_callV (q := (RX12, TX12, 45)) (ci := 12) (c_X12_thrown (G := G) hl0 h228 a230) dL_law_1341 (List.mem_singleton.mp hm) rfl rfl my_X12_thrown im_X12_thrown se_RX12_X12_thrown ml_RL_144 rfl rfl (Nat.le_of_ble_eq_true rfl) (by decide) (by decide)) (fun h231 x232 => ?_)
  refine nr_iload 1 dL_law_1344 rfl ?_
  refine nr_icmp_eq (tgt := 1351) dL_law_1346 (by decide) (fun _ => ?_) (fun _ => ?_)
  · refine nr_iload 1 dL_law_1351 rfl ?_
    refine nr_if_ne (tgt := 1368) dL_law_1353 (by decide) (fun _ => ?_) (fun _ => ?_)
    · refine nr_aload_n 5 dL_law_1356 rfl ?_
      refine nr_iconst (v := 0) dL_law_1357 (by decide) ?_
      refine nr_lcI (j := 0) (tgt := 1368) dL_law_1358 dL_law_1359 rfl dL_law_1361 dL_law_1362 dL_law_1363 (by decide) (fun x233 => ?_) (fun x233 => ?_)
      · exact nk_locals [2, 3, 4, 5, 6] rfl (s_L_law_c1368 hl0 hr23 h231 v1 v2 v3 v4)
      · refine nr_iconst (v := 0) dL_law_1366 (by decide) ?_
        exact nr_zret rfl rfl dL_law_1367
    · exact nk_locals [2, 3, 4, 5, 6] rfl (s_L_law_c1368 hl0 hr23 h231 v1 v2 v3 v4)
  · refine nr_iconst (v := 0) dL_law_1349 (by decide) ?_
    exact nr_zret rfl rfl dL_law_1350
set_option maxHeartbeats 4000000 in
theorem s_L_law_c1443 {G : nk_G} {l : Launch} (hl0 : l.flags = flags0) {r23 : nk_H → Option Nat → Option Nat → Option Nat → Int32 → Option (nk_H × Int32)} (hr23 : ∀ (h : nk_H)  (v1 : Option Nat) (v2 : Option Nat) (v3 : Option Nat) (v4 : Int32), nk_Sim G l RL cL_law 7 (some FieldType.boolean) 11 260 false nk_eI 23 [(0, .inr (some (nk_gB G))), (1, .inr v1), (2, .inr v2), (3, .inr v3), (4, .inl v4)] [] h (r23 h  v1 v2 v3 v4)) (h : nk_H)  (v1 : Option Nat) (v2 : Option Nat) (v3 : Option Nat) (v4 : Int32)  : nk_Sim G l RL cL_law 7 (some FieldType.boolean) 11 260 false nk_eI 1443 [(0, .inr (some (nk_gB G))), (1, .inr v1), (2, .inr v2), (3, .inr v3), (4, .inl v4)] [] h (f_L_law_c1443 G r23 h v1 v2 v3 v4 ) := by
  unfold f_L_law_c1443
  refine nr_goto (tgt := 2879) dL_law_1443 (by decide) ?_
  exact s_L_law_c2879 hl0 hr23 h v1 v2 v3 v4
set_option maxHeartbeats 4000000 in
theorem s_L_law_c1371 {G : nk_G} {l : Launch} (hl0 : l.flags = flags0) {r23 : nk_H → Option Nat → Option Nat → Option Nat → Int32 → Option (nk_H × Int32)} (hr23 : ∀ (h : nk_H)  (v1 : Option Nat) (v2 : Option Nat) (v3 : Option Nat) (v4 : Int32), nk_Sim G l RL cL_law 7 (some FieldType.boolean) 11 260 false nk_eI 23 [(0, .inr (some (nk_gB G))), (1, .inr v1), (2, .inr v2), (3, .inr v3), (4, .inl v4)] [] h (r23 h  v1 v2 v3 v4)) (h : nk_H)  (v1 : Option Nat) (v2 : Option Nat) (v3 : Option Nat) (v4 : Int32)  : nk_Sim G l RL cL_law 7 (some FieldType.boolean) 11 260 false nk_eI 1371 [(0, .inr (some (nk_gB G))), (1, .inr v1), (2, .inr v2), (3, .inr v3), (4, .inl v4)] [] h (f_L_law_c1371 G r23 h v1 v2 v3 v4 ) := by
  unfold f_L_law_c1371
  refine nr_aload_n 1 dL_law_1371 rfl ?_
  refine nr_aload_n 0 dL_law_1372 rfl ?_
  refine nr_iload 4 dL_law_1373 rfl ?_
  refine nr_iconst (v := 1) dL_law_1375 (by decide) ?_
  refine nr_iadd dL_law_1376 ?_
  refine nr_sld dL_law_1377 (fun x234 => ?_)
  refine nr_aload_n 0 dL_law_1378 rfl ?_
  refine nr_iload 4 dL_law_1379 rfl ?_
  refine nr_iconst (v := 2) dL_law_1381 (by decide) ?_
  refine nr_iadd dL_law_1382 ?_
  refine nr_sld dL_law_1383 (fun x235 => ?_)
  refine nr_aload_n 3 dL_law_1384 rfl ?_
  refine nr_doI (st := []) (nk_callSW (c_L_areJoined (G := G) hl0 h v1 x234 x235 v3) dL_law_1385 my_L_areJoined st_L_areJoined ml_RL_207 rfl rfl (Nat.le_of_ble_eq_true rfl) (by decide) (by decide)) (fun h236 x237 => ?_)
  refine nr_istore (lv2 := [(5, .inl x237), (0, .inr (some (nk_gB G))), (1, .inr v1), (2, .inr v2), (3, .inr v3), (4, .inl v4)]) dL_law_1388 (by decide) rfl ?_
  refine nr_aload_n 3 dL_law_1390 rfl ?_
  refine nr_aload_n 1 dL_law_1391 rfl ?_
  refine nr_iload 5 dL_law_1392 rfl ?_
  refine nr_iconst (v := 1) dL_law_1394 (by decide) ?_
  refine nr_iadd dL_law_1395 ?_
  refine nr_sld dL_law_1396 (fun x238 => ?_)
  refine nr_aload_n 1 dL_law_1397 rfl ?_
  refine nr_iload 5 dL_law_1398 rfl ?_
  refine nr_iconst (v := 2) dL_law_1400 (by decide) ?_
  refine nr_iadd dL_law_1401 ?_
  refine nr_sld dL_law_1402 (fun x239 => ?_)
  refine nr_rcv (ks := [19]) (pre := [.inl x239, .inl x238]) (fun a240 hm => ?_)
  refine nr_doI (st := []) (nk_callV (q := (RX12, TX12, 45)) (ci := 12) (c_X12_areJoined (G := G) hl0 h236 a240 x238 x239) dL_law_1403 (List.mem_singleton.mp hm) rfl rfl my_X12_areJoined im_X12_areJoined se_RX12_X12_areJoined ml_RL_209 rfl rfl (Nat.le_of_ble_eq_true rfl) (by decide) (by decide)) (fun h241 x242 => ?_)
  refine nr_istore (lv2 := [(6, .inl x242), (5, .inl x237), (0, .inr (some (nk_gB G))), (1, .inr v1), (2, .inr v2), (3, .inr v3), (4, .inl v4)]) dL_law_1406 (by decide) rfl ?_
  refine nr_aload_n 4 dL_law_1408 rfl ?_
  refine nr_rcv (ks := [19]) (pre := []) (fun a243 hm => ?_)
  refine nr_doI (st := []) (nk_callV (q := (RX12, TX12, 45)) (ci := 12) (c_X12_thrown (G := G) hl0 h241 a243) dL_law_1409 (List.mem_singleton.mp hm) rfl rfl my_X12_thrown im_X12_thrown se_RX12_X12_thrown ml_RL_144 rfl rfl (Nat.le_of_ble_eq_true rfl) (by decide) (by decide)) (fun h244 x245 => ?_)
  refine nr_iload 1 dL_law_1412 rfl ?_
  refine nr_icmp_eq (tgt := 1419) dL_law_1414 (by decide) (fun _ => ?_) (fun _ => ?_)
  · refine nr_iload 1 dL_law_1419 rfl ?_
    refine nr_if_ne (tgt := 1443) dL_law_1421 (by decide) (fun _ => ?_) (fun _ => ?_)
    · refine nr_aload_n 5 dL_law_1424 rfl ?_
      refine nr_iconst (v := 0) dL_law_1425 (by decide) ?_
      refine nr_lcZ (j := 0) (tgt := 1443) dL_law_1426 dL_law_1427 rfl dL_law_1429 (by decide) dL_law_1432 dL_law_1433 (by decide) dL_law_1436 dL_law_1437 dL_law_1438 (by decide) (fun x246 => ?_) (fun x246 => ?_)
      · exact nk_locals [2, 3, 4, 5, 6] rfl (s_L_law_c1443 hl0 hr23 h244 v1 v2 v3 v4)
      · refine nr_iconst (v := 0) dL_law_1441 (by decide) ?_
        exact nr_zret rfl rfl dL_law_1442
    · exact nk_locals [2, 3, 4, 5, 6] rfl (s_L_law_c1443 hl0 hr23 h244 v1 v2 v3 v4)
  · refine nr_iconst (v := 0) dL_law_1417 (by decide) ?_
    exact nr_zret rfl rfl dL_law_1418
set_option maxHeartbeats 4000000 in
theorem s_L_law_c1511 {G : nk_G} {l : Launch} (hl0 : l.flags = flags0) {r23 : nk_H → Option Nat → Option Nat → Option Nat → Int32 → Option (nk_H × Int32)} (hr23 : ∀ (h : nk_H)  (v1 : Option Nat) (v2 : Option Nat) (v3 : Option Nat) (v4 : Int32), nk_Sim G l RL cL_law 7 (some FieldType.boolean) 11 260 false nk_eI 23 [(0, .inr (some (nk_gB G))), (1, .inr v1), (2, .inr v2), (3, .inr v3), (4, .inl v4)] [] h (r23 h  v1 v2 v3 v4)) (h : nk_H)  (v1 : Option Nat) (v2 : Option Nat) (v3 : Option Nat) (v4 : Int32)  : nk_Sim G l RL cL_law 7 (some FieldType.boolean) 11 260 false nk_eI 1511 [(0, .inr (some (nk_gB G))), (1, .inr v1), (2, .inr v2), (3, .inr v3), (4, .inl v4)] [] h (f_L_law_c1511 G r23 h v1 v2 v3 v4 ) := by
  unfold f_L_law_c1511
  refine nr_goto (tgt := 2879) dL_law_1511 (by decide) ?_
  exact s_L_law_c2879 hl0 hr23 h v1 v2 v3 v4
set_option maxHeartbeats 4000000 in
theorem s_L_law_c1446 {G : nk_G} {l : Launch} (hl0 : l.flags = flags0) {r23 : nk_H → Option Nat → Option Nat → Option Nat → Int32 → Option (nk_H × Int32)} (hr23 : ∀ (h : nk_H)  (v1 : Option Nat) (v2 : Option Nat) (v3 : Option Nat) (v4 : Int32), nk_Sim G l RL cL_law 7 (some FieldType.boolean) 11 260 false nk_eI 23 [(0, .inr (some (nk_gB G))), (1, .inr v1), (2, .inr v2), (3, .inr v3), (4, .inl v4)] [] h (r23 h  v1 v2 v3 v4)) (h : nk_H)  (v1 : Option Nat) (v2 : Option Nat) (v3 : Option Nat) (v4 : Int32)  : nk_Sim G l RL cL_law 7 (some FieldType.boolean) 11 260 false nk_eI 1446 [(0, .inr (some (nk_gB G))), (1, .inr v1), (2, .inr v2), (3, .inr v3), (4, .inl v4)] [] h (f_L_law_c1446 G r23 h v1 v2 v3 v4 ) := by
  unfold f_L_law_c1446
  refine nr_aload_n 1 dL_law_1446 rfl ?_
  refine nr_aload_n 0 dL_law_1447 rfl ?_
  refine nr_iload 4 dL_law_1448 rfl ?_
  refine nr_iconst (v := 1) dL_law_1450 (by decide) ?_
  refine nr_iadd dL_law_1451 ?_
  refine nr_sld dL_law_1452 (fun x247 => ?_)
  refine nr_aload_n 0 dL_law_1453 rfl ?_
  refine nr_iload 4 dL_law_1454 rfl ?_
  refine nr_iconst (v := 2) dL_law_1456 (by decide) ?_
  refine nr_iadd dL_law_1457 ?_
  refine nr_sld dL_law_1458 (fun x248 => ?_)
  refine nr_aload_n 3 dL_law_1459 rfl ?_
  refine nr_doI (st := []) (nk_callSW (c_L_came (G := G) hl0 h v1 x247 x248 v3) dL_law_1460 my_L_came st_L_came ml_RL_210 rfl rfl (Nat.le_of_ble_eq_true rfl) (by decide) (by decide)) (fun h249 x250 => ?_)
  refine nr_istore (lv2 := [(5, .inl x250), (0, .inr (some (nk_gB G))), (1, .inr v1), (2, .inr v2), (3, .inr v3), (4, .inl v4)]) dL_law_1463 (by decide) rfl ?_
  refine nr_aload_n 3 dL_law_1465 rfl ?_
  refine nr_aload_n 1 dL_law_1466 rfl ?_
  refine nr_iload 5 dL_law_1467 rfl ?_
  refine nr_iconst (v := 1) dL_law_1469 (by decide) ?_
  refine nr_iadd dL_law_1470 ?_
  refine nr_sld dL_law_1471 (fun x251 => ?_)
  refine nr_aload_n 1 dL_law_1472 rfl ?_
  refine nr_iload 5 dL_law_1473 rfl ?_
  refine nr_iconst (v := 2) dL_law_1475 (by decide) ?_
  refine nr_iadd dL_law_1476 ?_
  refine nr_sld dL_law_1477 (fun x252 => ?_)
  refine nr_rcv (ks := [19]) (pre := [.inl x252, .inl x251]) (fun a253 hm => ?_)
  refine nr_doI (st := []) (nk_callV (q := (RX12, TX12, 45)) (ci := 12) (c_X12_came (G := G) hl0 h249 a253 x251 x252) dL_law_1478 (List.mem_singleton.mp hm) rfl rfl my_X12_came im_X12_came se_RX12_X12_came ml_RL_212 rfl rfl (Nat.le_of_ble_eq_true rfl) (by decide) (by decide)) (fun h254 x255 => ?_)
  refine nr_istore (lv2 := [(6, .inl x255), (5, .inl x250), (0, .inr (some (nk_gB G))), (1, .inr v1), (2, .inr v2), (3, .inr v3), (4, .inl v4)]) dL_law_1481 (by decide) rfl ?_
  refine nr_aload_n 4 dL_law_1483 rfl ?_
  refine nr_rcv (ks := [19]) (pre := []) (fun a256 hm => ?_)
  refine nr_doI (st := []) (nk_callV (q := (RX12, TX12, 45)) (ci := 12) (c_X12_thrown (G := G) hl0 h254 a256) dL_law_1484 (List.mem_singleton.mp hm) rfl rfl my_X12_thrown im_X12_thrown se_RX12_X12_thrown ml_RL_144 rfl rfl (Nat.le_of_ble_eq_true rfl) (by decide) (by decide)) (fun h257 x258 => ?_)
  refine nr_iload 1 dL_law_1487 rfl ?_
  refine nr_icmp_eq (tgt := 1494) dL_law_1489 (by decide) (fun _ => ?_) (fun _ => ?_)
  · refine nr_iload 1 dL_law_1494 rfl ?_
    refine nr_if_ne (tgt := 1511) dL_law_1496 (by decide) (fun _ => ?_) (fun _ => ?_)
    · refine nr_aload_n 5 dL_law_1499 rfl ?_
      refine nr_iconst (v := 0) dL_law_1500 (by decide) ?_
      refine nr_lcI (j := 0) (tgt := 1511) dL_law_1501 dL_law_1502 rfl dL_law_1504 dL_law_1505 dL_law_1506 (by decide) (fun x259 => ?_) (fun x259 => ?_)
      · exact nk_locals [2, 3, 4, 5, 6] rfl (s_L_law_c1511 hl0 hr23 h257 v1 v2 v3 v4)
      · refine nr_iconst (v := 0) dL_law_1509 (by decide) ?_
        exact nr_zret rfl rfl dL_law_1510
    · exact nk_locals [2, 3, 4, 5, 6] rfl (s_L_law_c1511 hl0 hr23 h257 v1 v2 v3 v4)
  · refine nr_iconst (v := 0) dL_law_1492 (by decide) ?_
    exact nr_zret rfl rfl dL_law_1493
set_option maxHeartbeats 4000000 in
theorem s_L_law_c1579 {G : nk_G} {l : Launch} (hl0 : l.flags = flags0) {r23 : nk_H → Option Nat → Option Nat → Option Nat → Int32 → Option (nk_H × Int32)} (hr23 : ∀ (h : nk_H)  (v1 : Option Nat) (v2 : Option Nat) (v3 : Option Nat) (v4 : Int32), nk_Sim G l RL cL_law 7 (some FieldType.boolean) 11 260 false nk_eI 23 [(0, .inr (some (nk_gB G))), (1, .inr v1), (2, .inr v2), (3, .inr v3), (4, .inl v4)] [] h (r23 h  v1 v2 v3 v4)) (h : nk_H)  (v1 : Option Nat) (v2 : Option Nat) (v3 : Option Nat) (v4 : Int32)  : nk_Sim G l RL cL_law 7 (some FieldType.boolean) 11 260 false nk_eI 1579 [(0, .inr (some (nk_gB G))), (1, .inr v1), (2, .inr v2), (3, .inr v3), (4, .inl v4)] [] h (f_L_law_c1579 G r23 h v1 v2 v3 v4 ) := by
  unfold f_L_law_c1579
  refine nr_goto (tgt := 2879) dL_law_1579 (by decide) ?_
  exact s_L_law_c2879 hl0 hr23 h v1 v2 v3 v4
set_option maxHeartbeats 4000000 in
theorem s_L_law_c1514 {G : nk_G} {l : Launch} (hl0 : l.flags = flags0) {r23 : nk_H → Option Nat → Option Nat → Option Nat → Int32 → Option (nk_H × Int32)} (hr23 : ∀ (h : nk_H)  (v1 : Option Nat) (v2 : Option Nat) (v3 : Option Nat) (v4 : Int32), nk_Sim G l RL cL_law 7 (some FieldType.boolean) 11 260 false nk_eI 23 [(0, .inr (some (nk_gB G))), (1, .inr v1), (2, .inr v2), (3, .inr v3), (4, .inl v4)] [] h (r23 h  v1 v2 v3 v4)) (h : nk_H)  (v1 : Option Nat) (v2 : Option Nat) (v3 : Option Nat) (v4 : Int32)  : nk_Sim G l RL cL_law 7 (some FieldType.boolean) 11 260 false nk_eI 1514 [(0, .inr (some (nk_gB G))), (1, .inr v1), (2, .inr v2), (3, .inr v3), (4, .inl v4)] [] h (f_L_law_c1514 G r23 h v1 v2 v3 v4 ) := by
  unfold f_L_law_c1514
  refine nr_aload_n 1 dL_law_1514 rfl ?_
  refine nr_aload_n 0 dL_law_1515 rfl ?_
  refine nr_iload 4 dL_law_1516 rfl ?_
  refine nr_iconst (v := 1) dL_law_1518 (by decide) ?_
  refine nr_iadd dL_law_1519 ?_
  refine nr_sld dL_law_1520 (fun x260 => ?_)
  refine nr_aload_n 0 dL_law_1521 rfl ?_
  refine nr_iload 4 dL_law_1522 rfl ?_
  refine nr_iconst (v := 2) dL_law_1524 (by decide) ?_
  refine nr_iadd dL_law_1525 ?_
  refine nr_sld dL_law_1526 (fun x261 => ?_)
  refine nr_aload_n 3 dL_law_1527 rfl ?_
  refine nr_doI (st := []) (nk_callSW (c_L_cameByLinks (G := G) hl0 h v1 x260 x261 v3) dL_law_1528 my_L_cameByLinks st_L_cameByLinks ml_RL_213 rfl rfl (Nat.le_of_ble_eq_true rfl) (by decide) (by decide)) (fun h262 x263 => ?_)
  refine nr_istore (lv2 := [(5, .inl x263), (0, .inr (some (nk_gB G))), (1, .inr v1), (2, .inr v2), (3, .inr v3), (4, .inl v4)]) dL_law_1531 (by decide) rfl ?_
  refine nr_aload_n 3 dL_law_1533 rfl ?_
  refine nr_aload_n 1 dL_law_1534 rfl ?_
  refine nr_iload 5 dL_law_1535 rfl ?_
  refine nr_iconst (v := 1) dL_law_1537 (by decide) ?_
  refine nr_iadd dL_law_1538 ?_
  refine nr_sld dL_law_1539 (fun x264 => ?_)
  refine nr_aload_n 1 dL_law_1540 rfl ?_
  refine nr_iload 5 dL_law_1541 rfl ?_
  refine nr_iconst (v := 2) dL_law_1543 (by decide) ?_
  refine nr_iadd dL_law_1544 ?_
  refine nr_sld dL_law_1545 (fun x265 => ?_)
  refine nr_rcv (ks := [19]) (pre := [.inl x265, .inl x264]) (fun a266 hm => ?_)
  refine nr_doI (st := []) (nk_callV (q := (RX12, TX12, 45)) (ci := 12) (c_X12_cameByLinks (G := G) hl0 h262 a266 x264 x265) dL_law_1546 (List.mem_singleton.mp hm) rfl rfl my_X12_cameByLinks im_X12_cameByLinks se_RX12_X12_cameByLinks ml_RL_215 rfl rfl (Nat.le_of_ble_eq_true rfl) (by decide) (by decide)) (fun h267 x268 => ?_)
  refine nr_istore (lv2 := [(6, .inl x268), (5, .inl x263), (0, .inr (some (nk_gB G))), (1, .inr v1), (2, .inr v2), (3, .inr v3), (4, .inl v4)]) dL_law_1549 (by decide) rfl ?_
  refine nr_aload_n 4 dL_law_1551 rfl ?_
  refine nr_rcv (ks := [19]) (pre := []) (fun a269 hm => ?_)
  refine nr_doI (st := []) (nk_callV (q := (RX12, TX12, 45)) (ci := 12) (c_X12_thrown (G := G) hl0 h267 a269) dL_law_1552 (List.mem_singleton.mp hm) rfl rfl my_X12_thrown im_X12_thrown se_RX12_X12_thrown ml_RL_144 rfl rfl (Nat.le_of_ble_eq_true rfl) (by decide) (by decide)) (fun h270 x271 => ?_)
  refine nr_iload 1 dL_law_1555 rfl ?_
  refine nr_icmp_eq (tgt := 1562) dL_law_1557 (by decide) (fun _ => ?_) (fun _ => ?_)
  · refine nr_iload 1 dL_law_1562 rfl ?_
    refine nr_if_ne (tgt := 1579) dL_law_1564 (by decide) (fun _ => ?_) (fun _ => ?_)
    · refine nr_aload_n 5 dL_law_1567 rfl ?_
      refine nr_iconst (v := 0) dL_law_1568 (by decide) ?_
      refine nr_lcI (j := 0) (tgt := 1579) dL_law_1569 dL_law_1570 rfl dL_law_1572 dL_law_1573 dL_law_1574 (by decide) (fun x272 => ?_) (fun x272 => ?_)
      · exact nk_locals [2, 3, 4, 5, 6] rfl (s_L_law_c1579 hl0 hr23 h270 v1 v2 v3 v4)
      · refine nr_iconst (v := 0) dL_law_1577 (by decide) ?_
        exact nr_zret rfl rfl dL_law_1578
    · exact nk_locals [2, 3, 4, 5, 6] rfl (s_L_law_c1579 hl0 hr23 h270 v1 v2 v3 v4)
  · refine nr_iconst (v := 0) dL_law_1560 (by decide) ?_
    exact nr_zret rfl rfl dL_law_1561
set_option maxHeartbeats 4000000 in
theorem s_L_law_c1654 {G : nk_G} {l : Launch} (hl0 : l.flags = flags0) {r23 : nk_H → Option Nat → Option Nat → Option Nat → Int32 → Option (nk_H × Int32)} (hr23 : ∀ (h : nk_H)  (v1 : Option Nat) (v2 : Option Nat) (v3 : Option Nat) (v4 : Int32), nk_Sim G l RL cL_law 7 (some FieldType.boolean) 11 260 false nk_eI 23 [(0, .inr (some (nk_gB G))), (1, .inr v1), (2, .inr v2), (3, .inr v3), (4, .inl v4)] [] h (r23 h  v1 v2 v3 v4)) (h : nk_H)  (v1 : Option Nat) (v2 : Option Nat) (v3 : Option Nat) (v4 : Int32)  : nk_Sim G l RL cL_law 7 (some FieldType.boolean) 11 260 false nk_eI 1654 [(0, .inr (some (nk_gB G))), (1, .inr v1), (2, .inr v2), (3, .inr v3), (4, .inl v4)] [] h (f_L_law_c1654 G r23 h v1 v2 v3 v4 ) := by
  unfold f_L_law_c1654
  refine nr_goto (tgt := 2879) dL_law_1654 (by decide) ?_
  exact s_L_law_c2879 hl0 hr23 h v1 v2 v3 v4
set_option maxHeartbeats 4000000 in
theorem s_L_law_c1582 {G : nk_G} {l : Launch} (hl0 : l.flags = flags0) {r23 : nk_H → Option Nat → Option Nat → Option Nat → Int32 → Option (nk_H × Int32)} (hr23 : ∀ (h : nk_H)  (v1 : Option Nat) (v2 : Option Nat) (v3 : Option Nat) (v4 : Int32), nk_Sim G l RL cL_law 7 (some FieldType.boolean) 11 260 false nk_eI 23 [(0, .inr (some (nk_gB G))), (1, .inr v1), (2, .inr v2), (3, .inr v3), (4, .inl v4)] [] h (r23 h  v1 v2 v3 v4)) (h : nk_H)  (v1 : Option Nat) (v2 : Option Nat) (v3 : Option Nat) (v4 : Int32)  : nk_Sim G l RL cL_law 7 (some FieldType.boolean) 11 260 false nk_eI 1582 [(0, .inr (some (nk_gB G))), (1, .inr v1), (2, .inr v2), (3, .inr v3), (4, .inl v4)] [] h (f_L_law_c1582 G r23 h v1 v2 v3 v4 ) := by
  unfold f_L_law_c1582
  refine nr_aload_n 1 dL_law_1582 rfl ?_
  refine nr_aload_n 0 dL_law_1583 rfl ?_
  refine nr_iload 4 dL_law_1584 rfl ?_
  refine nr_iconst (v := 1) dL_law_1586 (by decide) ?_
  refine nr_iadd dL_law_1587 ?_
  refine nr_sld dL_law_1588 (fun x273 => ?_)
  refine nr_aload_n 0 dL_law_1589 rfl ?_
  refine nr_iload 4 dL_law_1590 rfl ?_
  refine nr_iconst (v := 2) dL_law_1592 (by decide) ?_
  refine nr_iadd dL_law_1593 ?_
  refine nr_sld dL_law_1594 (fun x274 => ?_)
  refine nr_aload_n 3 dL_law_1595 rfl ?_
  refine nr_doI (st := []) (nk_callSW (c_L_isRead (G := G) hl0 h v1 x273 x274 v3) dL_law_1596 my_L_isRead st_L_isRead ml_RL_216 rfl rfl (Nat.le_of_ble_eq_true rfl) (by decide) (by decide)) (fun h275 x276 => ?_)
  refine nr_istore (lv2 := [(5, .inl x276), (0, .inr (some (nk_gB G))), (1, .inr v1), (2, .inr v2), (3, .inr v3), (4, .inl v4)]) dL_law_1599 (by decide) rfl ?_
  refine nr_aload_n 3 dL_law_1601 rfl ?_
  refine nr_aload_n 1 dL_law_1602 rfl ?_
  refine nr_iload 5 dL_law_1603 rfl ?_
  refine nr_iconst (v := 1) dL_law_1605 (by decide) ?_
  refine nr_iadd dL_law_1606 ?_
  refine nr_sld dL_law_1607 (fun x277 => ?_)
  refine nr_aload_n 1 dL_law_1608 rfl ?_
  refine nr_iload 5 dL_law_1609 rfl ?_
  refine nr_iconst (v := 2) dL_law_1611 (by decide) ?_
  refine nr_iadd dL_law_1612 ?_
  refine nr_sld dL_law_1613 (fun x278 => ?_)
  refine nr_rcv (ks := [19]) (pre := [.inl x278, .inl x277]) (fun a279 hm => ?_)
  refine nr_doI (st := []) (nk_callV (q := (RX12, TX12, 45)) (ci := 12) (c_X12_isRead (G := G) hl0 h275 a279 x277 x278) dL_law_1614 (List.mem_singleton.mp hm) rfl rfl my_X12_isRead im_X12_isRead se_RX12_X12_isRead ml_RL_218 rfl rfl (Nat.le_of_ble_eq_true rfl) (by decide) (by decide)) (fun h280 x281 => ?_)
  refine nr_istore (lv2 := [(6, .inl x281), (5, .inl x276), (0, .inr (some (nk_gB G))), (1, .inr v1), (2, .inr v2), (3, .inr v3), (4, .inl v4)]) dL_law_1617 (by decide) rfl ?_
  refine nr_aload_n 4 dL_law_1619 rfl ?_
  refine nr_rcv (ks := [19]) (pre := []) (fun a282 hm => ?_)
  refine nr_doI (st := []) (nk_callV (q := (RX12, TX12, 45)) (ci := 12) (c_X12_thrown (G := G) hl0 h280 a282) dL_law_1620 (List.mem_singleton.mp hm) rfl rfl my_X12_thrown im_X12_thrown se_RX12_X12_thrown ml_RL_144 rfl rfl (Nat.le_of_ble_eq_true rfl) (by decide) (by decide)) (fun h283 x284 => ?_)
  refine nr_iload 1 dL_law_1623 rfl ?_
  refine nr_icmp_eq (tgt := 1630) dL_law_1625 (by decide) (fun _ => ?_) (fun _ => ?_)
  · refine nr_iload 1 dL_law_1630 rfl ?_
    refine nr_if_ne (tgt := 1654) dL_law_1632 (by decide) (fun _ => ?_) (fun _ => ?_)
    · refine nr_aload_n 5 dL_law_1635 rfl ?_
      refine nr_iconst (v := 0) dL_law_1636 (by decide) ?_
      refine nr_lcZ (j := 0) (tgt := 1654) dL_law_1637 dL_law_1638 rfl dL_law_1640 (by decide) dL_law_1643 dL_law_1644 (by decide) dL_law_1647 dL_law_1648 dL_law_1649 (by decide) (fun x285 => ?_) (fun x285 => ?_)
      · exact nk_locals [2, 3, 4, 5, 6] rfl (s_L_law_c1654 hl0 hr23 h283 v1 v2 v3 v4)
      · refine nr_iconst (v := 0) dL_law_1652 (by decide) ?_
        exact nr_zret rfl rfl dL_law_1653
    · exact nk_locals [2, 3, 4, 5, 6] rfl (s_L_law_c1654 hl0 hr23 h283 v1 v2 v3 v4)
  · refine nr_iconst (v := 0) dL_law_1628 (by decide) ?_
    exact nr_zret rfl rfl dL_law_1629
set_option maxHeartbeats 4000000 in
theorem s_L_law_c1710 {G : nk_G} {l : Launch} (hl0 : l.flags = flags0) {r23 : nk_H → Option Nat → Option Nat → Option Nat → Int32 → Option (nk_H × Int32)} (hr23 : ∀ (h : nk_H)  (v1 : Option Nat) (v2 : Option Nat) (v3 : Option Nat) (v4 : Int32), nk_Sim G l RL cL_law 7 (some FieldType.boolean) 11 260 false nk_eI 23 [(0, .inr (some (nk_gB G))), (1, .inr v1), (2, .inr v2), (3, .inr v3), (4, .inl v4)] [] h (r23 h  v1 v2 v3 v4)) (h : nk_H)  (v1 : Option Nat) (v2 : Option Nat) (v3 : Option Nat) (v4 : Int32)  : nk_Sim G l RL cL_law 7 (some FieldType.boolean) 11 260 false nk_eI 1710 [(0, .inr (some (nk_gB G))), (1, .inr v1), (2, .inr v2), (3, .inr v3), (4, .inl v4)] [] h (f_L_law_c1710 G r23 h v1 v2 v3 v4 ) := by
  unfold f_L_law_c1710
  refine nr_goto (tgt := 2879) dL_law_1710 (by decide) ?_
  exact s_L_law_c2879 hl0 hr23 h v1 v2 v3 v4
set_option maxHeartbeats 4000000 in
theorem s_L_law_c1657 {G : nk_G} {l : Launch} (hl0 : l.flags = flags0) {r23 : nk_H → Option Nat → Option Nat → Option Nat → Int32 → Option (nk_H × Int32)} (hr23 : ∀ (h : nk_H)  (v1 : Option Nat) (v2 : Option Nat) (v3 : Option Nat) (v4 : Int32), nk_Sim G l RL cL_law 7 (some FieldType.boolean) 11 260 false nk_eI 23 [(0, .inr (some (nk_gB G))), (1, .inr v1), (2, .inr v2), (3, .inr v3), (4, .inl v4)] [] h (r23 h  v1 v2 v3 v4)) (h : nk_H)  (v1 : Option Nat) (v2 : Option Nat) (v3 : Option Nat) (v4 : Int32)  : nk_Sim G l RL cL_law 7 (some FieldType.boolean) 11 260 false nk_eI 1657 [(0, .inr (some (nk_gB G))), (1, .inr v1), (2, .inr v2), (3, .inr v3), (4, .inl v4)] [] h (f_L_law_c1657 G r23 h v1 v2 v3 v4 ) := by
  unfold f_L_law_c1657
  refine nr_aload_n 1 dL_law_1657 rfl ?_
  refine nr_aload_n 0 dL_law_1658 rfl ?_
  refine nr_iload 4 dL_law_1659 rfl ?_
  refine nr_iconst (v := 1) dL_law_1661 (by decide) ?_
  refine nr_iadd dL_law_1662 ?_
  refine nr_sld dL_law_1663 (fun x286 => ?_)
  refine nr_aload_n 3 dL_law_1664 rfl ?_
  refine nr_doI (st := []) (nk_callSW (c_L_mail (G := G) hl0 h v1 x286 v3) dL_law_1665 my_L_mail st_L_mail ml_RL_219 rfl rfl (Nat.le_of_ble_eq_true rfl) (by decide) (by decide)) (fun h287 x288 => ?_)
  refine nr_istore (lv2 := [(5, .inl x288), (0, .inr (some (nk_gB G))), (1, .inr v1), (2, .inr v2), (3, .inr v3), (4, .inl v4)]) dL_law_1668 (by decide) rfl ?_
  refine nr_aload_n 3 dL_law_1670 rfl ?_
  refine nr_aload_n 1 dL_law_1671 rfl ?_
  refine nr_iload 5 dL_law_1672 rfl ?_
  refine nr_iconst (v := 1) dL_law_1674 (by decide) ?_
  refine nr_iadd dL_law_1675 ?_
  refine nr_sld dL_law_1676 (fun x289 => ?_)
  refine nr_rcv (ks := [19]) (pre := [.inl x289]) (fun a290 hm => ?_)
  refine nr_doI (st := []) (nk_callV (q := (RX12, TX12, 45)) (ci := 12) (c_X12_mail (G := G) hl0 h287 a290 x289) dL_law_1677 (List.mem_singleton.mp hm) rfl rfl my_X12_mail im_X12_mail se_RX12_X12_mail ml_RL_221 rfl rfl (Nat.le_of_ble_eq_true rfl) (by decide) (by decide)) (fun h291 x292 => ?_)
  refine nr_istore (lv2 := [(6, .inl x292), (5, .inl x288), (0, .inr (some (nk_gB G))), (1, .inr v1), (2, .inr v2), (3, .inr v3), (4, .inl v4)]) dL_law_1680 (by decide) rfl ?_
  refine nr_aload_n 4 dL_law_1682 rfl ?_
  refine nr_rcv (ks := [19]) (pre := []) (fun a293 hm => ?_)
  refine nr_doI (st := []) (nk_callV (q := (RX12, TX12, 45)) (ci := 12) (c_X12_thrown (G := G) hl0 h291 a293) dL_law_1683 (List.mem_singleton.mp hm) rfl rfl my_X12_thrown im_X12_thrown se_RX12_X12_thrown ml_RL_144 rfl rfl (Nat.le_of_ble_eq_true rfl) (by decide) (by decide)) (fun h294 x295 => ?_)
  refine nr_iload 1 dL_law_1686 rfl ?_
  refine nr_icmp_eq (tgt := 1693) dL_law_1688 (by decide) (fun _ => ?_) (fun _ => ?_)
  · refine nr_iload 1 dL_law_1693 rfl ?_
    refine nr_if_ne (tgt := 1710) dL_law_1695 (by decide) (fun _ => ?_) (fun _ => ?_)
    · refine nr_aload_n 5 dL_law_1698 rfl ?_
      refine nr_iconst (v := 0) dL_law_1699 (by decide) ?_
      refine nr_lcI (j := 0) (tgt := 1710) dL_law_1700 dL_law_1701 rfl dL_law_1703 dL_law_1704 dL_law_1705 (by decide) (fun x296 => ?_) (fun x296 => ?_)
      · exact nk_locals [2, 3, 4, 5, 6] rfl (s_L_law_c1710 hl0 hr23 h294 v1 v2 v3 v4)
      · refine nr_iconst (v := 0) dL_law_1708 (by decide) ?_
        exact nr_zret rfl rfl dL_law_1709
    · exact nk_locals [2, 3, 4, 5, 6] rfl (s_L_law_c1710 hl0 hr23 h294 v1 v2 v3 v4)
  · refine nr_iconst (v := 0) dL_law_1691 (by decide) ?_
    exact nr_zret rfl rfl dL_law_1692
set_option maxHeartbeats 4000000 in
theorem s_L_law_c1766 {G : nk_G} {l : Launch} (hl0 : l.flags = flags0) {r23 : nk_H → Option Nat → Option Nat → Option Nat → Int32 → Option (nk_H × Int32)} (hr23 : ∀ (h : nk_H)  (v1 : Option Nat) (v2 : Option Nat) (v3 : Option Nat) (v4 : Int32), nk_Sim G l RL cL_law 7 (some FieldType.boolean) 11 260 false nk_eI 23 [(0, .inr (some (nk_gB G))), (1, .inr v1), (2, .inr v2), (3, .inr v3), (4, .inl v4)] [] h (r23 h  v1 v2 v3 v4)) (h : nk_H)  (v1 : Option Nat) (v2 : Option Nat) (v3 : Option Nat) (v4 : Int32)  : nk_Sim G l RL cL_law 7 (some FieldType.boolean) 11 260 false nk_eI 1766 [(0, .inr (some (nk_gB G))), (1, .inr v1), (2, .inr v2), (3, .inr v3), (4, .inl v4)] [] h (f_L_law_c1766 G r23 h v1 v2 v3 v4 ) := by
  unfold f_L_law_c1766
  refine nr_goto (tgt := 2879) dL_law_1766 (by decide) ?_
  exact s_L_law_c2879 hl0 hr23 h v1 v2 v3 v4
set_option maxHeartbeats 4000000 in
theorem s_L_law_c1713 {G : nk_G} {l : Launch} (hl0 : l.flags = flags0) {r23 : nk_H → Option Nat → Option Nat → Option Nat → Int32 → Option (nk_H × Int32)} (hr23 : ∀ (h : nk_H)  (v1 : Option Nat) (v2 : Option Nat) (v3 : Option Nat) (v4 : Int32), nk_Sim G l RL cL_law 7 (some FieldType.boolean) 11 260 false nk_eI 23 [(0, .inr (some (nk_gB G))), (1, .inr v1), (2, .inr v2), (3, .inr v3), (4, .inl v4)] [] h (r23 h  v1 v2 v3 v4)) (h : nk_H)  (v1 : Option Nat) (v2 : Option Nat) (v3 : Option Nat) (v4 : Int32)  : nk_Sim G l RL cL_law 7 (some FieldType.boolean) 11 260 false nk_eI 1713 [(0, .inr (some (nk_gB G))), (1, .inr v1), (2, .inr v2), (3, .inr v3), (4, .inl v4)] [] h (f_L_law_c1713 G r23 h v1 v2 v3 v4 ) := by
  unfold f_L_law_c1713
  refine nr_aload_n 1 dL_law_1713 rfl ?_
  refine nr_aload_n 0 dL_law_1714 rfl ?_
  refine nr_iload 4 dL_law_1715 rfl ?_
  refine nr_iconst (v := 1) dL_law_1717 (by decide) ?_
  refine nr_iadd dL_law_1718 ?_
  refine nr_sld dL_law_1719 (fun x297 => ?_)
  refine nr_aload_n 3 dL_law_1720 rfl ?_
  refine nr_doI (st := []) (nk_callSW (c_L_source (G := G) hl0 h v1 x297 v3) dL_law_1721 my_L_source st_L_source ml_RL_222 rfl rfl (Nat.le_of_ble_eq_true rfl) (by decide) (by decide)) (fun h298 x299 => ?_)
  refine nr_istore (lv2 := [(5, .inl x299), (0, .inr (some (nk_gB G))), (1, .inr v1), (2, .inr v2), (3, .inr v3), (4, .inl v4)]) dL_law_1724 (by decide) rfl ?_
  refine nr_aload_n 3 dL_law_1726 rfl ?_
  refine nr_aload_n 1 dL_law_1727 rfl ?_
  refine nr_iload 5 dL_law_1728 rfl ?_
  refine nr_iconst (v := 1) dL_law_1730 (by decide) ?_
  refine nr_iadd dL_law_1731 ?_
  refine nr_sld dL_law_1732 (fun x300 => ?_)
  refine nr_rcv (ks := [19]) (pre := [.inl x300]) (fun a301 hm => ?_)
  refine nr_doI (st := []) (nk_callV (q := (RX12, TX12, 45)) (ci := 12) (c_X12_source (G := G) hl0 h298 a301 x300) dL_law_1733 (List.mem_singleton.mp hm) rfl rfl my_X12_source im_X12_source se_RX12_X12_source ml_RL_224 rfl rfl (Nat.le_of_ble_eq_true rfl) (by decide) (by decide)) (fun h302 x303 => ?_)
  refine nr_istore (lv2 := [(6, .inl x303), (5, .inl x299), (0, .inr (some (nk_gB G))), (1, .inr v1), (2, .inr v2), (3, .inr v3), (4, .inl v4)]) dL_law_1736 (by decide) rfl ?_
  refine nr_aload_n 4 dL_law_1738 rfl ?_
  refine nr_rcv (ks := [19]) (pre := []) (fun a304 hm => ?_)
  refine nr_doI (st := []) (nk_callV (q := (RX12, TX12, 45)) (ci := 12) (c_X12_thrown (G := G) hl0 h302 a304) dL_law_1739 (List.mem_singleton.mp hm) rfl rfl my_X12_thrown im_X12_thrown se_RX12_X12_thrown ml_RL_144 rfl rfl (Nat.le_of_ble_eq_true rfl) (by decide) (by decide)) (fun h305 x306 => ?_)
  refine nr_iload 1 dL_law_1742 rfl ?_
  refine nr_icmp_eq (tgt := 1749) dL_law_1744 (by decide) (fun _ => ?_) (fun _ => ?_)
  · refine nr_iload 1 dL_law_1749 rfl ?_
    refine nr_if_ne (tgt := 1766) dL_law_1751 (by decide) (fun _ => ?_) (fun _ => ?_)
    · refine nr_aload_n 5 dL_law_1754 rfl ?_
      refine nr_iconst (v := 0) dL_law_1755 (by decide) ?_
      refine nr_lcI (j := 0) (tgt := 1766) dL_law_1756 dL_law_1757 rfl dL_law_1759 dL_law_1760 dL_law_1761 (by decide) (fun x307 => ?_) (fun x307 => ?_)
      · exact nk_locals [2, 3, 4, 5, 6] rfl (s_L_law_c1766 hl0 hr23 h305 v1 v2 v3 v4)
      · refine nr_iconst (v := 0) dL_law_1764 (by decide) ?_
        exact nr_zret rfl rfl dL_law_1765
    · exact nk_locals [2, 3, 4, 5, 6] rfl (s_L_law_c1766 hl0 hr23 h305 v1 v2 v3 v4)
  · refine nr_iconst (v := 0) dL_law_1747 (by decide) ?_
    exact nr_zret rfl rfl dL_law_1748
set_option maxHeartbeats 4000000 in
theorem s_L_law_c1822 {G : nk_G} {l : Launch} (hl0 : l.flags = flags0) {r23 : nk_H → Option Nat → Option Nat → Option Nat → Int32 → Option (nk_H × Int32)} (hr23 : ∀ (h : nk_H)  (v1 : Option Nat) (v2 : Option Nat) (v3 : Option Nat) (v4 : Int32), nk_Sim G l RL cL_law 7 (some FieldType.boolean) 11 260 false nk_eI 23 [(0, .inr (some (nk_gB G))), (1, .inr v1), (2, .inr v2), (3, .inr v3), (4, .inl v4)] [] h (r23 h  v1 v2 v3 v4)) (h : nk_H)  (v1 : Option Nat) (v2 : Option Nat) (v3 : Option Nat) (v4 : Int32)  : nk_Sim G l RL cL_law 7 (some FieldType.boolean) 11 260 false nk_eI 1822 [(0, .inr (some (nk_gB G))), (1, .inr v1), (2, .inr v2), (3, .inr v3), (4, .inl v4)] [] h (f_L_law_c1822 G r23 h v1 v2 v3 v4 ) := by
  unfold f_L_law_c1822
  refine nr_goto (tgt := 2879) dL_law_1822 (by decide) ?_
  exact s_L_law_c2879 hl0 hr23 h v1 v2 v3 v4
set_option maxHeartbeats 4000000 in
theorem s_L_law_c1769 {G : nk_G} {l : Launch} (hl0 : l.flags = flags0) {r23 : nk_H → Option Nat → Option Nat → Option Nat → Int32 → Option (nk_H × Int32)} (hr23 : ∀ (h : nk_H)  (v1 : Option Nat) (v2 : Option Nat) (v3 : Option Nat) (v4 : Int32), nk_Sim G l RL cL_law 7 (some FieldType.boolean) 11 260 false nk_eI 23 [(0, .inr (some (nk_gB G))), (1, .inr v1), (2, .inr v2), (3, .inr v3), (4, .inl v4)] [] h (r23 h  v1 v2 v3 v4)) (h : nk_H)  (v1 : Option Nat) (v2 : Option Nat) (v3 : Option Nat) (v4 : Int32)  : nk_Sim G l RL cL_law 7 (some FieldType.boolean) 11 260 false nk_eI 1769 [(0, .inr (some (nk_gB G))), (1, .inr v1), (2, .inr v2), (3, .inr v3), (4, .inl v4)] [] h (f_L_law_c1769 G r23 h v1 v2 v3 v4 ) := by
  unfold f_L_law_c1769
  refine nr_aload_n 1 dL_law_1769 rfl ?_
  refine nr_aload_n 0 dL_law_1770 rfl ?_
  refine nr_iload 4 dL_law_1771 rfl ?_
  refine nr_iconst (v := 1) dL_law_1773 (by decide) ?_
  refine nr_iadd dL_law_1774 ?_
  refine nr_sld dL_law_1775 (fun x308 => ?_)
  refine nr_aload_n 3 dL_law_1776 rfl ?_
  refine nr_doI (st := []) (nk_callSW (c_L_holder (G := G) hl0 h v1 x308 v3) dL_law_1777 my_L_holder st_L_holder ml_RL_225 rfl rfl (Nat.le_of_ble_eq_true rfl) (by decide) (by decide)) (fun h309 x310 => ?_)
  refine nr_istore (lv2 := [(5, .inl x310), (0, .inr (some (nk_gB G))), (1, .inr v1), (2, .inr v2), (3, .inr v3), (4, .inl v4)]) dL_law_1780 (by decide) rfl ?_
  refine nr_aload_n 3 dL_law_1782 rfl ?_
  refine nr_aload_n 1 dL_law_1783 rfl ?_
  refine nr_iload 5 dL_law_1784 rfl ?_
  refine nr_iconst (v := 1) dL_law_1786 (by decide) ?_
  refine nr_iadd dL_law_1787 ?_
  refine nr_sld dL_law_1788 (fun x311 => ?_)
  refine nr_rcv (ks := [19]) (pre := [.inl x311]) (fun a312 hm => ?_)
  refine nr_doI (st := []) (nk_callV (q := (RX12, TX12, 45)) (ci := 12) (c_X12_holder (G := G) hl0 h309 a312 x311) dL_law_1789 (List.mem_singleton.mp hm) rfl rfl my_X12_holder im_X12_holder se_RX12_X12_holder ml_RL_227 rfl rfl (Nat.le_of_ble_eq_true rfl) (by decide) (by decide)) (fun h313 x314 => ?_)
  refine nr_istore (lv2 := [(6, .inl x314), (5, .inl x310), (0, .inr (some (nk_gB G))), (1, .inr v1), (2, .inr v2), (3, .inr v3), (4, .inl v4)]) dL_law_1792 (by decide) rfl ?_
  refine nr_aload_n 4 dL_law_1794 rfl ?_
  refine nr_rcv (ks := [19]) (pre := []) (fun a315 hm => ?_)
  refine nr_doI (st := []) (nk_callV (q := (RX12, TX12, 45)) (ci := 12) (c_X12_thrown (G := G) hl0 h313 a315) dL_law_1795 (List.mem_singleton.mp hm) rfl rfl my_X12_thrown im_X12_thrown se_RX12_X12_thrown ml_RL_144 rfl rfl (Nat.le_of_ble_eq_true rfl) (by decide) (by decide)) (fun h316 x317 => ?_)
  refine nr_iload 1 dL_law_1798 rfl ?_
  refine nr_icmp_eq (tgt := 1805) dL_law_1800 (by decide) (fun _ => ?_) (fun _ => ?_)
  · refine nr_iload 1 dL_law_1805 rfl ?_
    refine nr_if_ne (tgt := 1822) dL_law_1807 (by decide) (fun _ => ?_) (fun _ => ?_)
    · refine nr_aload_n 5 dL_law_1810 rfl ?_
      refine nr_iconst (v := 0) dL_law_1811 (by decide) ?_
      refine nr_lcI (j := 0) (tgt := 1822) dL_law_1812 dL_law_1813 rfl dL_law_1815 dL_law_1816 dL_law_1817 (by decide) (fun x318 => ?_) (fun x318 => ?_)
      · exact nk_locals [2, 3, 4, 5, 6] rfl (s_L_law_c1822 hl0 hr23 h316 v1 v2 v3 v4)
      · refine nr_iconst (v := 0) dL_law_1820 (by decide) ?_
        exact nr_zret rfl rfl dL_law_1821
    · exact nk_locals [2, 3, 4, 5, 6] rfl (s_L_law_c1822 hl0 hr23 h316 v1 v2 v3 v4)
  · refine nr_iconst (v := 0) dL_law_1803 (by decide) ?_
    exact nr_zret rfl rfl dL_law_1804
set_option maxHeartbeats 4000000 in
theorem s_L_law_c1897 {G : nk_G} {l : Launch} (hl0 : l.flags = flags0) {r23 : nk_H → Option Nat → Option Nat → Option Nat → Int32 → Option (nk_H × Int32)} (hr23 : ∀ (h : nk_H)  (v1 : Option Nat) (v2 : Option Nat) (v3 : Option Nat) (v4 : Int32), nk_Sim G l RL cL_law 7 (some FieldType.boolean) 11 260 false nk_eI 23 [(0, .inr (some (nk_gB G))), (1, .inr v1), (2, .inr v2), (3, .inr v3), (4, .inl v4)] [] h (r23 h  v1 v2 v3 v4)) (h : nk_H)  (v1 : Option Nat) (v2 : Option Nat) (v3 : Option Nat) (v4 : Int32)  : nk_Sim G l RL cL_law 7 (some FieldType.boolean) 11 260 false nk_eI 1897 [(0, .inr (some (nk_gB G))), (1, .inr v1), (2, .inr v2), (3, .inr v3), (4, .inl v4)] [] h (f_L_law_c1897 G r23 h v1 v2 v3 v4 ) := by
  unfold f_L_law_c1897
  refine nr_goto (tgt := 2879) dL_law_1897 (by decide) ?_
  exact s_L_law_c2879 hl0 hr23 h v1 v2 v3 v4
set_option maxHeartbeats 4000000 in
theorem s_L_law_c1825 {G : nk_G} {l : Launch} (hl0 : l.flags = flags0) {r23 : nk_H → Option Nat → Option Nat → Option Nat → Int32 → Option (nk_H × Int32)} (hr23 : ∀ (h : nk_H)  (v1 : Option Nat) (v2 : Option Nat) (v3 : Option Nat) (v4 : Int32), nk_Sim G l RL cL_law 7 (some FieldType.boolean) 11 260 false nk_eI 23 [(0, .inr (some (nk_gB G))), (1, .inr v1), (2, .inr v2), (3, .inr v3), (4, .inl v4)] [] h (r23 h  v1 v2 v3 v4)) (h : nk_H)  (v1 : Option Nat) (v2 : Option Nat) (v3 : Option Nat) (v4 : Int32)  : nk_Sim G l RL cL_law 7 (some FieldType.boolean) 11 260 false nk_eI 1825 [(0, .inr (some (nk_gB G))), (1, .inr v1), (2, .inr v2), (3, .inr v3), (4, .inl v4)] [] h (f_L_law_c1825 G r23 h v1 v2 v3 v4 ) := by
  unfold f_L_law_c1825
  refine nr_aload_n 1 dL_law_1825 rfl ?_
  refine nr_aload_n 0 dL_law_1826 rfl ?_
  refine nr_iload 4 dL_law_1827 rfl ?_
  refine nr_iconst (v := 1) dL_law_1829 (by decide) ?_
  refine nr_iadd dL_law_1830 ?_
  refine nr_sld dL_law_1831 (fun x319 => ?_)
  refine nr_aload_n 0 dL_law_1832 rfl ?_
  refine nr_iload 4 dL_law_1833 rfl ?_
  refine nr_iconst (v := 2) dL_law_1835 (by decide) ?_
  refine nr_iadd dL_law_1836 ?_
  refine nr_sld dL_law_1837 (fun x320 => ?_)
  refine nr_aload_n 3 dL_law_1838 rfl ?_
  refine nr_doI (st := []) (nk_callSW (c_L_isGood (G := G) hl0 h v1 x319 x320 v3) dL_law_1839 my_L_isGood st_L_isGood ml_RL_228 rfl rfl (Nat.le_of_ble_eq_true rfl) (by decide) (by decide)) (fun h321 x322 => ?_)
  refine nr_istore (lv2 := [(5, .inl x322), (0, .inr (some (nk_gB G))), (1, .inr v1), (2, .inr v2), (3, .inr v3), (4, .inl v4)]) dL_law_1842 (by decide) rfl ?_
  refine nr_aload_n 3 dL_law_1844 rfl ?_
  refine nr_aload_n 1 dL_law_1845 rfl ?_
  refine nr_iload 5 dL_law_1846 rfl ?_
  refine nr_iconst (v := 1) dL_law_1848 (by decide) ?_
  refine nr_iadd dL_law_1849 ?_
  refine nr_sld dL_law_1850 (fun x323 => ?_)
  refine nr_aload_n 1 dL_law_1851 rfl ?_
  refine nr_iload 5 dL_law_1852 rfl ?_
  refine nr_iconst (v := 2) dL_law_1854 (by decide) ?_
  refine nr_iadd dL_law_1855 ?_
  refine nr_sld dL_law_1856 (fun x324 => ?_)
  refine nr_rcv (ks := [19]) (pre := [.inl x324, .inl x323]) (fun a325 hm => ?_)
  refine nr_doI (st := []) (nk_callV (q := (RX12, TX12, 45)) (ci := 12) (c_X12_isGood (G := G) hl0 h321 a325 x323 x324) dL_law_1857 (List.mem_singleton.mp hm) rfl rfl my_X12_isGood im_X12_isGood se_RX12_X12_isGood ml_RL_230 rfl rfl (Nat.le_of_ble_eq_true rfl) (by decide) (by decide)) (fun h326 x327 => ?_)
  refine nr_istore (lv2 := [(6, .inl x327), (5, .inl x322), (0, .inr (some (nk_gB G))), (1, .inr v1), (2, .inr v2), (3, .inr v3), (4, .inl v4)]) dL_law_1860 (by decide) rfl ?_
  refine nr_aload_n 4 dL_law_1862 rfl ?_
  refine nr_rcv (ks := [19]) (pre := []) (fun a328 hm => ?_)
  refine nr_doI (st := []) (nk_callV (q := (RX12, TX12, 45)) (ci := 12) (c_X12_thrown (G := G) hl0 h326 a328) dL_law_1863 (List.mem_singleton.mp hm) rfl rfl my_X12_thrown im_X12_thrown se_RX12_X12_thrown ml_RL_144 rfl rfl (Nat.le_of_ble_eq_true rfl) (by decide) (by decide)) (fun h329 x330 => ?_)
  refine nr_iload 1 dL_law_1866 rfl ?_
  refine nr_icmp_eq (tgt := 1873) dL_law_1868 (by decide) (fun _ => ?_) (fun _ => ?_)
  · refine nr_iload 1 dL_law_1873 rfl ?_
    refine nr_if_ne (tgt := 1897) dL_law_1875 (by decide) (fun _ => ?_) (fun _ => ?_)
    · refine nr_aload_n 5 dL_law_1878 rfl ?_
      refine nr_iconst (v := 0) dL_law_1879 (by decide) ?_
      refine nr_lcZ (j := 0) (tgt := 1897) dL_law_1880 dL_law_1881 rfl dL_law_1883 (by decide) dL_law_1886 dL_law_1887 (by decide) dL_law_1890 dL_law_1891 dL_law_1892 (by decide) (fun x331 => ?_) (fun x331 => ?_)
      · exact nk_locals [2, 3, 4, 5, 6] rfl (s_L_law_c1897 hl0 hr23 h329 v1 v2 v3 v4)
      · refine nr_iconst (v := 0) dL_law_1895 (by decide) ?_
        exact nr_zret rfl rfl dL_law_1896
    · exact nk_locals [2, 3, 4, 5, 6] rfl (s_L_law_c1897 hl0 hr23 h329 v1 v2 v3 v4)
  · refine nr_iconst (v := 0) dL_law_1871 (by decide) ?_
    exact nr_zret rfl rfl dL_law_1872
set_option maxHeartbeats 4000000 in
theorem s_L_law_c1965 {G : nk_G} {l : Launch} (hl0 : l.flags = flags0) {r23 : nk_H → Option Nat → Option Nat → Option Nat → Int32 → Option (nk_H × Int32)} (hr23 : ∀ (h : nk_H)  (v1 : Option Nat) (v2 : Option Nat) (v3 : Option Nat) (v4 : Int32), nk_Sim G l RL cL_law 7 (some FieldType.boolean) 11 260 false nk_eI 23 [(0, .inr (some (nk_gB G))), (1, .inr v1), (2, .inr v2), (3, .inr v3), (4, .inl v4)] [] h (r23 h  v1 v2 v3 v4)) (h : nk_H)  (v1 : Option Nat) (v2 : Option Nat) (v3 : Option Nat) (v4 : Int32)  : nk_Sim G l RL cL_law 7 (some FieldType.boolean) 11 260 false nk_eI 1965 [(0, .inr (some (nk_gB G))), (1, .inr v1), (2, .inr v2), (3, .inr v3), (4, .inl v4)] [] h (f_L_law_c1965 G r23 h v1 v2 v3 v4 ) := by
  unfold f_L_law_c1965
  refine nr_goto (tgt := 2879) dL_law_1965 (by decide) ?_
  exact s_L_law_c2879 hl0 hr23 h v1 v2 v3 v4
set_option maxHeartbeats 4000000 in
theorem s_L_law_c1900 {G : nk_G} {l : Launch} (hl0 : l.flags = flags0) {r23 : nk_H → Option Nat → Option Nat → Option Nat → Int32 → Option (nk_H × Int32)} (hr23 : ∀ (h : nk_H)  (v1 : Option Nat) (v2 : Option Nat) (v3 : Option Nat) (v4 : Int32), nk_Sim G l RL cL_law 7 (some FieldType.boolean) 11 260 false nk_eI 23 [(0, .inr (some (nk_gB G))), (1, .inr v1), (2, .inr v2), (3, .inr v3), (4, .inl v4)] [] h (r23 h  v1 v2 v3 v4)) (h : nk_H)  (v1 : Option Nat) (v2 : Option Nat) (v3 : Option Nat) (v4 : Int32)  : nk_Sim G l RL cL_law 7 (some FieldType.boolean) 11 260 false nk_eI 1900 [(0, .inr (some (nk_gB G))), (1, .inr v1), (2, .inr v2), (3, .inr v3), (4, .inl v4)] [] h (f_L_law_c1900 G r23 h v1 v2 v3 v4 ) := by
  unfold f_L_law_c1900
  refine nr_aload_n 1 dL_law_1900 rfl ?_
  refine nr_aload_n 0 dL_law_1901 rfl ?_
  refine nr_iload 4 dL_law_1902 rfl ?_
  refine nr_iconst (v := 1) dL_law_1904 (by decide) ?_
  refine nr_iadd dL_law_1905 ?_
  refine nr_sld dL_law_1906 (fun x332 => ?_)
  refine nr_aload_n 0 dL_law_1907 rfl ?_
  refine nr_iload 4 dL_law_1908 rfl ?_
  refine nr_iconst (v := 2) dL_law_1910 (by decide) ?_
  refine nr_iadd dL_law_1911 ?_
  refine nr_sld dL_law_1912 (fun x333 => ?_)
  refine nr_aload_n 3 dL_law_1913 rfl ?_
  refine nr_doI (st := []) (nk_callSW (c_L_done (G := G) hl0 h v1 x332 x333 v3) dL_law_1914 my_L_done st_L_done ml_RL_231 rfl rfl (Nat.le_of_ble_eq_true rfl) (by decide) (by decide)) (fun h334 x335 => ?_)
  refine nr_istore (lv2 := [(5, .inl x335), (0, .inr (some (nk_gB G))), (1, .inr v1), (2, .inr v2), (3, .inr v3), (4, .inl v4)]) dL_law_1917 (by decide) rfl ?_
  refine nr_aload_n 3 dL_law_1919 rfl ?_
  refine nr_aload_n 1 dL_law_1920 rfl ?_
  refine nr_iload 5 dL_law_1921 rfl ?_
  refine nr_iconst (v := 1) dL_law_1923 (by decide) ?_
  refine nr_iadd dL_law_1924 ?_
  refine nr_sld dL_law_1925 (fun x336 => ?_)
  refine nr_aload_n 1 dL_law_1926 rfl ?_
  refine nr_iload 5 dL_law_1927 rfl ?_
  refine nr_iconst (v := 2) dL_law_1929 (by decide) ?_
  refine nr_iadd dL_law_1930 ?_
  refine nr_sld dL_law_1931 (fun x337 => ?_)
  refine nr_rcv (ks := [19]) (pre := [.inl x337, .inl x336]) (fun a338 hm => ?_)
  refine nr_doI (st := []) (nk_callV (q := (RX12, TX12, 45)) (ci := 12) (c_X12_done (G := G) hl0 h334 a338 x336 x337) dL_law_1932 (List.mem_singleton.mp hm) rfl rfl my_X12_done im_X12_done se_RX12_X12_done ml_RL_233 rfl rfl (Nat.le_of_ble_eq_true rfl) (by decide) (by decide)) (fun h339 x340 => ?_)
  refine nr_istore (lv2 := [(6, .inl x340), (5, .inl x335), (0, .inr (some (nk_gB G))), (1, .inr v1), (2, .inr v2), (3, .inr v3), (4, .inl v4)]) dL_law_1935 (by decide) rfl ?_
  refine nr_aload_n 4 dL_law_1937 rfl ?_
  refine nr_rcv (ks := [19]) (pre := []) (fun a341 hm => ?_)
  refine nr_doI (st := []) (nk_callV (q := (RX12, TX12, 45)) (ci := 12) (c_X12_thrown (G := G) hl0 h339 a341) dL_law_1938 (List.mem_singleton.mp hm) rfl rfl my_X12_thrown im_X12_thrown se_RX12_X12_thrown ml_RL_144 rfl rfl (Nat.le_of_ble_eq_true rfl) (by decide) (by decide)) (fun h342 x343 => ?_)
  refine nr_iload 1 dL_law_1941 rfl ?_
  refine nr_icmp_eq (tgt := 1948) dL_law_1943 (by decide) (fun _ => ?_) (fun _ => ?_)
  · refine nr_iload 1 dL_law_1948 rfl ?_
    refine nr_if_ne (tgt := 1965) dL_law_1950 (by decide) (fun _ => ?_) (fun _ => ?_)
    · refine nr_aload_n 5 dL_law_1953 rfl ?_
      refine nr_iconst (v := 0) dL_law_1954 (by decide) ?_
      refine nr_lcI (j := 0) (tgt := 1965) dL_law_1955 dL_law_1956 rfl dL_law_1958 dL_law_1959 dL_law_1960 (by decide) (fun x344 => ?_) (fun x344 => ?_)
      · exact nk_locals [2, 3, 4, 5, 6] rfl (s_L_law_c1965 hl0 hr23 h342 v1 v2 v3 v4)
      · refine nr_iconst (v := 0) dL_law_1963 (by decide) ?_
        exact nr_zret rfl rfl dL_law_1964
    · exact nk_locals [2, 3, 4, 5, 6] rfl (s_L_law_c1965 hl0 hr23 h342 v1 v2 v3 v4)
  · refine nr_iconst (v := 0) dL_law_1946 (by decide) ?_
    exact nr_zret rfl rfl dL_law_1947
set_option maxHeartbeats 4000000 in
theorem s_L_law_c2021 {G : nk_G} {l : Launch} (hl0 : l.flags = flags0) {r23 : nk_H → Option Nat → Option Nat → Option Nat → Int32 → Option (nk_H × Int32)} (hr23 : ∀ (h : nk_H)  (v1 : Option Nat) (v2 : Option Nat) (v3 : Option Nat) (v4 : Int32), nk_Sim G l RL cL_law 7 (some FieldType.boolean) 11 260 false nk_eI 23 [(0, .inr (some (nk_gB G))), (1, .inr v1), (2, .inr v2), (3, .inr v3), (4, .inl v4)] [] h (r23 h  v1 v2 v3 v4)) (h : nk_H)  (v1 : Option Nat) (v2 : Option Nat) (v3 : Option Nat) (v4 : Int32)  : nk_Sim G l RL cL_law 7 (some FieldType.boolean) 11 260 false nk_eI 2021 [(0, .inr (some (nk_gB G))), (1, .inr v1), (2, .inr v2), (3, .inr v3), (4, .inl v4)] [] h (f_L_law_c2021 G r23 h v1 v2 v3 v4 ) := by
  unfold f_L_law_c2021
  refine nr_goto (tgt := 2879) dL_law_2021 (by decide) ?_
  exact s_L_law_c2879 hl0 hr23 h v1 v2 v3 v4
set_option maxHeartbeats 4000000 in
theorem s_L_law_c1968 {G : nk_G} {l : Launch} (hl0 : l.flags = flags0) {r23 : nk_H → Option Nat → Option Nat → Option Nat → Int32 → Option (nk_H × Int32)} (hr23 : ∀ (h : nk_H)  (v1 : Option Nat) (v2 : Option Nat) (v3 : Option Nat) (v4 : Int32), nk_Sim G l RL cL_law 7 (some FieldType.boolean) 11 260 false nk_eI 23 [(0, .inr (some (nk_gB G))), (1, .inr v1), (2, .inr v2), (3, .inr v3), (4, .inl v4)] [] h (r23 h  v1 v2 v3 v4)) (h : nk_H)  (v1 : Option Nat) (v2 : Option Nat) (v3 : Option Nat) (v4 : Int32)  : nk_Sim G l RL cL_law 7 (some FieldType.boolean) 11 260 false nk_eI 1968 [(0, .inr (some (nk_gB G))), (1, .inr v1), (2, .inr v2), (3, .inr v3), (4, .inl v4)] [] h (f_L_law_c1968 G r23 h v1 v2 v3 v4 ) := by
  unfold f_L_law_c1968
  refine nr_aload_n 1 dL_law_1968 rfl ?_
  refine nr_aload_n 0 dL_law_1969 rfl ?_
  refine nr_iload 4 dL_law_1970 rfl ?_
  refine nr_iconst (v := 1) dL_law_1972 (by decide) ?_
  refine nr_iadd dL_law_1973 ?_
  refine nr_sld dL_law_1974 (fun x345 => ?_)
  refine nr_aload_n 3 dL_law_1975 rfl ?_
  refine nr_doI (st := []) (nk_callSW (c_L_beyond (G := G) hl0 h v1 x345 v3) dL_law_1976 my_L_beyond st_L_beyond ml_RL_234 rfl rfl (Nat.le_of_ble_eq_true rfl) (by decide) (by decide)) (fun h346 x347 => ?_)
  refine nr_istore (lv2 := [(5, .inl x347), (0, .inr (some (nk_gB G))), (1, .inr v1), (2, .inr v2), (3, .inr v3), (4, .inl v4)]) dL_law_1979 (by decide) rfl ?_
  refine nr_aload_n 3 dL_law_1981 rfl ?_
  refine nr_aload_n 1 dL_law_1982 rfl ?_
  refine nr_iload 5 dL_law_1983 rfl ?_
  refine nr_iconst (v := 1) dL_law_1985 (by decide) ?_
  refine nr_iadd dL_law_1986 ?_
  refine nr_sld dL_law_1987 (fun x348 => ?_)
  refine nr_rcv (ks := [19]) (pre := [.inl x348]) (fun a349 hm => ?_)
  refine nr_doI (st := []) (nk_callV (q := (RX12, TX12, 45)) (ci := 12) (c_X12_beyond (G := G) hl0 h346 a349 x348) dL_law_1988 (List.mem_singleton.mp hm) rfl rfl my_X12_beyond im_X12_beyond se_RX12_X12_beyond ml_RL_236 rfl rfl (Nat.le_of_ble_eq_true rfl) (by decide) (by decide)) (fun h350 x351 => ?_)
  refine nr_istore (lv2 := [(6, .inl x351), (5, .inl x347), (0, .inr (some (nk_gB G))), (1, .inr v1), (2, .inr v2), (3, .inr v3), (4, .inl v4)]) dL_law_1991 (by decide) rfl ?_
  refine nr_aload_n 4 dL_law_1993 rfl ?_
  refine nr_rcv (ks := [19]) (pre := []) (fun a352 hm => ?_)
  refine nr_doI (st := []) (nk_callV (q := (RX12, TX12, 45)) (ci := 12) (c_X12_thrown (G := G) hl0 h350 a352) dL_law_1994 (List.mem_singleton.mp hm) rfl rfl my_X12_thrown im_X12_thrown se_RX12_X12_thrown ml_RL_144 rfl rfl (Nat.le_of_ble_eq_true rfl) (by decide) (by decide)) (fun h353 x354 => ?_)
  refine nr_iload 1 dL_law_1997 rfl ?_
  refine nr_icmp_eq (tgt := 2004) dL_law_1999 (by decide) (fun _ => ?_) (fun _ => ?_)
  · refine nr_iload 1 dL_law_2004 rfl ?_
    refine nr_if_ne (tgt := 2021) dL_law_2006 (by decide) (fun _ => ?_) (fun _ => ?_)
    · refine nr_aload_n 5 dL_law_2009 rfl ?_
      refine nr_iconst (v := 0) dL_law_2010 (by decide) ?_
      refine nr_lcI (j := 0) (tgt := 2021) dL_law_2011 dL_law_2012 rfl dL_law_2014 dL_law_2015 dL_law_2016 (by decide) (fun x355 => ?_) (fun x355 => ?_)
      · exact nk_locals [2, 3, 4, 5, 6] rfl (s_L_law_c2021 hl0 hr23 h353 v1 v2 v3 v4)
      · refine nr_iconst (v := 0) dL_law_2019 (by decide) ?_
        exact nr_zret rfl rfl dL_law_2020
    · exact nk_locals [2, 3, 4, 5, 6] rfl (s_L_law_c2021 hl0 hr23 h353 v1 v2 v3 v4)
  · refine nr_iconst (v := 0) dL_law_2002 (by decide) ?_
    exact nr_zret rfl rfl dL_law_2003
set_option maxHeartbeats 4000000 in
theorem s_L_law_c2113 {G : nk_G} {l : Launch} (hl0 : l.flags = flags0) {r23 : nk_H → Option Nat → Option Nat → Option Nat → Int32 → Option (nk_H × Int32)} (hr23 : ∀ (h : nk_H)  (v1 : Option Nat) (v2 : Option Nat) (v3 : Option Nat) (v4 : Int32), nk_Sim G l RL cL_law 7 (some FieldType.boolean) 11 260 false nk_eI 23 [(0, .inr (some (nk_gB G))), (1, .inr v1), (2, .inr v2), (3, .inr v3), (4, .inl v4)] [] h (r23 h  v1 v2 v3 v4)) (h : nk_H)  (v1 : Option Nat) (v2 : Option Nat) (v3 : Option Nat) (v4 : Int32)  : nk_Sim G l RL cL_law 7 (some FieldType.boolean) 11 260 false nk_eI 2113 [(0, .inr (some (nk_gB G))), (1, .inr v1), (2, .inr v2), (3, .inr v3), (4, .inl v4)] [] h (f_L_law_c2113 G r23 h v1 v2 v3 v4 ) := by
  unfold f_L_law_c2113
  refine nr_goto (tgt := 2879) dL_law_2113 (by decide) ?_
  exact s_L_law_c2879 hl0 hr23 h v1 v2 v3 v4
set_option maxHeartbeats 4000000 in
theorem s_L_law_c2024 {G : nk_G} {l : Launch} (hl0 : l.flags = flags0) {r23 : nk_H → Option Nat → Option Nat → Option Nat → Int32 → Option (nk_H × Int32)} (hr23 : ∀ (h : nk_H)  (v1 : Option Nat) (v2 : Option Nat) (v3 : Option Nat) (v4 : Int32), nk_Sim G l RL cL_law 7 (some FieldType.boolean) 11 260 false nk_eI 23 [(0, .inr (some (nk_gB G))), (1, .inr v1), (2, .inr v2), (3, .inr v3), (4, .inl v4)] [] h (r23 h  v1 v2 v3 v4)) (h : nk_H)  (v1 : Option Nat) (v2 : Option Nat) (v3 : Option Nat) (v4 : Int32)  : nk_Sim G l RL cL_law 7 (some FieldType.boolean) 11 260 false nk_eI 2024 [(0, .inr (some (nk_gB G))), (1, .inr v1), (2, .inr v2), (3, .inr v3), (4, .inl v4)] [] h (f_L_law_c2024 G r23 h v1 v2 v3 v4 ) := by
  unfold f_L_law_c2024
  refine nr_aload_n 1 dL_law_2024 rfl ?_
  refine nr_aload_n 0 dL_law_2025 rfl ?_
  refine nr_iload 4 dL_law_2026 rfl ?_
  refine nr_iconst (v := 1) dL_law_2028 (by decide) ?_
  refine nr_iadd dL_law_2029 ?_
  refine nr_sld dL_law_2030 (fun x356 => ?_)
  refine nr_aload_n 0 dL_law_2031 rfl ?_
  refine nr_iload 4 dL_law_2032 rfl ?_
  refine nr_iconst (v := 2) dL_law_2034 (by decide) ?_
  refine nr_iadd dL_law_2035 ?_
  refine nr_sld dL_law_2036 (fun x357 => ?_)
  refine nr_aload_n 0 dL_law_2037 rfl ?_
  refine nr_iload 4 dL_law_2038 rfl ?_
  refine nr_iconst (v := 3) dL_law_2040 (by decide) ?_
  refine nr_iadd dL_law_2041 ?_
  refine nr_sld dL_law_2042 (fun x358 => ?_)
  refine nr_aload_n 0 dL_law_2043 rfl ?_
  refine nr_iload 4 dL_law_2044 rfl ?_
  refine nr_iconst (v := 4) dL_law_2046 (by decide) ?_
  refine nr_iadd dL_law_2047 ?_
  refine nr_sld dL_law_2048 (fun x359 => ?_)
  refine nr_aload_n 3 dL_law_2049 rfl ?_
  refine nr_doI (st := []) (nk_callSW (c_L_against (G := G) hl0 h v1 x356 x357 x358 x359 v3) dL_law_2050 my_L_against st_L_against ml_RL_237 rfl rfl (Nat.le_of_ble_eq_true rfl) (by decide) (by decide)) (fun h360 x361 => ?_)
  refine nr_istore (lv2 := [(5, .inl x361), (0, .inr (some (nk_gB G))), (1, .inr v1), (2, .inr v2), (3, .inr v3), (4, .inl v4)]) dL_law_2053 (by decide) rfl ?_
  refine nr_aload_n 3 dL_law_2055 rfl ?_
  refine nr_aload_n 1 dL_law_2056 rfl ?_
  refine nr_iload 5 dL_law_2057 rfl ?_
  refine nr_iconst (v := 1) dL_law_2059 (by decide) ?_
  refine nr_iadd dL_law_2060 ?_
  refine nr_sld dL_law_2061 (fun x362 => ?_)
  refine nr_aload_n 1 dL_law_2062 rfl ?_
  refine nr_iload 5 dL_law_2063 rfl ?_
  refine nr_iconst (v := 2) dL_law_2065 (by decide) ?_
  refine nr_iadd dL_law_2066 ?_
  refine nr_sld dL_law_2067 (fun x363 => ?_)
  refine nr_aload_n 1 dL_law_2068 rfl ?_
  refine nr_iload 5 dL_law_2069 rfl ?_
  refine nr_iconst (v := 3) dL_law_2071 (by decide) ?_
  refine nr_iadd dL_law_2072 ?_
  refine nr_sld dL_law_2073 (fun x364 => ?_)
  refine nr_aload_n 1 dL_law_2074 rfl ?_
  refine nr_iload 5 dL_law_2075 rfl ?_
  refine nr_iconst (v := 4) dL_law_2077 (by decide) ?_
  refine nr_iadd dL_law_2078 ?_
  refine nr_sld dL_law_2079 (fun x365 => ?_)
  refine nr_rcv (ks := [19]) (pre := [.inl x365, .inl x364, .inl x363, .inl x362]) (fun a366 hm => ?_)
  refine nr_doI (st := []) (nk_callV (q := (RX12, TX12, 45)) (ci := 12) (c_X12_against (G := G) hl0 h360 a366 x362 x363 x364 x365) dL_law_2080 (List.mem_singleton.mp hm) rfl rfl my_X12_against im_X12_against se_RX12_X12_against ml_RL_239 rfl rfl (Nat.le_of_ble_eq_true rfl) (by decide) (by decide)) (fun h367 x368 => ?_)
  refine nr_istore (lv2 := [(6, .inl x368), (5, .inl x361), (0, .inr (some (nk_gB G))), (1, .inr v1), (2, .inr v2), (3, .inr v3), (4, .inl v4)]) dL_law_2083 (by decide) rfl ?_
  refine nr_aload_n 4 dL_law_2085 rfl ?_
  refine nr_rcv (ks := [19]) (pre := []) (fun a369 hm => ?_)
  refine nr_doI (st := []) (nk_callV (q := (RX12, TX12, 45)) (ci := 12) (c_X12_thrown (G := G) hl0 h367 a369) dL_law_2086 (List.mem_singleton.mp hm) rfl rfl my_X12_thrown im_X12_thrown se_RX12_X12_thrown ml_RL_144 rfl rfl (Nat.le_of_ble_eq_true rfl) (by decide) (by decide)) (fun h370 x371 => ?_)
  refine nr_iload 1 dL_law_2089 rfl ?_
  refine nr_icmp_eq (tgt := 2096) dL_law_2091 (by decide) (fun _ => ?_) (fun _ => ?_)
  · refine nr_iload 1 dL_law_2096 rfl ?_
    refine nr_if_ne (tgt := 2113) dL_law_2098 (by decide) (fun _ => ?_) (fun _ => ?_)
    · refine nr_aload_n 5 dL_law_2101 rfl ?_
      refine nr_iconst (v := 0) dL_law_2102 (by decide) ?_
      refine nr_lcI (j := 0) (tgt := 2113) dL_law_2103 dL_law_2104 rfl dL_law_2106 dL_law_2107 dL_law_2108 (by decide) (fun x372 => ?_) (fun x372 => ?_)
      · exact nk_locals [2, 3, 4, 5, 6] rfl (s_L_law_c2113 hl0 hr23 h370 v1 v2 v3 v4)
      · refine nr_iconst (v := 0) dL_law_2111 (by decide) ?_
        exact nr_zret rfl rfl dL_law_2112
    · exact nk_locals [2, 3, 4, 5, 6] rfl (s_L_law_c2113 hl0 hr23 h370 v1 v2 v3 v4)
  · refine nr_iconst (v := 0) dL_law_2094 (by decide) ?_
    exact nr_zret rfl rfl dL_law_2095
set_option maxHeartbeats 4000000 in
theorem s_L_law_c2193 {G : nk_G} {l : Launch} (hl0 : l.flags = flags0) {r23 : nk_H → Option Nat → Option Nat → Option Nat → Int32 → Option (nk_H × Int32)} (hr23 : ∀ (h : nk_H)  (v1 : Option Nat) (v2 : Option Nat) (v3 : Option Nat) (v4 : Int32), nk_Sim G l RL cL_law 7 (some FieldType.boolean) 11 260 false nk_eI 23 [(0, .inr (some (nk_gB G))), (1, .inr v1), (2, .inr v2), (3, .inr v3), (4, .inl v4)] [] h (r23 h  v1 v2 v3 v4)) (h : nk_H)  (v1 : Option Nat) (v2 : Option Nat) (v3 : Option Nat) (v4 : Int32)  : nk_Sim G l RL cL_law 7 (some FieldType.boolean) 11 260 false nk_eI 2193 [(0, .inr (some (nk_gB G))), (1, .inr v1), (2, .inr v2), (3, .inr v3), (4, .inl v4)] [] h (f_L_law_c2193 G r23 h v1 v2 v3 v4 ) := by
  unfold f_L_law_c2193
  refine nr_goto (tgt := 2879) dL_law_2193 (by decide) ?_
  exact s_L_law_c2879 hl0 hr23 h v1 v2 v3 v4
set_option maxHeartbeats 4000000 in
theorem s_L_law_c2116 {G : nk_G} {l : Launch} (hl0 : l.flags = flags0) {r23 : nk_H → Option Nat → Option Nat → Option Nat → Int32 → Option (nk_H × Int32)} (hr23 : ∀ (h : nk_H)  (v1 : Option Nat) (v2 : Option Nat) (v3 : Option Nat) (v4 : Int32), nk_Sim G l RL cL_law 7 (some FieldType.boolean) 11 260 false nk_eI 23 [(0, .inr (some (nk_gB G))), (1, .inr v1), (2, .inr v2), (3, .inr v3), (4, .inl v4)] [] h (r23 h  v1 v2 v3 v4)) (h : nk_H)  (v1 : Option Nat) (v2 : Option Nat) (v3 : Option Nat) (v4 : Int32)  : nk_Sim G l RL cL_law 7 (some FieldType.boolean) 11 260 false nk_eI 2116 [(0, .inr (some (nk_gB G))), (1, .inr v1), (2, .inr v2), (3, .inr v3), (4, .inl v4)] [] h (f_L_law_c2116 G r23 h v1 v2 v3 v4 ) := by
  unfold f_L_law_c2116
  refine nr_aload_n 1 dL_law_2116 rfl ?_
  refine nr_aload_n 0 dL_law_2117 rfl ?_
  refine nr_iload 4 dL_law_2118 rfl ?_
  refine nr_iconst (v := 1) dL_law_2120 (by decide) ?_
  refine nr_iadd dL_law_2121 ?_
  refine nr_sld dL_law_2122 (fun x373 => ?_)
  refine nr_aload_n 0 dL_law_2123 rfl ?_
  refine nr_iload 4 dL_law_2124 rfl ?_
  refine nr_iconst (v := 2) dL_law_2126 (by decide) ?_
  refine nr_iadd dL_law_2127 ?_
  refine nr_sld dL_law_2128 (fun x374 => ?_)
  refine nr_aload_n 0 dL_law_2129 rfl ?_
  refine nr_iload 4 dL_law_2130 rfl ?_
  refine nr_iconst (v := 3) dL_law_2132 (by decide) ?_
  refine nr_iadd dL_law_2133 ?_
  refine nr_sld dL_law_2134 (fun x375 => ?_)
  refine nr_aload_n 3 dL_law_2135 rfl ?_
  refine nr_doI (st := []) (nk_callSW (c_L_choices (G := G) hl0 h v1 x373 x374 x375 v3) dL_law_2136 my_L_choices st_L_choices ml_RL_240 rfl rfl (Nat.le_of_ble_eq_true rfl) (by decide) (by decide)) (fun h376 x377 => ?_)
  refine nr_istore (lv2 := [(5, .inl x377), (0, .inr (some (nk_gB G))), (1, .inr v1), (2, .inr v2), (3, .inr v3), (4, .inl v4)]) dL_law_2139 (by decide) rfl ?_
  refine nr_aload_n 3 dL_law_2141 rfl ?_
  refine nr_aload_n 1 dL_law_2142 rfl ?_
  refine nr_iload 5 dL_law_2143 rfl ?_
  refine nr_iconst (v := 1) dL_law_2145 (by decide) ?_
  refine nr_iadd dL_law_2146 ?_
  refine nr_sld dL_law_2147 (fun x378 => ?_)
  refine nr_aload_n 1 dL_law_2148 rfl ?_
  refine nr_iload 5 dL_law_2149 rfl ?_
  refine nr_iconst (v := 2) dL_law_2151 (by decide) ?_
  refine nr_iadd dL_law_2152 ?_
  refine nr_sld dL_law_2153 (fun x379 => ?_)
  refine nr_aload_n 1 dL_law_2154 rfl ?_
  refine nr_iload 5 dL_law_2155 rfl ?_
  refine nr_iconst (v := 3) dL_law_2157 (by decide) ?_
  refine nr_iadd dL_law_2158 ?_
  refine nr_sld dL_law_2159 (fun x380 => ?_)
  refine nr_rcv (ks := [19]) (pre := [.inl x380, .inl x379, .inl x378]) (fun a381 hm => ?_)
  refine nr_doI (st := []) (nk_callV (q := (RX12, TX12, 45)) (ci := 12) (c_X12_choices (G := G) hl0 h376 a381 x378 x379 x380) dL_law_2160 (List.mem_singleton.mp hm) rfl rfl my_X12_choices im_X12_choices se_RX12_X12_choices ml_RL_242 rfl rfl (Nat.le_of_ble_eq_true rfl) (by decide) (by decide)) (fun h382 x383 => ?_)
  refine nr_istore (lv2 := [(6, .inl x383), (5, .inl x377), (0, .inr (some (nk_gB G))), (1, .inr v1), (2, .inr v2), (3, .inr v3), (4, .inl v4)]) dL_law_2163 (by decide) rfl ?_
  refine nr_aload_n 4 dL_law_2165 rfl ?_
  refine nr_rcv (ks := [19]) (pre := []) (fun a384 hm => ?_)
  refine nr_doI (st := []) (nk_callV (q := (RX12, TX12, 45)) (ci := 12) (c_X12_thrown (G := G) hl0 h382 a384) dL_law_2166 (List.mem_singleton.mp hm) rfl rfl my_X12_thrown im_X12_thrown se_RX12_X12_thrown ml_RL_144 rfl rfl (Nat.le_of_ble_eq_true rfl) (by decide) (by decide)) (fun h385 x386 => ?_)
  refine nr_iload 1 dL_law_2169 rfl ?_
  refine nr_icmp_eq (tgt := 2176) dL_law_2171 (by decide) (fun _ => ?_) (fun _ => ?_)
  · refine nr_iload 1 dL_law_2176 rfl ?_
    refine nr_if_ne (tgt := 2193) dL_law_2178 (by decide) (fun _ => ?_) (fun _ => ?_)
    · refine nr_aload_n 5 dL_law_2181 rfl ?_
      refine nr_iconst (v := 0) dL_law_2182 (by decide) ?_
      refine nr_lcI (j := 0) (tgt := 2193) dL_law_2183 dL_law_2184 rfl dL_law_2186 dL_law_2187 dL_law_2188 (by decide) (fun x387 => ?_) (fun x387 => ?_)
      · exact nk_locals [2, 3, 4, 5, 6] rfl (s_L_law_c2193 hl0 hr23 h385 v1 v2 v3 v4)
      · refine nr_iconst (v := 0) dL_law_2191 (by decide) ?_
        exact nr_zret rfl rfl dL_law_2192
    · exact nk_locals [2, 3, 4, 5, 6] rfl (s_L_law_c2193 hl0 hr23 h385 v1 v2 v3 v4)
  · refine nr_iconst (v := 0) dL_law_2174 (by decide) ?_
    exact nr_zret rfl rfl dL_law_2175
set_option maxHeartbeats 4000000 in
theorem s_L_law_c2268 {G : nk_G} {l : Launch} (hl0 : l.flags = flags0) {r23 : nk_H → Option Nat → Option Nat → Option Nat → Int32 → Option (nk_H × Int32)} (hr23 : ∀ (h : nk_H)  (v1 : Option Nat) (v2 : Option Nat) (v3 : Option Nat) (v4 : Int32), nk_Sim G l RL cL_law 7 (some FieldType.boolean) 11 260 false nk_eI 23 [(0, .inr (some (nk_gB G))), (1, .inr v1), (2, .inr v2), (3, .inr v3), (4, .inl v4)] [] h (r23 h  v1 v2 v3 v4)) (h : nk_H)  (v1 : Option Nat) (v2 : Option Nat) (v3 : Option Nat) (v4 : Int32)  : nk_Sim G l RL cL_law 7 (some FieldType.boolean) 11 260 false nk_eI 2268 [(0, .inr (some (nk_gB G))), (1, .inr v1), (2, .inr v2), (3, .inr v3), (4, .inl v4)] [] h (f_L_law_c2268 G r23 h v1 v2 v3 v4 ) := by
  unfold f_L_law_c2268
  refine nr_goto (tgt := 2879) dL_law_2268 (by decide) ?_
  exact s_L_law_c2879 hl0 hr23 h v1 v2 v3 v4
set_option maxHeartbeats 4000000 in
theorem s_L_law_c2196 {G : nk_G} {l : Launch} (hl0 : l.flags = flags0) {r23 : nk_H → Option Nat → Option Nat → Option Nat → Int32 → Option (nk_H × Int32)} (hr23 : ∀ (h : nk_H)  (v1 : Option Nat) (v2 : Option Nat) (v3 : Option Nat) (v4 : Int32), nk_Sim G l RL cL_law 7 (some FieldType.boolean) 11 260 false nk_eI 23 [(0, .inr (some (nk_gB G))), (1, .inr v1), (2, .inr v2), (3, .inr v3), (4, .inl v4)] [] h (r23 h  v1 v2 v3 v4)) (h : nk_H)  (v1 : Option Nat) (v2 : Option Nat) (v3 : Option Nat) (v4 : Int32)  : nk_Sim G l RL cL_law 7 (some FieldType.boolean) 11 260 false nk_eI 2196 [(0, .inr (some (nk_gB G))), (1, .inr v1), (2, .inr v2), (3, .inr v3), (4, .inl v4)] [] h (f_L_law_c2196 G r23 h v1 v2 v3 v4 ) := by
  unfold f_L_law_c2196
  refine nr_aload_n 1 dL_law_2196 rfl ?_
  refine nr_aload_n 0 dL_law_2197 rfl ?_
  refine nr_iload 4 dL_law_2198 rfl ?_
  refine nr_iconst (v := 1) dL_law_2200 (by decide) ?_
  refine nr_iadd dL_law_2201 ?_
  refine nr_sld dL_law_2202 (fun x388 => ?_)
  refine nr_aload_n 0 dL_law_2203 rfl ?_
  refine nr_iload 4 dL_law_2204 rfl ?_
  refine nr_iconst (v := 2) dL_law_2206 (by decide) ?_
  refine nr_iadd dL_law_2207 ?_
  refine nr_sld dL_law_2208 (fun x389 => ?_)
  refine nr_aload_n 3 dL_law_2209 rfl ?_
  refine nr_doI (st := []) (nk_callSW (c_L_stands (G := G) hl0 h v1 x388 x389 v3) dL_law_2210 my_L_stands st_L_stands ml_RL_243 rfl rfl (Nat.le_of_ble_eq_true rfl) (by decide) (by decide)) (fun h390 x391 => ?_)
  refine nr_istore (lv2 := [(5, .inl x391), (0, .inr (some (nk_gB G))), (1, .inr v1), (2, .inr v2), (3, .inr v3), (4, .inl v4)]) dL_law_2213 (by decide) rfl ?_
  refine nr_aload_n 3 dL_law_2215 rfl ?_
  refine nr_aload_n 1 dL_law_2216 rfl ?_
  refine nr_iload 5 dL_law_2217 rfl ?_
  refine nr_iconst (v := 1) dL_law_2219 (by decide) ?_
  refine nr_iadd dL_law_2220 ?_
  refine nr_sld dL_law_2221 (fun x392 => ?_)
  refine nr_aload_n 1 dL_law_2222 rfl ?_
  refine nr_iload 5 dL_law_2223 rfl ?_
  refine nr_iconst (v := 2) dL_law_2225 (by decide) ?_
  refine nr_iadd dL_law_2226 ?_
  refine nr_sld dL_law_2227 (fun x393 => ?_)
  refine nr_rcv (ks := [19]) (pre := [.inl x393, .inl x392]) (fun a394 hm => ?_)
  refine nr_doI (st := []) (nk_callV (q := (RX12, TX12, 45)) (ci := 12) (c_X12_stands (G := G) hl0 h390 a394 x392 x393) dL_law_2228 (List.mem_singleton.mp hm) rfl rfl my_X12_stands im_X12_stands se_RX12_X12_stands ml_RL_245 rfl rfl (Nat.le_of_ble_eq_true rfl) (by decide) (by decide)) (fun h395 x396 => ?_)
  refine nr_istore (lv2 := [(6, .inl x396), (5, .inl x391), (0, .inr (some (nk_gB G))), (1, .inr v1), (2, .inr v2), (3, .inr v3), (4, .inl v4)]) dL_law_2231 (by decide) rfl ?_
  refine nr_aload_n 4 dL_law_2233 rfl ?_
  refine nr_rcv (ks := [19]) (pre := []) (fun a397 hm => ?_)
  refine nr_doI (st := []) (nk_callV (q := (RX12, TX12, 45)) (ci := 12) (c_X12_thrown (G := G) hl0 h395 a397) dL_law_2234 (List.mem_singleton.mp hm) rfl rfl my_X12_thrown im_X12_thrown se_RX12_X12_thrown ml_RL_144 rfl rfl (Nat.le_of_ble_eq_true rfl) (by decide) (by decide)) (fun h398 x399 => ?_)
  refine nr_iload 1 dL_law_2237 rfl ?_
  refine nr_icmp_eq (tgt := 2244) dL_law_2239 (by decide) (fun _ => ?_) (fun _ => ?_)
  · refine nr_iload 1 dL_law_2244 rfl ?_
    refine nr_if_ne (tgt := 2268) dL_law_2246 (by decide) (fun _ => ?_) (fun _ => ?_)
    · refine nr_aload_n 5 dL_law_2249 rfl ?_
      refine nr_iconst (v := 0) dL_law_2250 (by decide) ?_
      refine nr_lcZ (j := 0) (tgt := 2268) dL_law_2251 dL_law_2252 rfl dL_law_2254 (by decide) dL_law_2257 dL_law_2258 (by decide) dL_law_2261 dL_law_2262 dL_law_2263 (by decide) (fun x400 => ?_) (fun x400 => ?_)
      · exact nk_locals [2, 3, 4, 5, 6] rfl (s_L_law_c2268 hl0 hr23 h398 v1 v2 v3 v4)
      · refine nr_iconst (v := 0) dL_law_2266 (by decide) ?_
        exact nr_zret rfl rfl dL_law_2267
    · exact nk_locals [2, 3, 4, 5, 6] rfl (s_L_law_c2268 hl0 hr23 h398 v1 v2 v3 v4)
  · refine nr_iconst (v := 0) dL_law_2242 (by decide) ?_
    exact nr_zret rfl rfl dL_law_2243
set_option maxHeartbeats 4000000 in
theorem s_L_law_c2336 {G : nk_G} {l : Launch} (hl0 : l.flags = flags0) {r23 : nk_H → Option Nat → Option Nat → Option Nat → Int32 → Option (nk_H × Int32)} (hr23 : ∀ (h : nk_H)  (v1 : Option Nat) (v2 : Option Nat) (v3 : Option Nat) (v4 : Int32), nk_Sim G l RL cL_law 7 (some FieldType.boolean) 11 260 false nk_eI 23 [(0, .inr (some (nk_gB G))), (1, .inr v1), (2, .inr v2), (3, .inr v3), (4, .inl v4)] [] h (r23 h  v1 v2 v3 v4)) (h : nk_H)  (v1 : Option Nat) (v2 : Option Nat) (v3 : Option Nat) (v4 : Int32)  : nk_Sim G l RL cL_law 7 (some FieldType.boolean) 11 260 false nk_eI 2336 [(0, .inr (some (nk_gB G))), (1, .inr v1), (2, .inr v2), (3, .inr v3), (4, .inl v4)] [] h (f_L_law_c2336 G r23 h v1 v2 v3 v4 ) := by
  unfold f_L_law_c2336
  refine nr_goto (tgt := 2879) dL_law_2336 (by decide) ?_
  exact s_L_law_c2879 hl0 hr23 h v1 v2 v3 v4
set_option maxHeartbeats 4000000 in
theorem s_L_law_c2271 {G : nk_G} {l : Launch} (hl0 : l.flags = flags0) {r23 : nk_H → Option Nat → Option Nat → Option Nat → Int32 → Option (nk_H × Int32)} (hr23 : ∀ (h : nk_H)  (v1 : Option Nat) (v2 : Option Nat) (v3 : Option Nat) (v4 : Int32), nk_Sim G l RL cL_law 7 (some FieldType.boolean) 11 260 false nk_eI 23 [(0, .inr (some (nk_gB G))), (1, .inr v1), (2, .inr v2), (3, .inr v3), (4, .inl v4)] [] h (r23 h  v1 v2 v3 v4)) (h : nk_H)  (v1 : Option Nat) (v2 : Option Nat) (v3 : Option Nat) (v4 : Int32)  : nk_Sim G l RL cL_law 7 (some FieldType.boolean) 11 260 false nk_eI 2271 [(0, .inr (some (nk_gB G))), (1, .inr v1), (2, .inr v2), (3, .inr v3), (4, .inl v4)] [] h (f_L_law_c2271 G r23 h v1 v2 v3 v4 ) := by
  unfold f_L_law_c2271
  refine nr_aload_n 1 dL_law_2271 rfl ?_
  refine nr_aload_n 0 dL_law_2272 rfl ?_
  refine nr_iload 4 dL_law_2273 rfl ?_
  refine nr_iconst (v := 1) dL_law_2275 (by decide) ?_
  refine nr_iadd dL_law_2276 ?_
  refine nr_sld dL_law_2277 (fun x401 => ?_)
  refine nr_aload_n 0 dL_law_2278 rfl ?_
  refine nr_iload 4 dL_law_2279 rfl ?_
  refine nr_iconst (v := 2) dL_law_2281 (by decide) ?_
  refine nr_iadd dL_law_2282 ?_
  refine nr_sld dL_law_2283 (fun x402 => ?_)
  refine nr_aload_n 3 dL_law_2284 rfl ?_
  refine nr_doI (st := []) (nk_callSW (c_L_fault (G := G) hl0 h v1 x401 x402 v3) dL_law_2285 my_L_fault st_L_fault ml_RL_246 rfl rfl (Nat.le_of_ble_eq_true rfl) (by decide) (by decide)) (fun h403 x404 => ?_)
  refine nr_istore (lv2 := [(5, .inl x404), (0, .inr (some (nk_gB G))), (1, .inr v1), (2, .inr v2), (3, .inr v3), (4, .inl v4)]) dL_law_2288 (by decide) rfl ?_
  refine nr_aload_n 3 dL_law_2290 rfl ?_
  refine nr_aload_n 1 dL_law_2291 rfl ?_
  refine nr_iload 5 dL_law_2292 rfl ?_
  refine nr_iconst (v := 1) dL_law_2294 (by decide) ?_
  refine nr_iadd dL_law_2295 ?_
  refine nr_sld dL_law_2296 (fun x405 => ?_)
  refine nr_aload_n 1 dL_law_2297 rfl ?_
  refine nr_iload 5 dL_law_2298 rfl ?_
  refine nr_iconst (v := 2) dL_law_2300 (by decide) ?_
  refine nr_iadd dL_law_2301 ?_
  refine nr_sld dL_law_2302 (fun x406 => ?_)
  refine nr_rcv (ks := [19]) (pre := [.inl x406, .inl x405]) (fun a407 hm => ?_)
  refine nr_doI (st := []) (nk_callV (q := (RX12, TX12, 45)) (ci := 12) (c_X12_fault (G := G) hl0 h403 a407 x405 x406) dL_law_2303 (List.mem_singleton.mp hm) rfl rfl my_X12_fault im_X12_fault se_RX12_X12_fault ml_RL_248 rfl rfl (Nat.le_of_ble_eq_true rfl) (by decide) (by decide)) (fun h408 x409 => ?_)
  refine nr_istore (lv2 := [(6, .inl x409), (5, .inl x404), (0, .inr (some (nk_gB G))), (1, .inr v1), (2, .inr v2), (3, .inr v3), (4, .inl v4)]) dL_law_2306 (by decide) rfl ?_
  refine nr_aload_n 4 dL_law_2308 rfl ?_
  refine nr_rcv (ks := [19]) (pre := []) (fun a410 hm => ?_)
  refine nr_doI (st := []) (nk_callV (q := (RX12, TX12, 45)) (ci := 12) (c_X12_thrown (G := G) hl0 h408 a410) dL_law_2309 (List.mem_singleton.mp hm) rfl rfl my_X12_thrown im_X12_thrown se_RX12_X12_thrown ml_RL_144 rfl rfl (Nat.le_of_ble_eq_true rfl) (by decide) (by decide)) (fun h411 x412 => ?_)
  refine nr_iload 1 dL_law_2312 rfl ?_
  refine nr_icmp_eq (tgt := 2319) dL_law_2314 (by decide) (fun _ => ?_) (fun _ => ?_)
  · refine nr_iload 1 dL_law_2319 rfl ?_
    refine nr_if_ne (tgt := 2336) dL_law_2321 (by decide) (fun _ => ?_) (fun _ => ?_)
    · refine nr_aload_n 5 dL_law_2324 rfl ?_
      refine nr_iconst (v := 0) dL_law_2325 (by decide) ?_
      refine nr_lcI (j := 0) (tgt := 2336) dL_law_2326 dL_law_2327 rfl dL_law_2329 dL_law_2330 dL_law_2331 (by decide) (fun x413 => ?_) (fun x413 => ?_)
      · exact nk_locals [2, 3, 4, 5, 6] rfl (s_L_law_c2336 hl0 hr23 h411 v1 v2 v3 v4)
      · refine nr_iconst (v := 0) dL_law_2334 (by decide) ?_
        exact nr_zret rfl rfl dL_law_2335
    · exact nk_locals [2, 3, 4, 5, 6] rfl (s_L_law_c2336 hl0 hr23 h411 v1 v2 v3 v4)
  · refine nr_iconst (v := 0) dL_law_2317 (by decide) ?_
    exact nr_zret rfl rfl dL_law_2318
set_option maxHeartbeats 4000000 in
theorem s_L_law_c2339 {G : nk_G} {l : Launch} (hl0 : l.flags = flags0) {r23 : nk_H → Option Nat → Option Nat → Option Nat → Int32 → Option (nk_H × Int32)} (hr23 : ∀ (h : nk_H)  (v1 : Option Nat) (v2 : Option Nat) (v3 : Option Nat) (v4 : Int32), nk_Sim G l RL cL_law 7 (some FieldType.boolean) 11 260 false nk_eI 23 [(0, .inr (some (nk_gB G))), (1, .inr v1), (2, .inr v2), (3, .inr v3), (4, .inl v4)] [] h (r23 h  v1 v2 v3 v4)) (h : nk_H)  (v1 : Option Nat) (v2 : Option Nat) (v3 : Option Nat) (v4 : Int32)  : nk_Sim G l RL cL_law 7 (some FieldType.boolean) 11 260 false nk_eI 2339 [(0, .inr (some (nk_gB G))), (1, .inr v1), (2, .inr v2), (3, .inr v3), (4, .inl v4)] [] h (f_L_law_c2339 G r23 h v1 v2 v3 v4 ) := by
  unfold f_L_law_c2339
  refine nr_aload_n 1 dL_law_2339 rfl ?_
  refine nr_rcv (ks := [18]) (pre := []) (fun a414 hm => ?_)
  refine nr_doI (st := []) (nk_callV (q := (RX11, TX11, 9)) (ci := 11) (c_X11_standing (G := G) hl0 h a414) dL_law_2340 (List.mem_singleton.mp hm) rfl rfl my_X11_standing im_X11_standing se_RX11_X11_standing ml_RL_249 rfl rfl (Nat.le_of_ble_eq_true rfl) (by decide) (by decide)) (fun h415 x416 => ?_)
  refine nr_aload_n 2 dL_law_2343 rfl ?_
  refine nr_rcv (ks := [19]) (pre := []) (fun a417 hm => ?_)
  refine nr_doI (st := [.inl x416]) (nk_callV (q := (RX12, TX12, 45)) (ci := 12) (c_X12_standing (G := G) hl0 h415 a417) dL_law_2344 (List.mem_singleton.mp hm) rfl rfl my_X12_standing im_X12_standing se_RX12_X12_standing ml_RL_252 rfl rfl (Nat.le_of_ble_eq_true rfl) (by decide) (by decide)) (fun h418 x419 => ?_)
  refine nr_icmp_eq (tgt := 2879) dL_law_2347 (by decide) (fun _ => ?_) (fun _ => ?_)
  · exact s_L_law_c2879 hl0 hr23 h418 v1 v2 v3 v4
  · refine nr_iconst (v := 0) dL_law_2350 (by decide) ?_
    exact nr_zret rfl rfl dL_law_2351
set_option maxHeartbeats 4000000 in
theorem s_L_law_c2417 {G : nk_G} {l : Launch} (hl0 : l.flags = flags0) {r23 : nk_H → Option Nat → Option Nat → Option Nat → Int32 → Option (nk_H × Int32)} (hr23 : ∀ (h : nk_H)  (v1 : Option Nat) (v2 : Option Nat) (v3 : Option Nat) (v4 : Int32), nk_Sim G l RL cL_law 7 (some FieldType.boolean) 11 260 false nk_eI 23 [(0, .inr (some (nk_gB G))), (1, .inr v1), (2, .inr v2), (3, .inr v3), (4, .inl v4)] [] h (r23 h  v1 v2 v3 v4)) (h : nk_H)  (v1 : Option Nat) (v2 : Option Nat) (v3 : Option Nat) (v4 : Int32)  : nk_Sim G l RL cL_law 7 (some FieldType.boolean) 11 260 false nk_eI 2417 [(0, .inr (some (nk_gB G))), (1, .inr v1), (2, .inr v2), (3, .inr v3), (4, .inl v4)] [] h (f_L_law_c2417 G r23 h v1 v2 v3 v4 ) := by
  unfold f_L_law_c2417
  refine nr_goto (tgt := 2879) dL_law_2417 (by decide) ?_
  exact s_L_law_c2879 hl0 hr23 h v1 v2 v3 v4
set_option maxHeartbeats 4000000 in
theorem s_L_law_c2352 {G : nk_G} {l : Launch} (hl0 : l.flags = flags0) {r23 : nk_H → Option Nat → Option Nat → Option Nat → Int32 → Option (nk_H × Int32)} (hr23 : ∀ (h : nk_H)  (v1 : Option Nat) (v2 : Option Nat) (v3 : Option Nat) (v4 : Int32), nk_Sim G l RL cL_law 7 (some FieldType.boolean) 11 260 false nk_eI 23 [(0, .inr (some (nk_gB G))), (1, .inr v1), (2, .inr v2), (3, .inr v3), (4, .inl v4)] [] h (r23 h  v1 v2 v3 v4)) (h : nk_H)  (v1 : Option Nat) (v2 : Option Nat) (v3 : Option Nat) (v4 : Int32)  : nk_Sim G l RL cL_law 7 (some FieldType.boolean) 11 260 false nk_eI 2352 [(0, .inr (some (nk_gB G))), (1, .inr v1), (2, .inr v2), (3, .inr v3), (4, .inl v4)] [] h (f_L_law_c2352 G r23 h v1 v2 v3 v4 ) := by
  unfold f_L_law_c2352
  refine nr_aload_n 1 dL_law_2352 rfl ?_
  refine nr_aload_n 0 dL_law_2353 rfl ?_
  refine nr_iload 4 dL_law_2354 rfl ?_
  refine nr_iconst (v := 1) dL_law_2356 (by decide) ?_
  refine nr_iadd dL_law_2357 ?_
  refine nr_sld dL_law_2358 (fun x420 => ?_)
  refine nr_aload_n 0 dL_law_2359 rfl ?_
  refine nr_iload 4 dL_law_2360 rfl ?_
  refine nr_iconst (v := 2) dL_law_2362 (by decide) ?_
  refine nr_iadd dL_law_2363 ?_
  refine nr_sld dL_law_2364 (fun x421 => ?_)
  refine nr_aload_n 3 dL_law_2365 rfl ?_
  refine nr_doI (st := []) (nk_callSW (c_L_pieceOf (G := G) hl0 h v1 x420 x421 v3) dL_law_2366 my_L_pieceOf st_L_pieceOf ml_RL_253 rfl rfl (Nat.le_of_ble_eq_true rfl) (by decide) (by decide)) (fun h422 x423 => ?_)
  refine nr_istore (lv2 := [(5, .inl x423), (0, .inr (some (nk_gB G))), (1, .inr v1), (2, .inr v2), (3, .inr v3), (4, .inl v4)]) dL_law_2369 (by decide) rfl ?_
  refine nr_aload_n 3 dL_law_2371 rfl ?_
  refine nr_aload_n 1 dL_law_2372 rfl ?_
  refine nr_iload 5 dL_law_2373 rfl ?_
  refine nr_iconst (v := 1) dL_law_2375 (by decide) ?_
  refine nr_iadd dL_law_2376 ?_
  refine nr_sld dL_law_2377 (fun x424 => ?_)
  refine nr_aload_n 1 dL_law_2378 rfl ?_
  refine nr_iload 5 dL_law_2379 rfl ?_
  refine nr_iconst (v := 2) dL_law_2381 (by decide) ?_
  refine nr_iadd dL_law_2382 ?_
  refine nr_sld dL_law_2383 (fun x425 => ?_)
  refine nr_rcv (ks := [19]) (pre := [.inl x425, .inl x424]) (fun a426 hm => ?_)
  refine nr_doI (st := []) (nk_callV (q := (RX12, TX12, 45)) (ci := 12) (c_X12_pieceOf (G := G) hl0 h422 a426 x424 x425) dL_law_2384 (List.mem_singleton.mp hm) rfl rfl my_X12_pieceOf im_X12_pieceOf se_RX12_X12_pieceOf ml_RL_255 rfl rfl (Nat.le_of_ble_eq_true rfl) (by decide) (by decide)) (fun h427 x428 => ?_)
  refine nr_istore (lv2 := [(6, .inl x428), (5, .inl x423), (0, .inr (some (nk_gB G))), (1, .inr v1), (2, .inr v2), (3, .inr v3), (4, .inl v4)]) dL_law_2387 (by decide) rfl ?_
  refine nr_aload_n 4 dL_law_2389 rfl ?_
  refine nr_rcv (ks := [19]) (pre := []) (fun a429 hm => ?_)
  refine nr_doI (st := []) (nk_callV (q := (RX12, TX12, 45)) (ci := 12) (c_X12_thrown (G := G) hl0 h427 a429) dL_law_2390 (List.mem_singleton.mp hm) rfl rfl my_X12_thrown im_X12_thrown se_RX12_X12_thrown ml_RL_144 rfl rfl (Nat.le_of_ble_eq_true rfl) (by decide) (by decide)) (fun h430 x431 => ?_)
  refine nr_iload 1 dL_law_2393 rfl ?_
  refine nr_icmp_eq (tgt := 2400) dL_law_2395 (by decide) (fun _ => ?_) (fun _ => ?_)
  · refine nr_iload 1 dL_law_2400 rfl ?_
    refine nr_if_ne (tgt := 2417) dL_law_2402 (by decide) (fun _ => ?_) (fun _ => ?_)
    · refine nr_aload_n 5 dL_law_2405 rfl ?_
      refine nr_iconst (v := 0) dL_law_2406 (by decide) ?_
      refine nr_lcI (j := 0) (tgt := 2417) dL_law_2407 dL_law_2408 rfl dL_law_2410 dL_law_2411 dL_law_2412 (by decide) (fun x432 => ?_) (fun x432 => ?_)
      · exact nk_locals [2, 3, 4, 5, 6] rfl (s_L_law_c2417 hl0 hr23 h430 v1 v2 v3 v4)
      · refine nr_iconst (v := 0) dL_law_2415 (by decide) ?_
        exact nr_zret rfl rfl dL_law_2416
    · exact nk_locals [2, 3, 4, 5, 6] rfl (s_L_law_c2417 hl0 hr23 h430 v1 v2 v3 v4)
  · refine nr_iconst (v := 0) dL_law_2398 (by decide) ?_
    exact nr_zret rfl rfl dL_law_2399
set_option maxHeartbeats 4000000 in
theorem s_L_law_c2497 {G : nk_G} {l : Launch} (hl0 : l.flags = flags0) {r23 : nk_H → Option Nat → Option Nat → Option Nat → Int32 → Option (nk_H × Int32)} (hr23 : ∀ (h : nk_H)  (v1 : Option Nat) (v2 : Option Nat) (v3 : Option Nat) (v4 : Int32), nk_Sim G l RL cL_law 7 (some FieldType.boolean) 11 260 false nk_eI 23 [(0, .inr (some (nk_gB G))), (1, .inr v1), (2, .inr v2), (3, .inr v3), (4, .inl v4)] [] h (r23 h  v1 v2 v3 v4)) (h : nk_H)  (v1 : Option Nat) (v2 : Option Nat) (v3 : Option Nat) (v4 : Int32)  : nk_Sim G l RL cL_law 7 (some FieldType.boolean) 11 260 false nk_eI 2497 [(0, .inr (some (nk_gB G))), (1, .inr v1), (2, .inr v2), (3, .inr v3), (4, .inl v4)] [] h (f_L_law_c2497 G r23 h v1 v2 v3 v4 ) := by
  unfold f_L_law_c2497
  refine nr_goto (tgt := 2879) dL_law_2497 (by decide) ?_
  exact s_L_law_c2879 hl0 hr23 h v1 v2 v3 v4
set_option maxHeartbeats 4000000 in
theorem s_L_law_c2420 {G : nk_G} {l : Launch} (hl0 : l.flags = flags0) {r23 : nk_H → Option Nat → Option Nat → Option Nat → Int32 → Option (nk_H × Int32)} (hr23 : ∀ (h : nk_H)  (v1 : Option Nat) (v2 : Option Nat) (v3 : Option Nat) (v4 : Int32), nk_Sim G l RL cL_law 7 (some FieldType.boolean) 11 260 false nk_eI 23 [(0, .inr (some (nk_gB G))), (1, .inr v1), (2, .inr v2), (3, .inr v3), (4, .inl v4)] [] h (r23 h  v1 v2 v3 v4)) (h : nk_H)  (v1 : Option Nat) (v2 : Option Nat) (v3 : Option Nat) (v4 : Int32)  : nk_Sim G l RL cL_law 7 (some FieldType.boolean) 11 260 false nk_eI 2420 [(0, .inr (some (nk_gB G))), (1, .inr v1), (2, .inr v2), (3, .inr v3), (4, .inl v4)] [] h (f_L_law_c2420 G r23 h v1 v2 v3 v4 ) := by
  unfold f_L_law_c2420
  refine nr_aload_n 1 dL_law_2420 rfl ?_
  refine nr_aload_n 0 dL_law_2421 rfl ?_
  refine nr_iload 4 dL_law_2422 rfl ?_
  refine nr_iconst (v := 1) dL_law_2424 (by decide) ?_
  refine nr_iadd dL_law_2425 ?_
  refine nr_sld dL_law_2426 (fun x433 => ?_)
  refine nr_aload_n 0 dL_law_2427 rfl ?_
  refine nr_iload 4 dL_law_2428 rfl ?_
  refine nr_iconst (v := 2) dL_law_2430 (by decide) ?_
  refine nr_iadd dL_law_2431 ?_
  refine nr_sld dL_law_2432 (fun x434 => ?_)
  refine nr_aload_n 0 dL_law_2433 rfl ?_
  refine nr_iload 4 dL_law_2434 rfl ?_
  refine nr_iconst (v := 3) dL_law_2436 (by decide) ?_
  refine nr_iadd dL_law_2437 ?_
  refine nr_sld dL_law_2438 (fun x435 => ?_)
  refine nr_aload_n 3 dL_law_2439 rfl ?_
  refine nr_doI (st := []) (nk_callSW (c_L_part (G := G) hl0 h v1 x433 x434 x435 v3) dL_law_2440 my_L_part st_L_part ml_RL_256 rfl rfl (Nat.le_of_ble_eq_true rfl) (by decide) (by decide)) (fun h436 x437 => ?_)
  refine nr_istore (lv2 := [(5, .inl x437), (0, .inr (some (nk_gB G))), (1, .inr v1), (2, .inr v2), (3, .inr v3), (4, .inl v4)]) dL_law_2443 (by decide) rfl ?_
  refine nr_aload_n 3 dL_law_2445 rfl ?_
  refine nr_aload_n 1 dL_law_2446 rfl ?_
  refine nr_iload 5 dL_law_2447 rfl ?_
  refine nr_iconst (v := 1) dL_law_2449 (by decide) ?_
  refine nr_iadd dL_law_2450 ?_
  refine nr_sld dL_law_2451 (fun x438 => ?_)
  refine nr_aload_n 1 dL_law_2452 rfl ?_
  refine nr_iload 5 dL_law_2453 rfl ?_
  refine nr_iconst (v := 2) dL_law_2455 (by decide) ?_
  refine nr_iadd dL_law_2456 ?_
  refine nr_sld dL_law_2457 (fun x439 => ?_)
  refine nr_aload_n 1 dL_law_2458 rfl ?_
  refine nr_iload 5 dL_law_2459 rfl ?_
  refine nr_iconst (v := 3) dL_law_2461 (by decide) ?_
  refine nr_iadd dL_law_2462 ?_
  refine nr_sld dL_law_2463 (fun x440 => ?_)
  refine nr_rcv (ks := [19]) (pre := [.inl x440, .inl x439, .inl x438]) (fun a441 hm => ?_)
  refine nr_doI (st := []) (nk_callV (q := (RX12, TX12, 45)) (ci := 12) (c_X12_part (G := G) hl0 h436 a441 x438 x439 x440) dL_law_2464 (List.mem_singleton.mp hm) rfl rfl my_X12_part im_X12_part se_RX12_X12_part ml_RL_258 rfl rfl (Nat.le_of_ble_eq_true rfl) (by decide) (by decide)) (fun h442 x443 => ?_)
  refine nr_istore (lv2 := [(6, .inl x443), (5, .inl x437), (0, .inr (some (nk_gB G))), (1, .inr v1), (2, .inr v2), (3, .inr v3), (4, .inl v4)]) dL_law_2467 (by decide) rfl ?_
  refine nr_aload_n 4 dL_law_2469 rfl ?_
  refine nr_rcv (ks := [19]) (pre := []) (fun a444 hm => ?_)
  refine nr_doI (st := []) (nk_callV (q := (RX12, TX12, 45)) (ci := 12) (c_X12_thrown (G := G) hl0 h442 a444) dL_law_2470 (List.mem_singleton.mp hm) rfl rfl my_X12_thrown im_X12_thrown se_RX12_X12_thrown ml_RL_144 rfl rfl (Nat.le_of_ble_eq_true rfl) (by decide) (by decide)) (fun h445 x446 => ?_)
  refine nr_iload 1 dL_law_2473 rfl ?_
  refine nr_icmp_eq (tgt := 2480) dL_law_2475 (by decide) (fun _ => ?_) (fun _ => ?_)
  · refine nr_iload 1 dL_law_2480 rfl ?_
    refine nr_if_ne (tgt := 2497) dL_law_2482 (by decide) (fun _ => ?_) (fun _ => ?_)
    · refine nr_aload_n 5 dL_law_2485 rfl ?_
      refine nr_iconst (v := 0) dL_law_2486 (by decide) ?_
      refine nr_lcI (j := 0) (tgt := 2497) dL_law_2487 dL_law_2488 rfl dL_law_2490 dL_law_2491 dL_law_2492 (by decide) (fun x447 => ?_) (fun x447 => ?_)
      · exact nk_locals [2, 3, 4, 5, 6] rfl (s_L_law_c2497 hl0 hr23 h445 v1 v2 v3 v4)
      · refine nr_iconst (v := 0) dL_law_2495 (by decide) ?_
        exact nr_zret rfl rfl dL_law_2496
    · exact nk_locals [2, 3, 4, 5, 6] rfl (s_L_law_c2497 hl0 hr23 h445 v1 v2 v3 v4)
  · refine nr_iconst (v := 0) dL_law_2478 (by decide) ?_
    exact nr_zret rfl rfl dL_law_2479
set_option maxHeartbeats 4000000 in
theorem s_L_law_c2565 {G : nk_G} {l : Launch} (hl0 : l.flags = flags0) {r23 : nk_H → Option Nat → Option Nat → Option Nat → Int32 → Option (nk_H × Int32)} (hr23 : ∀ (h : nk_H)  (v1 : Option Nat) (v2 : Option Nat) (v3 : Option Nat) (v4 : Int32), nk_Sim G l RL cL_law 7 (some FieldType.boolean) 11 260 false nk_eI 23 [(0, .inr (some (nk_gB G))), (1, .inr v1), (2, .inr v2), (3, .inr v3), (4, .inl v4)] [] h (r23 h  v1 v2 v3 v4)) (h : nk_H)  (v1 : Option Nat) (v2 : Option Nat) (v3 : Option Nat) (v4 : Int32)  : nk_Sim G l RL cL_law 7 (some FieldType.boolean) 11 260 false nk_eI 2565 [(0, .inr (some (nk_gB G))), (1, .inr v1), (2, .inr v2), (3, .inr v3), (4, .inl v4)] [] h (f_L_law_c2565 G r23 h v1 v2 v3 v4 ) := by
  unfold f_L_law_c2565
  refine nr_goto (tgt := 2879) dL_law_2565 (by decide) ?_
  exact s_L_law_c2879 hl0 hr23 h v1 v2 v3 v4
set_option maxHeartbeats 4000000 in
theorem s_L_law_c2500 {G : nk_G} {l : Launch} (hl0 : l.flags = flags0) {r23 : nk_H → Option Nat → Option Nat → Option Nat → Int32 → Option (nk_H × Int32)} (hr23 : ∀ (h : nk_H)  (v1 : Option Nat) (v2 : Option Nat) (v3 : Option Nat) (v4 : Int32), nk_Sim G l RL cL_law 7 (some FieldType.boolean) 11 260 false nk_eI 23 [(0, .inr (some (nk_gB G))), (1, .inr v1), (2, .inr v2), (3, .inr v3), (4, .inl v4)] [] h (r23 h  v1 v2 v3 v4)) (h : nk_H)  (v1 : Option Nat) (v2 : Option Nat) (v3 : Option Nat) (v4 : Int32)  : nk_Sim G l RL cL_law 7 (some FieldType.boolean) 11 260 false nk_eI 2500 [(0, .inr (some (nk_gB G))), (1, .inr v1), (2, .inr v2), (3, .inr v3), (4, .inl v4)] [] h (f_L_law_c2500 G r23 h v1 v2 v3 v4 ) := by
  unfold f_L_law_c2500
  refine nr_aload_n 1 dL_law_2500 rfl ?_
  refine nr_aload_n 0 dL_law_2501 rfl ?_
  refine nr_iload 4 dL_law_2502 rfl ?_
  refine nr_iconst (v := 1) dL_law_2504 (by decide) ?_
  refine nr_iadd dL_law_2505 ?_
  refine nr_sld dL_law_2506 (fun x448 => ?_)
  refine nr_aload_n 0 dL_law_2507 rfl ?_
  refine nr_iload 4 dL_law_2508 rfl ?_
  refine nr_iconst (v := 2) dL_law_2510 (by decide) ?_
  refine nr_iadd dL_law_2511 ?_
  refine nr_sld dL_law_2512 (fun x449 => ?_)
  refine nr_aload_n 3 dL_law_2513 rfl ?_
  refine nr_doI (st := []) (nk_callSW (c_L_seal (G := G) hl0 h v1 x448 x449 v3) dL_law_2514 my_L_seal st_L_seal ml_RL_259 rfl rfl (Nat.le_of_ble_eq_true rfl) (by decide) (by decide)) (fun h450 x451 => ?_)
  refine nr_istore (lv2 := [(5, .inl x451), (0, .inr (some (nk_gB G))), (1, .inr v1), (2, .inr v2), (3, .inr v3), (4, .inl v4)]) dL_law_2517 (by decide) rfl ?_
  refine nr_aload_n 3 dL_law_2519 rfl ?_
  refine nr_aload_n 1 dL_law_2520 rfl ?_
  refine nr_iload 5 dL_law_2521 rfl ?_
  refine nr_iconst (v := 1) dL_law_2523 (by decide) ?_
  refine nr_iadd dL_law_2524 ?_
  refine nr_sld dL_law_2525 (fun x452 => ?_)
  refine nr_aload_n 1 dL_law_2526 rfl ?_
  refine nr_iload 5 dL_law_2527 rfl ?_
  refine nr_iconst (v := 2) dL_law_2529 (by decide) ?_
  refine nr_iadd dL_law_2530 ?_
  refine nr_sld dL_law_2531 (fun x453 => ?_)
  refine nr_rcv (ks := [19]) (pre := [.inl x453, .inl x452]) (fun a454 hm => ?_)
  refine nr_doI (st := []) (nk_callV (q := (RX12, TX12, 45)) (ci := 12) (c_X12_seal (G := G) hl0 h450 a454 x452 x453) dL_law_2532 (List.mem_singleton.mp hm) rfl rfl my_X12_seal im_X12_seal se_RX12_X12_seal ml_RL_261 rfl rfl (Nat.le_of_ble_eq_true rfl) (by decide) (by decide)) (fun h455 x456 => ?_)
  refine nr_istore (lv2 := [(6, .inl x456), (5, .inl x451), (0, .inr (some (nk_gB G))), (1, .inr v1), (2, .inr v2), (3, .inr v3), (4, .inl v4)]) dL_law_2535 (by decide) rfl ?_
  refine nr_aload_n 4 dL_law_2537 rfl ?_
  refine nr_rcv (ks := [19]) (pre := []) (fun a457 hm => ?_)
  refine nr_doI (st := []) (nk_callV (q := (RX12, TX12, 45)) (ci := 12) (c_X12_thrown (G := G) hl0 h455 a457) dL_law_2538 (List.mem_singleton.mp hm) rfl rfl my_X12_thrown im_X12_thrown se_RX12_X12_thrown ml_RL_144 rfl rfl (Nat.le_of_ble_eq_true rfl) (by decide) (by decide)) (fun h458 x459 => ?_)
  refine nr_iload 1 dL_law_2541 rfl ?_
  refine nr_icmp_eq (tgt := 2548) dL_law_2543 (by decide) (fun _ => ?_) (fun _ => ?_)
  · refine nr_iload 1 dL_law_2548 rfl ?_
    refine nr_if_ne (tgt := 2565) dL_law_2550 (by decide) (fun _ => ?_) (fun _ => ?_)
    · refine nr_aload_n 5 dL_law_2553 rfl ?_
      refine nr_iconst (v := 0) dL_law_2554 (by decide) ?_
      refine nr_lcI (j := 0) (tgt := 2565) dL_law_2555 dL_law_2556 rfl dL_law_2558 dL_law_2559 dL_law_2560 (by decide) (fun x460 => ?_) (fun x460 => ?_)
      · exact nk_locals [2, 3, 4, 5, 6] rfl (s_L_law_c2565 hl0 hr23 h458 v1 v2 v3 v4)
      · refine nr_iconst (v := 0) dL_law_2563 (by decide) ?_
        exact nr_zret rfl rfl dL_law_2564
    · exact nk_locals [2, 3, 4, 5, 6] rfl (s_L_law_c2565 hl0 hr23 h458 v1 v2 v3 v4)
  · refine nr_iconst (v := 0) dL_law_2546 (by decide) ?_
    exact nr_zret rfl rfl dL_law_2547
set_option maxHeartbeats 4000000 in
theorem s_L_law_c2621 {G : nk_G} {l : Launch} (hl0 : l.flags = flags0) {r23 : nk_H → Option Nat → Option Nat → Option Nat → Int32 → Option (nk_H × Int32)} (hr23 : ∀ (h : nk_H)  (v1 : Option Nat) (v2 : Option Nat) (v3 : Option Nat) (v4 : Int32), nk_Sim G l RL cL_law 7 (some FieldType.boolean) 11 260 false nk_eI 23 [(0, .inr (some (nk_gB G))), (1, .inr v1), (2, .inr v2), (3, .inr v3), (4, .inl v4)] [] h (r23 h  v1 v2 v3 v4)) (h : nk_H)  (v1 : Option Nat) (v2 : Option Nat) (v3 : Option Nat) (v4 : Int32)  : nk_Sim G l RL cL_law 7 (some FieldType.boolean) 11 260 false nk_eI 2621 [(0, .inr (some (nk_gB G))), (1, .inr v1), (2, .inr v2), (3, .inr v3), (4, .inl v4)] [] h (f_L_law_c2621 G r23 h v1 v2 v3 v4 ) := by
  unfold f_L_law_c2621
  refine nr_goto (tgt := 2879) dL_law_2621 (by decide) ?_
  exact s_L_law_c2879 hl0 hr23 h v1 v2 v3 v4
set_option maxHeartbeats 4000000 in
theorem s_L_law_c2568 {G : nk_G} {l : Launch} (hl0 : l.flags = flags0) {r23 : nk_H → Option Nat → Option Nat → Option Nat → Int32 → Option (nk_H × Int32)} (hr23 : ∀ (h : nk_H)  (v1 : Option Nat) (v2 : Option Nat) (v3 : Option Nat) (v4 : Int32), nk_Sim G l RL cL_law 7 (some FieldType.boolean) 11 260 false nk_eI 23 [(0, .inr (some (nk_gB G))), (1, .inr v1), (2, .inr v2), (3, .inr v3), (4, .inl v4)] [] h (r23 h  v1 v2 v3 v4)) (h : nk_H)  (v1 : Option Nat) (v2 : Option Nat) (v3 : Option Nat) (v4 : Int32)  : nk_Sim G l RL cL_law 7 (some FieldType.boolean) 11 260 false nk_eI 2568 [(0, .inr (some (nk_gB G))), (1, .inr v1), (2, .inr v2), (3, .inr v3), (4, .inl v4)] [] h (f_L_law_c2568 G r23 h v1 v2 v3 v4 ) := by
  unfold f_L_law_c2568
  refine nr_aload_n 1 dL_law_2568 rfl ?_
  refine nr_aload_n 0 dL_law_2569 rfl ?_
  refine nr_iload 4 dL_law_2570 rfl ?_
  refine nr_iconst (v := 1) dL_law_2572 (by decide) ?_
  refine nr_iadd dL_law_2573 ?_
  refine nr_sld dL_law_2574 (fun x461 => ?_)
  refine nr_aload_n 3 dL_law_2575 rfl ?_
  refine nr_doI (st := []) (nk_callSW (c_L_broken (G := G) hl0 h v1 x461 v3) dL_law_2576 my_L_broken st_L_broken ml_RL_262 rfl rfl (Nat.le_of_ble_eq_true rfl) (by decide) (by decide)) (fun h462 x463 => ?_)
  refine nr_istore (lv2 := [(5, .inl x463), (0, .inr (some (nk_gB G))), (1, .inr v1), (2, .inr v2), (3, .inr v3), (4, .inl v4)]) dL_law_2579 (by decide) rfl ?_
  refine nr_aload_n 3 dL_law_2581 rfl ?_
  refine nr_aload_n 1 dL_law_2582 rfl ?_
  refine nr_iload 5 dL_law_2583 rfl ?_
  refine nr_iconst (v := 1) dL_law_2585 (by decide) ?_
  refine nr_iadd dL_law_2586 ?_
  refine nr_sld dL_law_2587 (fun x464 => ?_)
  refine nr_rcv (ks := [19]) (pre := [.inl x464]) (fun a465 hm => ?_)
  refine nr_doI (st := []) (nk_callV (q := (RX12, TX12, 45)) (ci := 12) (c_X12_broken (G := G) hl0 h462 a465 x464) dL_law_2588 (List.mem_singleton.mp hm) rfl rfl my_X12_broken im_X12_broken se_RX12_X12_broken ml_RL_264 rfl rfl (Nat.le_of_ble_eq_true rfl) (by decide) (by decide)) (fun h466 x467 => ?_)
  refine nr_istore (lv2 := [(6, .inl x467), (5, .inl x463), (0, .inr (some (nk_gB G))), (1, .inr v1), (2, .inr v2), (3, .inr v3), (4, .inl v4)]) dL_law_2591 (by decide) rfl ?_
  refine nr_aload_n 4 dL_law_2593 rfl ?_
  refine nr_rcv (ks := [19]) (pre := []) (fun a468 hm => ?_)
  refine nr_doI (st := []) (nk_callV (q := (RX12, TX12, 45)) (ci := 12) (c_X12_thrown (G := G) hl0 h466 a468) dL_law_2594 (List.mem_singleton.mp hm) rfl rfl my_X12_thrown im_X12_thrown se_RX12_X12_thrown ml_RL_144 rfl rfl (Nat.le_of_ble_eq_true rfl) (by decide) (by decide)) (fun h469 x470 => ?_)
  refine nr_iload 1 dL_law_2597 rfl ?_
  refine nr_icmp_eq (tgt := 2604) dL_law_2599 (by decide) (fun _ => ?_) (fun _ => ?_)
  · refine nr_iload 1 dL_law_2604 rfl ?_
    refine nr_if_ne (tgt := 2621) dL_law_2606 (by decide) (fun _ => ?_) (fun _ => ?_)
    · refine nr_aload_n 5 dL_law_2609 rfl ?_
      refine nr_iconst (v := 0) dL_law_2610 (by decide) ?_
      refine nr_lcI (j := 0) (tgt := 2621) dL_law_2611 dL_law_2612 rfl dL_law_2614 dL_law_2615 dL_law_2616 (by decide) (fun x471 => ?_) (fun x471 => ?_)
      · exact nk_locals [2, 3, 4, 5, 6] rfl (s_L_law_c2621 hl0 hr23 h469 v1 v2 v3 v4)
      · refine nr_iconst (v := 0) dL_law_2619 (by decide) ?_
        exact nr_zret rfl rfl dL_law_2620
    · exact nk_locals [2, 3, 4, 5, 6] rfl (s_L_law_c2621 hl0 hr23 h469 v1 v2 v3 v4)
  · refine nr_iconst (v := 0) dL_law_2602 (by decide) ?_
    exact nr_zret rfl rfl dL_law_2603
set_option maxHeartbeats 4000000 in
theorem s_L_law_c2677 {G : nk_G} {l : Launch} (hl0 : l.flags = flags0) {r23 : nk_H → Option Nat → Option Nat → Option Nat → Int32 → Option (nk_H × Int32)} (hr23 : ∀ (h : nk_H)  (v1 : Option Nat) (v2 : Option Nat) (v3 : Option Nat) (v4 : Int32), nk_Sim G l RL cL_law 7 (some FieldType.boolean) 11 260 false nk_eI 23 [(0, .inr (some (nk_gB G))), (1, .inr v1), (2, .inr v2), (3, .inr v3), (4, .inl v4)] [] h (r23 h  v1 v2 v3 v4)) (h : nk_H)  (v1 : Option Nat) (v2 : Option Nat) (v3 : Option Nat) (v4 : Int32)  : nk_Sim G l RL cL_law 7 (some FieldType.boolean) 11 260 false nk_eI 2677 [(0, .inr (some (nk_gB G))), (1, .inr v1), (2, .inr v2), (3, .inr v3), (4, .inl v4)] [] h (f_L_law_c2677 G r23 h v1 v2 v3 v4 ) := by
  unfold f_L_law_c2677
  refine nr_goto (tgt := 2879) dL_law_2677 (by decide) ?_
  exact s_L_law_c2879 hl0 hr23 h v1 v2 v3 v4
set_option maxHeartbeats 4000000 in
theorem s_L_law_c2624 {G : nk_G} {l : Launch} (hl0 : l.flags = flags0) {r23 : nk_H → Option Nat → Option Nat → Option Nat → Int32 → Option (nk_H × Int32)} (hr23 : ∀ (h : nk_H)  (v1 : Option Nat) (v2 : Option Nat) (v3 : Option Nat) (v4 : Int32), nk_Sim G l RL cL_law 7 (some FieldType.boolean) 11 260 false nk_eI 23 [(0, .inr (some (nk_gB G))), (1, .inr v1), (2, .inr v2), (3, .inr v3), (4, .inl v4)] [] h (r23 h  v1 v2 v3 v4)) (h : nk_H)  (v1 : Option Nat) (v2 : Option Nat) (v3 : Option Nat) (v4 : Int32)  : nk_Sim G l RL cL_law 7 (some FieldType.boolean) 11 260 false nk_eI 2624 [(0, .inr (some (nk_gB G))), (1, .inr v1), (2, .inr v2), (3, .inr v3), (4, .inl v4)] [] h (f_L_law_c2624 G r23 h v1 v2 v3 v4 ) := by
  unfold f_L_law_c2624
  refine nr_aload_n 1 dL_law_2624 rfl ?_
  refine nr_aload_n 0 dL_law_2625 rfl ?_
  refine nr_iload 4 dL_law_2626 rfl ?_
  refine nr_iconst (v := 1) dL_law_2628 (by decide) ?_
  refine nr_iadd dL_law_2629 ?_
  refine nr_sld dL_law_2630 (fun x472 => ?_)
  refine nr_aload_n 3 dL_law_2631 rfl ?_
  refine nr_doI (st := []) (nk_callSW (c_L_size (G := G) hl0 h v1 x472 v3) dL_law_2632 my_L_size st_L_size ml_RL_265 rfl rfl (Nat.le_of_ble_eq_true rfl) (by decide) (by decide)) (fun h473 x474 => ?_)
  refine nr_istore (lv2 := [(5, .inl x474), (0, .inr (some (nk_gB G))), (1, .inr v1), (2, .inr v2), (3, .inr v3), (4, .inl v4)]) dL_law_2635 (by decide) rfl ?_
  refine nr_aload_n 3 dL_law_2637 rfl ?_
  refine nr_aload_n 1 dL_law_2638 rfl ?_
  refine nr_iload 5 dL_law_2639 rfl ?_
  refine nr_iconst (v := 1) dL_law_2641 (by decide) ?_
  refine nr_iadd dL_law_2642 ?_
  refine nr_sld dL_law_2643 (fun x475 => ?_)
  refine nr_rcv (ks := [19]) (pre := [.inl x475]) (fun a476 hm => ?_)
  refine nr_doI (st := []) (nk_callV (q := (RX12, TX12, 45)) (ci := 12) (c_X12_size (G := G) hl0 h473 a476 x475) dL_law_2644 (List.mem_singleton.mp hm) rfl rfl my_X12_size im_X12_size se_RX12_X12_size ml_RL_267 rfl rfl (Nat.le_of_ble_eq_true rfl) (by decide) (by decide)) (fun h477 x478 => ?_)
  refine nr_istore (lv2 := [(6, .inl x478), (5, .inl x474), (0, .inr (some (nk_gB G))), (1, .inr v1), (2, .inr v2), (3, .inr v3), (4, .inl v4)]) dL_law_2647 (by decide) rfl ?_
  refine nr_aload_n 4 dL_law_2649 rfl ?_
  refine nr_rcv (ks := [19]) (pre := []) (fun a479 hm => ?_)
  refine nr_doI (st := []) (nk_callV (q := (RX12, TX12, 45)) (ci := 12) (c_X12_thrown (G := G) hl0 h477 a479) dL_law_2650 (List.mem_singleton.mp hm) rfl rfl my_X12_thrown im_X12_thrown se_RX12_X12_thrown ml_RL_144 rfl rfl (Nat.le_of_ble_eq_true rfl) (by decide) (by decide)) (fun h480 x481 => ?_)
  refine nr_iload 1 dL_law_2653 rfl ?_
  refine nr_icmp_eq (tgt := 2660) dL_law_2655 (by decide) (fun _ => ?_) (fun _ => ?_)
  · refine nr_iload 1 dL_law_2660 rfl ?_
    refine nr_if_ne (tgt := 2677) dL_law_2662 (by decide) (fun _ => ?_) (fun _ => ?_)
    · refine nr_aload_n 5 dL_law_2665 rfl ?_
      refine nr_iconst (v := 0) dL_law_2666 (by decide) ?_
      refine nr_lcI (j := 0) (tgt := 2677) dL_law_2667 dL_law_2668 rfl dL_law_2670 dL_law_2671 dL_law_2672 (by decide) (fun x482 => ?_) (fun x482 => ?_)
      · exact nk_locals [2, 3, 4, 5, 6] rfl (s_L_law_c2677 hl0 hr23 h480 v1 v2 v3 v4)
      · refine nr_iconst (v := 0) dL_law_2675 (by decide) ?_
        exact nr_zret rfl rfl dL_law_2676
    · exact nk_locals [2, 3, 4, 5, 6] rfl (s_L_law_c2677 hl0 hr23 h480 v1 v2 v3 v4)
  · refine nr_iconst (v := 0) dL_law_2658 (by decide) ?_
    exact nr_zret rfl rfl dL_law_2659
set_option maxHeartbeats 4000000 in
theorem s_L_law_c2757 {G : nk_G} {l : Launch} (hl0 : l.flags = flags0) {r23 : nk_H → Option Nat → Option Nat → Option Nat → Int32 → Option (nk_H × Int32)} (hr23 : ∀ (h : nk_H)  (v1 : Option Nat) (v2 : Option Nat) (v3 : Option Nat) (v4 : Int32), nk_Sim G l RL cL_law 7 (some FieldType.boolean) 11 260 false nk_eI 23 [(0, .inr (some (nk_gB G))), (1, .inr v1), (2, .inr v2), (3, .inr v3), (4, .inl v4)] [] h (r23 h  v1 v2 v3 v4)) (h : nk_H)  (v1 : Option Nat) (v2 : Option Nat) (v3 : Option Nat) (v4 : Int32)  : nk_Sim G l RL cL_law 7 (some FieldType.boolean) 11 260 false nk_eI 2757 [(0, .inr (some (nk_gB G))), (1, .inr v1), (2, .inr v2), (3, .inr v3), (4, .inl v4)] [] h (f_L_law_c2757 G r23 h v1 v2 v3 v4 ) := by
  unfold f_L_law_c2757
  refine nr_goto (tgt := 2879) dL_law_2757 (by decide) ?_
  exact s_L_law_c2879 hl0 hr23 h v1 v2 v3 v4
set_option maxHeartbeats 4000000 in
theorem s_L_law_c2680 {G : nk_G} {l : Launch} (hl0 : l.flags = flags0) {r23 : nk_H → Option Nat → Option Nat → Option Nat → Int32 → Option (nk_H × Int32)} (hr23 : ∀ (h : nk_H)  (v1 : Option Nat) (v2 : Option Nat) (v3 : Option Nat) (v4 : Int32), nk_Sim G l RL cL_law 7 (some FieldType.boolean) 11 260 false nk_eI 23 [(0, .inr (some (nk_gB G))), (1, .inr v1), (2, .inr v2), (3, .inr v3), (4, .inl v4)] [] h (r23 h  v1 v2 v3 v4)) (h : nk_H)  (v1 : Option Nat) (v2 : Option Nat) (v3 : Option Nat) (v4 : Int32)  : nk_Sim G l RL cL_law 7 (some FieldType.boolean) 11 260 false nk_eI 2680 [(0, .inr (some (nk_gB G))), (1, .inr v1), (2, .inr v2), (3, .inr v3), (4, .inl v4)] [] h (f_L_law_c2680 G r23 h v1 v2 v3 v4 ) := by
  unfold f_L_law_c2680
  refine nr_aload_n 1 dL_law_2680 rfl ?_
  refine nr_aload_n 0 dL_law_2681 rfl ?_
  refine nr_iload 4 dL_law_2682 rfl ?_
  refine nr_iconst (v := 1) dL_law_2684 (by decide) ?_
  refine nr_iadd dL_law_2685 ?_
  refine nr_sld dL_law_2686 (fun x483 => ?_)
  refine nr_aload_n 0 dL_law_2687 rfl ?_
  refine nr_iload 4 dL_law_2688 rfl ?_
  refine nr_iconst (v := 2) dL_law_2690 (by decide) ?_
  refine nr_iadd dL_law_2691 ?_
  refine nr_sld dL_law_2692 (fun x484 => ?_)
  refine nr_aload_n 0 dL_law_2693 rfl ?_
  refine nr_iload 4 dL_law_2694 rfl ?_
  refine nr_iconst (v := 3) dL_law_2696 (by decide) ?_
  refine nr_iadd dL_law_2697 ?_
  refine nr_sld dL_law_2698 (fun x485 => ?_)
  refine nr_aload_n 3 dL_law_2699 rfl ?_
  refine nr_doI (st := []) (nk_callSW (c_L_copied (G := G) hl0 h v1 x483 x484 x485 v3) dL_law_2700 my_L_copied st_L_copied ml_RL_268 rfl rfl (Nat.le_of_ble_eq_true rfl) (by decide) (by decide)) (fun h486 x487 => ?_)
  refine nr_istore (lv2 := [(5, .inl x487), (0, .inr (some (nk_gB G))), (1, .inr v1), (2, .inr v2), (3, .inr v3), (4, .inl v4)]) dL_law_2703 (by decide) rfl ?_
  refine nr_aload_n 3 dL_law_2705 rfl ?_
  refine nr_aload_n 1 dL_law_2706 rfl ?_
  refine nr_iload 5 dL_law_2707 rfl ?_
  refine nr_iconst (v := 1) dL_law_2709 (by decide) ?_
  refine nr_iadd dL_law_2710 ?_
  refine nr_sld dL_law_2711 (fun x488 => ?_)
  refine nr_aload_n 1 dL_law_2712 rfl ?_
  refine nr_iload 5 dL_law_2713 rfl ?_
  refine nr_iconst (v := 2) dL_law_2715 (by decide) ?_
  refine nr_iadd dL_law_2716 ?_
  refine nr_sld dL_law_2717 (fun x489 => ?_)
  refine nr_aload_n 1 dL_law_2718 rfl ?_
  refine nr_iload 5 dL_law_2719 rfl ?_
  refine nr_iconst (v := 3) dL_law_2721 (by decide) ?_
  refine nr_iadd dL_law_2722 ?_
  refine nr_sld dL_law_2723 (fun x490 => ?_)
  refine nr_rcv (ks := [19]) (pre := [.inl x490, .inl x489, .inl x488]) (fun a491 hm => ?_)
  refine nr_doI (st := []) (nk_callV (q := (RX12, TX12, 45)) (ci := 12) (c_X12_copied (G := G) hl0 h486 a491 x488 x489 x490) dL_law_2724 (List.mem_singleton.mp hm) rfl rfl my_X12_copied im_X12_copied se_RX12_X12_copied ml_RL_270 rfl rfl (Nat.le_of_ble_eq_true rfl) (by decide) (by decide)) (fun h492 x493 => ?_)
  refine nr_istore (lv2 := [(6, .inl x493), (5, .inl x487), (0, .inr (some (nk_gB G))), (1, .inr v1), (2, .inr v2), (3, .inr v3), (4, .inl v4)]) dL_law_2727 (by decide) rfl ?_
  refine nr_aload_n 4 dL_law_2729 rfl ?_
  refine nr_rcv (ks := [19]) (pre := []) (fun a494 hm => ?_)
  refine nr_doI (st := []) (nk_callV (q := (RX12, TX12, 45)) (ci := 12) (c_X12_thrown (G := G) hl0 h492 a494) dL_law_2730 (List.mem_singleton.mp hm) rfl rfl my_X12_thrown im_X12_thrown se_RX12_X12_thrown ml_RL_144 rfl rfl (Nat.le_of_ble_eq_true rfl) (by decide) (by decide)) (fun h495 x496 => ?_)
  refine nr_iload 1 dL_law_2733 rfl ?_
  refine nr_icmp_eq (tgt := 2740) dL_law_2735 (by decide) (fun _ => ?_) (fun _ => ?_)
  · refine nr_iload 1 dL_law_2740 rfl ?_
    refine nr_if_ne (tgt := 2757) dL_law_2742 (by decide) (fun _ => ?_) (fun _ => ?_)
    · refine nr_aload_n 5 dL_law_2745 rfl ?_
      refine nr_iconst (v := 0) dL_law_2746 (by decide) ?_
      refine nr_lcI (j := 0) (tgt := 2757) dL_law_2747 dL_law_2748 rfl dL_law_2750 dL_law_2751 dL_law_2752 (by decide) (fun x497 => ?_) (fun x497 => ?_)
      · exact nk_locals [2, 3, 4, 5, 6] rfl (s_L_law_c2757 hl0 hr23 h495 v1 v2 v3 v4)
      · refine nr_iconst (v := 0) dL_law_2755 (by decide) ?_
        exact nr_zret rfl rfl dL_law_2756
    · exact nk_locals [2, 3, 4, 5, 6] rfl (s_L_law_c2757 hl0 hr23 h495 v1 v2 v3 v4)
  · refine nr_iconst (v := 0) dL_law_2738 (by decide) ?_
    exact nr_zret rfl rfl dL_law_2739
set_option maxHeartbeats 4000000 in
theorem s_L_law_c2813 {G : nk_G} {l : Launch} (hl0 : l.flags = flags0) {r23 : nk_H → Option Nat → Option Nat → Option Nat → Int32 → Option (nk_H × Int32)} (hr23 : ∀ (h : nk_H)  (v1 : Option Nat) (v2 : Option Nat) (v3 : Option Nat) (v4 : Int32), nk_Sim G l RL cL_law 7 (some FieldType.boolean) 11 260 false nk_eI 23 [(0, .inr (some (nk_gB G))), (1, .inr v1), (2, .inr v2), (3, .inr v3), (4, .inl v4)] [] h (r23 h  v1 v2 v3 v4)) (h : nk_H)  (v1 : Option Nat) (v2 : Option Nat) (v3 : Option Nat) (v4 : Int32)  : nk_Sim G l RL cL_law 7 (some FieldType.boolean) 11 260 false nk_eI 2813 [(0, .inr (some (nk_gB G))), (1, .inr v1), (2, .inr v2), (3, .inr v3), (4, .inl v4)] [] h (f_L_law_c2813 G r23 h v1 v2 v3 v4 ) := by
  unfold f_L_law_c2813
  refine nr_goto (tgt := 2879) dL_law_2813 (by decide) ?_
  exact s_L_law_c2879 hl0 hr23 h v1 v2 v3 v4
set_option maxHeartbeats 4000000 in
theorem s_L_law_c2760 {G : nk_G} {l : Launch} (hl0 : l.flags = flags0) {r23 : nk_H → Option Nat → Option Nat → Option Nat → Int32 → Option (nk_H × Int32)} (hr23 : ∀ (h : nk_H)  (v1 : Option Nat) (v2 : Option Nat) (v3 : Option Nat) (v4 : Int32), nk_Sim G l RL cL_law 7 (some FieldType.boolean) 11 260 false nk_eI 23 [(0, .inr (some (nk_gB G))), (1, .inr v1), (2, .inr v2), (3, .inr v3), (4, .inl v4)] [] h (r23 h  v1 v2 v3 v4)) (h : nk_H)  (v1 : Option Nat) (v2 : Option Nat) (v3 : Option Nat) (v4 : Int32)  : nk_Sim G l RL cL_law 7 (some FieldType.boolean) 11 260 false nk_eI 2760 [(0, .inr (some (nk_gB G))), (1, .inr v1), (2, .inr v2), (3, .inr v3), (4, .inl v4)] [] h (f_L_law_c2760 G r23 h v1 v2 v3 v4 ) := by
  unfold f_L_law_c2760
  refine nr_aload_n 1 dL_law_2760 rfl ?_
  refine nr_aload_n 0 dL_law_2761 rfl ?_
  refine nr_iload 4 dL_law_2762 rfl ?_
  refine nr_iconst (v := 1) dL_law_2764 (by decide) ?_
  refine nr_iadd dL_law_2765 ?_
  refine nr_sld dL_law_2766 (fun x498 => ?_)
  refine nr_aload_n 3 dL_law_2767 rfl ?_
  refine nr_doI (st := []) (nk_callSW (c_L_brokenCopy (G := G) hl0 h v1 x498 v3) dL_law_2768 my_L_brokenCopy st_L_brokenCopy ml_RL_271 rfl rfl (Nat.le_of_ble_eq_true rfl) (by decide) (by decide)) (fun h499 x500 => ?_)
  refine nr_istore (lv2 := [(5, .inl x500), (0, .inr (some (nk_gB G))), (1, .inr v1), (2, .inr v2), (3, .inr v3), (4, .inl v4)]) dL_law_2771 (by decide) rfl ?_
  refine nr_aload_n 3 dL_law_2773 rfl ?_
  refine nr_aload_n 1 dL_law_2774 rfl ?_
  refine nr_iload 5 dL_law_2775 rfl ?_
  refine nr_iconst (v := 1) dL_law_2777 (by decide) ?_
  refine nr_iadd dL_law_2778 ?_
  refine nr_sld dL_law_2779 (fun x501 => ?_)
  refine nr_rcv (ks := [19]) (pre := [.inl x501]) (fun a502 hm => ?_)
  refine nr_doI (st := []) (nk_callV (q := (RX12, TX12, 45)) (ci := 12) (c_X12_brokenCopy (G := G) hl0 h499 a502 x501) dL_law_2780 (List.mem_singleton.mp hm) rfl rfl my_X12_brokenCopy im_X12_brokenCopy se_RX12_X12_brokenCopy ml_RL_273 rfl rfl (Nat.le_of_ble_eq_true rfl) (by decide) (by decide)) (fun h503 x504 => ?_)
  refine nr_istore (lv2 := [(6, .inl x504), (5, .inl x500), (0, .inr (some (nk_gB G))), (1, .inr v1), (2, .inr v2), (3, .inr v3), (4, .inl v4)]) dL_law_2783 (by decide) rfl ?_
  refine nr_aload_n 4 dL_law_2785 rfl ?_
  refine nr_rcv (ks := [19]) (pre := []) (fun a505 hm => ?_)
  refine nr_doI (st := []) (nk_callV (q := (RX12, TX12, 45)) (ci := 12) (c_X12_thrown (G := G) hl0 h503 a505) dL_law_2786 (List.mem_singleton.mp hm) rfl rfl my_X12_thrown im_X12_thrown se_RX12_X12_thrown ml_RL_144 rfl rfl (Nat.le_of_ble_eq_true rfl) (by decide) (by decide)) (fun h506 x507 => ?_)
  refine nr_iload 1 dL_law_2789 rfl ?_
  refine nr_icmp_eq (tgt := 2796) dL_law_2791 (by decide) (fun _ => ?_) (fun _ => ?_)
  · refine nr_iload 1 dL_law_2796 rfl ?_
    refine nr_if_ne (tgt := 2813) dL_law_2798 (by decide) (fun _ => ?_) (fun _ => ?_)
    · refine nr_aload_n 5 dL_law_2801 rfl ?_
      refine nr_iconst (v := 0) dL_law_2802 (by decide) ?_
      refine nr_lcI (j := 0) (tgt := 2813) dL_law_2803 dL_law_2804 rfl dL_law_2806 dL_law_2807 dL_law_2808 (by decide) (fun x508 => ?_) (fun x508 => ?_)
      · exact nk_locals [2, 3, 4, 5, 6] rfl (s_L_law_c2813 hl0 hr23 h506 v1 v2 v3 v4)
      · refine nr_iconst (v := 0) dL_law_2811 (by decide) ?_
        exact nr_zret rfl rfl dL_law_2812
    · exact nk_locals [2, 3, 4, 5, 6] rfl (s_L_law_c2813 hl0 hr23 h506 v1 v2 v3 v4)
  · refine nr_iconst (v := 0) dL_law_2794 (by decide) ?_
    exact nr_zret rfl rfl dL_law_2795
set_option maxHeartbeats 4000000 in
theorem s_L_law_c2876 {G : nk_G} {l : Launch} (hl0 : l.flags = flags0) {r23 : nk_H → Option Nat → Option Nat → Option Nat → Int32 → Option (nk_H × Int32)} (hr23 : ∀ (h : nk_H)  (v1 : Option Nat) (v2 : Option Nat) (v3 : Option Nat) (v4 : Int32), nk_Sim G l RL cL_law 7 (some FieldType.boolean) 11 260 false nk_eI 23 [(0, .inr (some (nk_gB G))), (1, .inr v1), (2, .inr v2), (3, .inr v3), (4, .inl v4)] [] h (r23 h  v1 v2 v3 v4)) (h : nk_H)  (v1 : Option Nat) (v2 : Option Nat) (v3 : Option Nat) (v4 : Int32)  : nk_Sim G l RL cL_law 7 (some FieldType.boolean) 11 260 false nk_eI 2876 [(0, .inr (some (nk_gB G))), (1, .inr v1), (2, .inr v2), (3, .inr v3), (4, .inl v4)] [] h (f_L_law_c2876 G r23 h v1 v2 v3 v4 ) := by
  unfold f_L_law_c2876
  refine nr_goto (tgt := 2879) dL_law_2876 (by decide) ?_
  exact s_L_law_c2879 hl0 hr23 h v1 v2 v3 v4
set_option maxHeartbeats 4000000 in
theorem s_L_law_c2816 {G : nk_G} {l : Launch} (hl0 : l.flags = flags0) {r23 : nk_H → Option Nat → Option Nat → Option Nat → Int32 → Option (nk_H × Int32)} (hr23 : ∀ (h : nk_H)  (v1 : Option Nat) (v2 : Option Nat) (v3 : Option Nat) (v4 : Int32), nk_Sim G l RL cL_law 7 (some FieldType.boolean) 11 260 false nk_eI 23 [(0, .inr (some (nk_gB G))), (1, .inr v1), (2, .inr v2), (3, .inr v3), (4, .inl v4)] [] h (r23 h  v1 v2 v3 v4)) (h : nk_H)  (v1 : Option Nat) (v2 : Option Nat) (v3 : Option Nat) (v4 : Int32)  : nk_Sim G l RL cL_law 7 (some FieldType.boolean) 11 260 false nk_eI 2816 [(0, .inr (some (nk_gB G))), (1, .inr v1), (2, .inr v2), (3, .inr v3), (4, .inl v4)] [] h (f_L_law_c2816 G r23 h v1 v2 v3 v4 ) := by
  unfold f_L_law_c2816
  refine nr_aload_n 1 dL_law_2816 rfl ?_
  refine nr_aload_n 0 dL_law_2817 rfl ?_
  refine nr_iload 4 dL_law_2818 rfl ?_
  refine nr_iconst (v := 1) dL_law_2820 (by decide) ?_
  refine nr_iadd dL_law_2821 ?_
  refine nr_sld dL_law_2822 (fun x509 => ?_)
  refine nr_aload_n 3 dL_law_2823 rfl ?_
  refine nr_doI (st := []) (nk_callSW (c_L_isTrue (G := G) hl0 h v1 x509 v3) dL_law_2824 my_L_isTrue st_L_isTrue ml_RL_274 rfl rfl (Nat.le_of_ble_eq_true rfl) (by decide) (by decide)) (fun h510 x511 => ?_)
  refine nr_istore (lv2 := [(5, .inl x511), (0, .inr (some (nk_gB G))), (1, .inr v1), (2, .inr v2), (3, .inr v3), (4, .inl v4)]) dL_law_2827 (by decide) rfl ?_
  refine nr_aload_n 3 dL_law_2829 rfl ?_
  refine nr_aload_n 1 dL_law_2830 rfl ?_
  refine nr_iload 5 dL_law_2831 rfl ?_
  refine nr_iconst (v := 1) dL_law_2833 (by decide) ?_
  refine nr_iadd dL_law_2834 ?_
  refine nr_sld dL_law_2835 (fun x512 => ?_)
  refine nr_rcv (ks := [19]) (pre := [.inl x512]) (fun a513 hm => ?_)
  refine nr_doI (st := []) (nk_callV (q := (RX12, TX12, 45)) (ci := 12) (c_X12_isTrue (G := G) hl0 h510 a513 x512) dL_law_2836 (List.mem_singleton.mp hm) rfl rfl my_X12_isTrue im_X12_isTrue se_RX12_X12_isTrue ml_RL_276 rfl rfl (Nat.le_of_ble_eq_true rfl) (by decide) (by decide)) (fun h514 x515 => ?_)
  refine nr_istore (lv2 := [(6, .inl x515), (5, .inl x511), (0, .inr (some (nk_gB G))), (1, .inr v1), (2, .inr v2), (3, .inr v3), (4, .inl v4)]) dL_law_2839 (by decide) rfl ?_
  refine nr_aload_n 4 dL_law_2841 rfl ?_
  refine nr_rcv (ks := [19]) (pre := []) (fun a516 hm => ?_)
  refine nr_doI (st := []) (nk_callV (q := (RX12, TX12, 45)) (ci := 12) (c_X12_thrown (G := G) hl0 h514 a516) dL_law_2842 (List.mem_singleton.mp hm) rfl rfl my_X12_thrown im_X12_thrown se_RX12_X12_thrown ml_RL_144 rfl rfl (Nat.le_of_ble_eq_true rfl) (by decide) (by decide)) (fun h517 x518 => ?_)
  refine nr_iload 1 dL_law_2845 rfl ?_
  refine nr_icmp_eq (tgt := 2852) dL_law_2847 (by decide) (fun _ => ?_) (fun _ => ?_)
  · refine nr_iload 1 dL_law_2852 rfl ?_
    refine nr_if_ne (tgt := 2876) dL_law_2854 (by decide) (fun _ => ?_) (fun _ => ?_)
    · refine nr_aload_n 5 dL_law_2857 rfl ?_
      refine nr_iconst (v := 0) dL_law_2858 (by decide) ?_
      refine nr_lcZ (j := 0) (tgt := 2876) dL_law_2859 dL_law_2860 rfl dL_law_2862 (by decide) dL_law_2865 dL_law_2866 (by decide) dL_law_2869 dL_law_2870 dL_law_2871 (by decide) (fun x519 => ?_) (fun x519 => ?_)
      · exact nk_locals [2, 3, 4, 5, 6] rfl (s_L_law_c2876 hl0 hr23 h517 v1 v2 v3 v4)
      · refine nr_iconst (v := 0) dL_law_2874 (by decide) ?_
        exact nr_zret rfl rfl dL_law_2875
    · exact nk_locals [2, 3, 4, 5, 6] rfl (s_L_law_c2876 hl0 hr23 h517 v1 v2 v3 v4)
  · refine nr_iconst (v := 0) dL_law_2850 (by decide) ?_
    exact nr_zret rfl rfl dL_law_2851
set_option maxHeartbeats 4000000 in
theorem s_L_law_c23 {G : nk_G} {l : Launch} (hl0 : l.flags = flags0) {r23 : nk_H → Option Nat → Option Nat → Option Nat → Int32 → Option (nk_H × Int32)} (hr23 : ∀ (h : nk_H)  (v1 : Option Nat) (v2 : Option Nat) (v3 : Option Nat) (v4 : Int32), nk_Sim G l RL cL_law 7 (some FieldType.boolean) 11 260 false nk_eI 23 [(0, .inr (some (nk_gB G))), (1, .inr v1), (2, .inr v2), (3, .inr v3), (4, .inl v4)] [] h (r23 h  v1 v2 v3 v4)) (h : nk_H)  (v1 : Option Nat) (v2 : Option Nat) (v3 : Option Nat) (v4 : Int32)  : nk_Sim G l RL cL_law 7 (some FieldType.boolean) 11 260 false nk_eI 23 [(0, .inr (some (nk_gB G))), (1, .inr v1), (2, .inr v2), (3, .inr v3), (4, .inl v4)] [] h (f_L_law_c23 G r23 h v1 v2 v3 v4 ) := by
  unfold f_L_law_c23
  refine nr_iload 4 dL_law_23 rfl ?_
  refine nr_aload_n 0 dL_law_25 rfl ?_
  refine nr_slen dL_law_26 ?_
  refine nr_bipush (v := 6) dL_law_27 (by decide) ?_
  refine nr_isub dL_law_29 ?_
  refine nr_icmp_gt (tgt := 2885) dL_law_30 (by decide) (fun _ => ?_) (fun _ => ?_)
  · refine nr_iconst (v := 1) dL_law_2885 (by decide) ?_
    exact nr_zret rfl rfl dL_law_2886
  · refine nr_aload_n 0 dL_law_33 rfl ?_
    refine nr_iload 4 dL_law_34 rfl ?_
    refine nr_sld dL_law_36 (fun x520 => ?_)
    refine nr_bipush (v := 63) dL_law_37 (by decide) ?_
    refine nr_iand dL_law_39 ?_
    exact nr_tswL (tgt := 2879) dL_law_40 rfl rfl (by decide) (s_L_law_c2879 hl0 hr23 h v1 v2 v3 v4) ⟨⟨180, 220, rfl, by decide, s_L_law_c220 hl0 hr23 h v1 v2 v3 v4⟩, ⟨248, 288, rfl, by decide, s_L_law_c288 hl0 hr23 h v1 v2 v3 v4⟩, ⟨316, 356, rfl, by decide, s_L_law_c356 hl0 hr23 h v1 v2 v3 v4⟩, ⟨372, 412, rfl, by decide, s_L_law_c412 hl0 hr23 h v1 v2 v3 v4⟩, ⟨428, 468, rfl, by decide, s_L_law_c468 hl0 hr23 h v1 v2 v3 v4⟩, ⟨512, 552, rfl, by decide, s_L_law_c552 hl0 hr23 h v1 v2 v3 v4⟩, ⟨592, 632, rfl, by decide, s_L_law_c632 hl0 hr23 h v1 v2 v3 v4⟩, ⟨672, 712, rfl, by decide, s_L_law_c712 hl0 hr23 h v1 v2 v3 v4⟩, ⟨752, 792, rfl, by decide, s_L_law_c792 hl0 hr23 h v1 v2 v3 v4⟩, ⟨832, 872, rfl, by decide, s_L_law_c872 hl0 hr23 h v1 v2 v3 v4⟩, ⟨880, 920, rfl, by decide, s_L_law_c920 hl0 hr23 h v1 v2 v3 v4⟩, ⟨972, 1012, rfl, by decide, s_L_law_c1012 hl0 hr23 h v1 v2 v3 v4⟩, ⟨1052, 1092, rfl, by decide, s_L_law_c1092 hl0 hr23 h v1 v2 v3 v4⟩, ⟨1144, 1184, rfl, by decide, s_L_law_c1184 hl0 hr23 h v1 v2 v3 v4⟩, ⟨1236, 1276, rfl, by decide, s_L_law_c1276 hl0 hr23 h v1 v2 v3 v4⟩, ⟨1249, 1289, rfl, by decide, s_L_law_c1289 hl0 hr23 h v1 v2 v3 v4⟩, ⟨1262, 1302, rfl, by decide, s_L_law_c1302 hl0 hr23 h v1 v2 v3 v4⟩, ⟨1275, 1315, rfl, by decide, s_L_law_c1315 hl0 hr23 h v1 v2 v3 v4⟩, ⟨1331, 1371, rfl, by decide, s_L_law_c1371 hl0 hr23 h v1 v2 v3 v4⟩, ⟨1406, 1446, rfl, by decide, s_L_law_c1446 hl0 hr23 h v1 v2 v3 v4⟩, ⟨1474, 1514, rfl, by decide, s_L_law_c1514 hl0 hr23 h v1 v2 v3 v4⟩, ⟨1542, 1582, rfl, by decide, s_L_law_c1582 hl0 hr23 h v1 v2 v3 v4⟩, ⟨1617, 1657, rfl, by decide, s_L_law_c1657 hl0 hr23 h v1 v2 v3 v4⟩, ⟨1673, 1713, rfl, by decide, s_L_law_c1713 hl0 hr23 h v1 v2 v3 v4⟩, ⟨1729, 1769, rfl, by decide, s_L_law_c1769 hl0 hr23 h v1 v2 v3 v4⟩, ⟨1785, 1825, rfl, by decide, s_L_law_c1825 hl0 hr23 h v1 v2 v3 v4⟩, ⟨1860, 1900, rfl, by decide, s_L_law_c1900 hl0 hr23 h v1 v2 v3 v4⟩, ⟨1928, 1968, rfl, by decide, s_L_law_c1968 hl0 hr23 h v1 v2 v3 v4⟩, ⟨1984, 2024, rfl, by decide, s_L_law_c2024 hl0 hr23 h v1 v2 v3 v4⟩, ⟨2076, 2116, rfl, by decide, s_L_law_c2116 hl0 hr23 h v1 v2 v3 v4⟩, ⟨2156, 2196, rfl, by decide, s_L_law_c2196 hl0 hr23 h v1 v2 v3 v4⟩, ⟨2231, 2271, rfl, by decide, s_L_law_c2271 hl0 hr23 h v1 v2 v3 v4⟩, ⟨2299, 2339, rfl, by decide, s_L_law_c2339 hl0 hr23 h v1 v2 v3 v4⟩, ⟨2312, 2352, rfl, by decide, s_L_law_c2352 hl0 hr23 h v1 v2 v3 v4⟩, ⟨2380, 2420, rfl, by decide, s_L_law_c2420 hl0 hr23 h v1 v2 v3 v4⟩, ⟨2460, 2500, rfl, by decide, s_L_law_c2500 hl0 hr23 h v1 v2 v3 v4⟩, ⟨2528, 2568, rfl, by decide, s_L_law_c2568 hl0 hr23 h v1 v2 v3 v4⟩, ⟨2584, 2624, rfl, by decide, s_L_law_c2624 hl0 hr23 h v1 v2 v3 v4⟩, ⟨2640, 2680, rfl, by decide, s_L_law_c2680 hl0 hr23 h v1 v2 v3 v4⟩, ⟨2720, 2760, rfl, by decide, s_L_law_c2760 hl0 hr23 h v1 v2 v3 v4⟩, ⟨2776, 2816, rfl, by decide, s_L_law_c2816 hl0 hr23 h v1 v2 v3 v4⟩, trivial⟩
theorem s_L_law_b23 {G : nk_G} {l : Launch} (hl0 : l.flags = flags0)   : ∀ (n : Nat) (h : nk_H)  (v1 : Option Nat) (v2 : Option Nat) (v3 : Option Nat) (v4 : Int32), nk_Sim G l RL cL_law 7 (some FieldType.boolean) 11 260 false nk_eI 23 [(0, .inr (some (nk_gB G))), (1, .inr v1), (2, .inr v2), (3, .inr v3), (4, .inl v4)] [] h (f_L_law_b23 G  n h v1 v2 v3 v4)
  | 0, _, _, _, _, _ => nk_none
  | n + 1, h, v1, v2, v3, v4 => s_L_law_c23 hl0 (s_L_law_b23 hl0  n) h v1 v2 v3 v4
set_option maxHeartbeats 4000000 in
theorem s_L_law {G : nk_G} {l : Launch} (hl0 : l.flags = flags0) (h : nk_H)  : nk_Sim G l RL cL_law 7 (some FieldType.boolean) 11 260 false nk_eI 0 [(0, .inr (some (nk_gB G)))] [] h (f_L_law G h ) := by
  unfold f_L_law
  refine nr_newb (q := (RX11, TX11, 9)) 11 rfl dL_law_0 cl_RL_8 ins_RX11 in_RX11 rfl (fun h521 => ?_)
  refine nr_dup dL_law_3 ?_
  refine nr_doV (st := [.inr (some (nk_N h))]) (nk_callI (c_X11_init (G := G) hl0 h521 (nk_N h)) dL_law_4 my_X11_init rfl im_X11_init ml_RL_134 rfl rfl (Nat.le_of_ble_eq_true rfl) (by decide) (by decide)) (fun h522 x523 => ?_)
  refine nr_astore_n (lv2 := [(1, .inr (some (nk_N h))), (0, .inr (some (nk_gB G)))]) dL_law_7 (by decide) rfl ?_
  refine nr_newb (q := (RX12, TX12, 45)) 12 rfl dL_law_8 cl_RL_135 ins_RX12 in_RX12 rfl (fun h524 => ?_)
  refine nr_dup dL_law_11 ?_
  refine nr_doV (st := [.inr (some (nk_N h522))]) (nk_callI (c_X12_init (G := G) hl0 h524 (nk_N h522)) dL_law_12 my_X12_init rfl im_X12_init ml_RL_137 rfl rfl (Nat.le_of_ble_eq_true rfl) (by decide) (by decide)) (fun h525 x526 => ?_)
  refine nr_astore_n (lv2 := [(2, .inr (some (nk_N h522))), (1, .inr (some (nk_N h))), (0, .inr (some (nk_gB G)))]) dL_law_15 (by decide) rfl ?_
  refine nr_iconst (v := 1) dL_law_16 (by decide) ?_
  refine nr_newarray 6 (by decide) dL_law_17 ac_long (fun h527 => ?_)
  refine nr_astore_n (lv2 := [(3, .inr (some (nk_N h525))), (2, .inr (some (nk_N h522))), (1, .inr (some (nk_N h))), (0, .inr (some (nk_gB G)))]) dL_law_19 (by decide) rfl ?_
  refine nr_iconst (v := 0) dL_law_20 (by decide) ?_
  refine nr_istore (lv2 := [(4, .inl 0), (3, .inr (some (nk_N h525))), (2, .inr (some (nk_N h522))), (1, .inr (some (nk_N h))), (0, .inr (some (nk_gB G)))]) dL_law_21 (by decide) rfl ?_
  exact nk_locals [4, 3, 2, 1, 0] rfl (s_L_law_b23 hl0  4096 h527 (some (nk_N h)) (some (nk_N h522)) (some (nk_N h525)) 0)
