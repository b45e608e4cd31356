set_option maxHeartbeats 4000000 in
theorem s_L_law_c286 {G : nk_G} {l : Launch} (hl0 : l.flags = flags0) {r21 : nk_H → Option Nat → Option Nat → Int32 → Int32 → Option (nk_H × Int32)} (hr21 : ∀ (h : nk_H)  (v1 : Option Nat) (v2 : Option Nat) (v3 : Int32) (v4 : Int32), nk_Sim G l RL cL_law 7 (some FieldType.boolean) 12 297 false nk_eI 21 [(0, .inr (some (nk_gB G))), (1, .inr v1), (2, .inr v2), (3, .inl v3), (4, .inl v4)] [] h (r21 h  v1 v2 v3 v4)) (h : nk_H)  (v1 : Option Nat) (v2 : Option Nat) (v3 : Int32) (v4 : Int32)  : nk_Sim G l RL cL_law 7 (some FieldType.boolean) 12 297 false nk_eI 286 [(0, .inr (some (nk_gB G))), (1, .inr v1), (2, .inr v2), (3, .inl v3), (4, .inl v4)] [] h (f_L_law_c286 G r21 h v1 v2 v3 v4 ) := by
  unfold f_L_law_c286
  refine nr_iinc (lv2 := [(4, .inl (v4 + 1)), (0, .inr (some (nk_gB G))), (1, .inr v1), (2, .inr v2), (3, .inl v3)]) 4 (v4 + 1) dL_law_286 rfl (by rfl) (by decide) rfl ?_
  refine nr_goto (tgt := 21) dL_law_289 (by decide) ?_
  exact nk_locals [1, 2, 3, 4, 0] rfl (hr21 h v1 v2 v3 (v4 + 1))
set_option maxHeartbeats 4000000 in
theorem s_L_law_c285 {G : nk_G} {l : Launch} (hl0 : l.flags = flags0) {r21 : nk_H → Option Nat → Option Nat → Int32 → Int32 → Option (nk_H × Int32)} (hr21 : ∀ (h : nk_H)  (v1 : Option Nat) (v2 : Option Nat) (v3 : Int32) (v4 : Int32), nk_Sim G l RL cL_law 7 (some FieldType.boolean) 12 297 false nk_eI 21 [(0, .inr (some (nk_gB G))), (1, .inr v1), (2, .inr v2), (3, .inl v3), (4, .inl v4)] [] h (r21 h  v1 v2 v3 v4)) (h : nk_H)  (v1 : Option Nat) (v2 : Option Nat) (v4 : Int32) (s0 : Int32) : nk_Sim G l RL cL_law 7 (some FieldType.boolean) 12 297 false nk_eI 285 [(0, .inr (some (nk_gB G))), (1, .inr v1), (2, .inr v2), (4, .inl v4)] [.inl s0] h (f_L_law_c285 G r21 h v1 v2 v4 s0) := by
  unfold f_L_law_c285
  refine nr_istore_n (lv2 := [(3, .inl s0), (0, .inr (some (nk_gB G))), (1, .inr v1), (2, .inr v2), (4, .inl v4)]) dL_law_285 (by decide) rfl ?_
  exact nk_locals [1, 2, 3, 0, 4] rfl (s_L_law_c286 hl0 hr21 h v1 v2 s0 v4)
set_option maxHeartbeats 4000000 in
theorem s_L_law_c284 {G : nk_G} {l : Launch} (hl0 : l.flags = flags0) {r21 : nk_H → Option Nat → Option Nat → Int32 → Int32 → Option (nk_H × Int32)} (hr21 : ∀ (h : nk_H)  (v1 : Option Nat) (v2 : Option Nat) (v3 : Int32) (v4 : Int32), nk_Sim G l RL cL_law 7 (some FieldType.boolean) 12 297 false nk_eI 21 [(0, .inr (some (nk_gB G))), (1, .inr v1), (2, .inr v2), (3, .inl v3), (4, .inl v4)] [] h (r21 h  v1 v2 v3 v4)) (h : nk_H)  (v1 : Option Nat) (v2 : Option Nat) (v4 : Int32)  : nk_Sim G l RL cL_law 7 (some FieldType.boolean) 12 297 false nk_eI 284 [(0, .inr (some (nk_gB G))), (1, .inr v1), (2, .inr v2), (4, .inl v4)] [] h (f_L_law_c284 G r21 h v1 v2 v4 ) := by
  unfold f_L_law_c284
  refine nr_iconst (v := 0) dL_law_284 (by decide) ?_
  exact s_L_law_c285 hl0 hr21 h v1 v2 v4 0
set_option maxHeartbeats 4000000 in
theorem s_L_law_c239 {G : nk_G} {l : Launch} (hl0 : l.flags = flags0) {r21 : nk_H → Option Nat → Option Nat → Int32 → Int32 → Option (nk_H × Int32)} (hr21 : ∀ (h : nk_H)  (v1 : Option Nat) (v2 : Option Nat) (v3 : Int32) (v4 : Int32), nk_Sim G l RL cL_law 7 (some FieldType.boolean) 12 297 false nk_eI 21 [(0, .inr (some (nk_gB G))), (1, .inr v1), (2, .inr v2), (3, .inl v3), (4, .inl v4)] [] h (r21 h  v1 v2 v3 v4)) (h : nk_H)  (v1 : Option Nat) (v2 : Option Nat) (v3 : Int32) (v4 : Int32) (v5 : Int32)  : nk_Sim G l RL cL_law 7 (some FieldType.boolean) 12 297 false nk_eI 239 [(0, .inr (some (nk_gB G))), (1, .inr v1), (2, .inr v2), (3, .inl v3), (4, .inl v4), (5, .inl v5)] [] h (f_L_law_c239 G r21 h v1 v2 v3 v4 v5 ) := by
  unfold f_L_law_c239
  refine nr_iload 4 dL_law_239 rfl ?_
  refine nr_bipush (v := 23) dL_law_241 (by decide) ?_
  refine nr_irem dL_law_243 (by decide) ?_
  refine nr_bipush (v := 15) dL_law_244 (by decide) ?_
  refine nr_icmp_ne (tgt := 286) dL_law_246 (by decide) (fun _ => ?_) (fun _ => ?_)
  · refine nr_iload_n 3 dL_law_249 rfl ?_
    refine nr_if_eq (tgt := 284) dL_law_250 (by decide) (fun _ => ?_) (fun _ => ?_)
    · exact nk_locals [0, 1, 2, 4] rfl (s_L_law_c284 hl0 hr21 h v1 v2 v4)
    · refine nr_aload_n 1 dL_law_253 rfl ?_
      refine nr_aload_n 2 dL_law_254 rfl ?_
      refine nr_iload 5 dL_law_255 rfl ?_
      refine nr_bipush (v := 6) dL_law_257 (by decide) ?_
      refine nr_ishr dL_law_259 ?_
      refine nr_iconst (v := 4) dL_law_260 (by decide) ?_
      refine nr_doI (st := [.inr v2, .inr v1]) (nk_callS (c_L_low (G := G) hl0 h (v5 >>> (6 &&& 31)) 4) dL_law_261 my_L_low st_L_low ml_RL_93 rfl rfl (Nat.le_of_ble_eq_true rfl) (by decide) (by decide)) (fun h1 x2 => ?_)
      refine nr_iload 5 dL_law_264 rfl ?_
      refine nr_bipush (v := 8) dL_law_266 (by decide) ?_
      refine nr_ishr dL_law_268 ?_
      refine nr_bipush (v := 64) dL_law_269 (by decide) ?_
      refine nr_doI (st := [.inl x2, .inr v2, .inr v1]) (nk_callS (c_L_low (G := G) hl0 h1 (v5 >>> (8 &&& 31)) 64) dL_law_271 my_L_low st_L_low ml_RL_93 rfl rfl (Nat.le_of_ble_eq_true rfl) (by decide) (by decide)) (fun h3 x4 => ?_)
      refine nr_doI (st := []) (nk_callS (c_L_isCopySo (G := G) hl0 h3 v1 v2 x2 x4) dL_law_274 my_L_isCopySo st_L_isCopySo ml_RL_190 rfl rfl (Nat.le_of_ble_eq_true rfl) (by decide) (by decide)) (fun h5 x6 => ?_)
      refine nr_if_eq (tgt := 284) dL_law_277 (by decide) (fun _ => ?_) (fun _ => ?_)
      · exact nk_locals [0, 1, 2, 4] rfl (s_L_law_c284 hl0 hr21 h5 v1 v2 v4)
      · refine nr_iconst (v := 1) dL_law_280 (by decide) ?_
        refine nr_goto (tgt := 285) dL_law_281 (by decide) ?_
        exact nk_locals [0, 1, 2, 4] rfl (s_L_law_c285 hl0 hr21 h5 v1 v2 v4 1)
  · exact nk_locals [0, 1, 2, 3, 4] rfl (s_L_law_c286 hl0 hr21 h v1 v2 v3 v4)
set_option maxHeartbeats 4000000 in
theorem s_L_law_c238 {G : nk_G} {l : Launch} (hl0 : l.flags = flags0) {r21 : nk_H → Option Nat → Option Nat → Int32 → Int32 → Option (nk_H × Int32)} (hr21 : ∀ (h : nk_H)  (v1 : Option Nat) (v2 : Option Nat) (v3 : Int32) (v4 : Int32), nk_Sim G l RL cL_law 7 (some FieldType.boolean) 12 297 false nk_eI 21 [(0, .inr (some (nk_gB G))), (1, .inr v1), (2, .inr v2), (3, .inl v3), (4, .inl v4)] [] h (r21 h  v1 v2 v3 v4)) (h : nk_H)  (v1 : Option Nat) (v2 : Option Nat) (v4 : Int32) (v5 : Int32) (s0 : Int32) : nk_Sim G l RL cL_law 7 (some FieldType.boolean) 12 297 false nk_eI 238 [(0, .inr (some (nk_gB G))), (1, .inr v1), (2, .inr v2), (4, .inl v4), (5, .inl v5)] [.inl s0] h (f_L_law_c238 G r21 h v1 v2 v4 v5 s0) := by
  unfold f_L_law_c238
  refine nr_istore_n (lv2 := [(3, .inl s0), (0, .inr (some (nk_gB G))), (1, .inr v1), (2, .inr v2), (4, .inl v4), (5, .inl v5)]) dL_law_238 (by decide) rfl ?_
  exact nk_locals [1, 2, 3, 0, 4, 5] rfl (s_L_law_c239 hl0 hr21 h v1 v2 s0 v4 v5)
set_option maxHeartbeats 4000000 in
theorem s_L_law_c237 {G : nk_G} {l : Launch} (hl0 : l.flags = flags0) {r21 : nk_H → Option Nat → Option Nat → Int32 → Int32 → Option (nk_H × Int32)} (hr21 : ∀ (h : nk_H)  (v1 : Option Nat) (v2 : Option Nat) (v3 : Int32) (v4 : Int32), nk_Sim G l RL cL_law 7 (some FieldType.boolean) 12 297 false nk_eI 21 [(0, .inr (some (nk_gB G))), (1, .inr v1), (2, .inr v2), (3, .inl v3), (4, .inl v4)] [] h (r21 h  v1 v2 v3 v4)) (h : nk_H)  (v1 : Option Nat) (v2 : Option Nat) (v4 : Int32) (v5 : Int32)  : nk_Sim G l RL cL_law 7 (some FieldType.boolean) 12 297 false nk_eI 237 [(0, .inr (some (nk_gB G))), (1, .inr v1), (2, .inr v2), (4, .inl v4), (5, .inl v5)] [] h (f_L_law_c237 G r21 h v1 v2 v4 v5 ) := by
  unfold f_L_law_c237
  refine nr_iconst (v := 0) dL_law_237 (by decide) ?_
  exact s_L_law_c238 hl0 hr21 h v1 v2 v4 v5 0
set_option maxHeartbeats 4000000 in
theorem s_L_law_c180 {G : nk_G} {l : Launch} (hl0 : l.flags = flags0) {r21 : nk_H → Option Nat → Option Nat → Int32 → Int32 → Option (nk_H × Int32)} (hr21 : ∀ (h : nk_H)  (v1 : Option Nat) (v2 : Option Nat) (v3 : Int32) (v4 : Int32), nk_Sim G l RL cL_law 7 (some FieldType.boolean) 12 297 false nk_eI 21 [(0, .inr (some (nk_gB G))), (1, .inr v1), (2, .inr v2), (3, .inl v3), (4, .inl v4)] [] h (r21 h  v1 v2 v3 v4)) (h : nk_H)  (v1 : Option Nat) (v2 : Option Nat) (v3 : Int32) (v4 : Int32) (v5 : Int32)  : nk_Sim G l RL cL_law 7 (some FieldType.boolean) 12 297 false nk_eI 180 [(0, .inr (some (nk_gB G))), (1, .inr v1), (2, .inr v2), (3, .inl v3), (4, .inl v4), (5, .inl v5)] [] h (f_L_law_c180 G r21 h v1 v2 v3 v4 v5 ) := by
  unfold f_L_law_c180
  refine nr_iload 4 dL_law_180 rfl ?_
  refine nr_bipush (v := 9) dL_law_182 (by decide) ?_
  refine nr_irem dL_law_184 (by decide) ?_
  refine nr_bipush (v := 7) dL_law_185 (by decide) ?_
  refine nr_icmp_ne (tgt := 239) dL_law_187 (by decide) (fun _ => ?_) (fun _ => ?_)
  · refine nr_iload_n 3 dL_law_190 rfl ?_
    refine nr_if_eq (tgt := 237) dL_law_191 (by decide) (fun _ => ?_) (fun _ => ?_)
    · exact nk_locals [0, 1, 2, 4, 5] rfl (s_L_law_c237 hl0 hr21 h v1 v2 v4 v5)
    · refine nr_aload_n 1 dL_law_194 rfl ?_
      refine nr_aload_n 2 dL_law_195 rfl ?_
      refine nr_iload 5 dL_law_196 rfl ?_
      refine nr_bipush (v := 6) dL_law_198 (by decide) ?_
      refine nr_ishr dL_law_200 ?_
      refine nr_iconst (v := 4) dL_law_201 (by decide) ?_
      refine nr_doI (st := [.inr v2, .inr v1]) (nk_callS (c_L_low (G := G) hl0 h (v5 >>> (6 &&& 31)) 4) dL_law_202 my_L_low st_L_low ml_RL_93 rfl rfl (Nat.le_of_ble_eq_true rfl) (by decide) (by decide)) (fun h7 x8 => ?_)
      refine nr_iload 5 dL_law_205 rfl ?_
      refine nr_bipush (v := 8) dL_law_207 (by decide) ?_
      refine nr_ishr dL_law_209 ?_
      refine nr_iconst (v := 3) dL_law_210 (by decide) ?_
      refine nr_doI (st := [.inl x8, .inr v2, .inr v1]) (nk_callS (c_L_low (G := G) hl0 h7 (v5 >>> (8 &&& 31)) 3) dL_law_211 my_L_low st_L_low ml_RL_93 rfl rfl (Nat.le_of_ble_eq_true rfl) (by decide) (by decide)) (fun h9 x10 => ?_)
      refine nr_iconst (v := 1) dL_law_214 (by decide) ?_
      refine nr_iload 5 dL_law_215 rfl ?_
      refine nr_bipush (v := 10) dL_law_217 (by decide) ?_
      refine nr_ishr dL_law_219 ?_
      refine nr_sipush (v := 10000) dL_law_220 (by decide) ?_
      refine nr_doI (st := [.inl 1, .inl x10, .inl x8, .inr v2, .inr v1]) (nk_callS (c_L_low (G := G) hl0 h9 (v5 >>> (10 &&& 31)) 10000) dL_law_223 my_L_low st_L_low ml_RL_93 rfl rfl (Nat.le_of_ble_eq_true rfl) (by decide) (by decide)) (fun h11 x12 => ?_)
      refine nr_iadd dL_law_226 ?_
      refine nr_doI (st := []) (nk_callS (c_L_isTamperedSo (G := G) hl0 h11 v1 v2 x8 x10 (1 + x12)) dL_law_227 my_L_isTamperedSo st_L_isTamperedSo ml_RL_187 rfl rfl (Nat.le_of_ble_eq_true rfl) (by decide) (by decide)) (fun h13 x14 => ?_)
      refine nr_if_eq (tgt := 237) dL_law_230 (by decide) (fun _ => ?_) (fun _ => ?_)
      · exact nk_locals [0, 1, 2, 4, 5] rfl (s_L_law_c237 hl0 hr21 h13 v1 v2 v4 v5)
      · refine nr_iconst (v := 1) dL_law_233 (by decide) ?_
        refine nr_goto (tgt := 238) dL_law_234 (by decide) ?_
        exact nk_locals [0, 1, 2, 4, 5] rfl (s_L_law_c238 hl0 hr21 h13 v1 v2 v4 v5 1)
  · exact s_L_law_c239 hl0 hr21 h v1 v2 v3 v4 v5
set_option maxHeartbeats 4000000 in
theorem s_L_law_c179 {G : nk_G} {l : Launch} (hl0 : l.flags = flags0) {r21 : nk_H → Option Nat → Option Nat → Int32 → Int32 → Option (nk_H × Int32)} (hr21 : ∀ (h : nk_H)  (v1 : Option Nat) (v2 : Option Nat) (v3 : Int32) (v4 : Int32), nk_Sim G l RL cL_law 7 (some FieldType.boolean) 12 297 false nk_eI 21 [(0, .inr (some (nk_gB G))), (1, .inr v1), (2, .inr v2), (3, .inl v3), (4, .inl v4)] [] h (r21 h  v1 v2 v3 v4)) (h : nk_H)  (v1 : Option Nat) (v2 : Option Nat) (v4 : Int32) (v5 : Int32) (s0 : Int32) : nk_Sim G l RL cL_law 7 (some FieldType.boolean) 12 297 false nk_eI 179 [(0, .inr (some (nk_gB G))), (1, .inr v1), (2, .inr v2), (4, .inl v4), (5, .inl v5)] [.inl s0] h (f_L_law_c179 G r21 h v1 v2 v4 v5 s0) := by
  unfold f_L_law_c179
  refine nr_istore_n (lv2 := [(3, .inl s0), (0, .inr (some (nk_gB G))), (1, .inr v1), (2, .inr v2), (4, .inl v4), (5, .inl v5)]) dL_law_179 (by decide) rfl ?_
  exact nk_locals [1, 2, 3, 0, 4, 5] rfl (s_L_law_c180 hl0 hr21 h v1 v2 s0 v4 v5)
set_option maxHeartbeats 4000000 in
theorem s_L_law_c178 {G : nk_G} {l : Launch} (hl0 : l.flags = flags0) {r21 : nk_H → Option Nat → Option Nat → Int32 → Int32 → Option (nk_H × Int32)} (hr21 : ∀ (h : nk_H)  (v1 : Option Nat) (v2 : Option Nat) (v3 : Int32) (v4 : Int32), nk_Sim G l RL cL_law 7 (some FieldType.boolean) 12 297 false nk_eI 21 [(0, .inr (some (nk_gB G))), (1, .inr v1), (2, .inr v2), (3, .inl v3), (4, .inl v4)] [] h (r21 h  v1 v2 v3 v4)) (h : nk_H)  (v1 : Option Nat) (v2 : Option Nat) (v4 : Int32) (v5 : Int32)  : nk_Sim G l RL cL_law 7 (some FieldType.boolean) 12 297 false nk_eI 178 [(0, .inr (some (nk_gB G))), (1, .inr v1), (2, .inr v2), (4, .inl v4), (5, .inl v5)] [] h (f_L_law_c178 G r21 h v1 v2 v4 v5 ) := by
  unfold f_L_law_c178
  refine nr_iconst (v := 0) dL_law_178 (by decide) ?_
  exact s_L_law_c179 hl0 hr21 h v1 v2 v4 v5 0
set_option maxHeartbeats 4000000 in
theorem s_L_law_c121 {G : nk_G} {l : Launch} (hl0 : l.flags = flags0) {r21 : nk_H → Option Nat → Option Nat → Int32 → Int32 → Option (nk_H × Int32)} (hr21 : ∀ (h : nk_H)  (v1 : Option Nat) (v2 : Option Nat) (v3 : Int32) (v4 : Int32), nk_Sim G l RL cL_law 7 (some FieldType.boolean) 12 297 false nk_eI 21 [(0, .inr (some (nk_gB G))), (1, .inr v1), (2, .inr v2), (3, .inl v3), (4, .inl v4)] [] h (r21 h  v1 v2 v3 v4)) (h : nk_H)  (v1 : Option Nat) (v2 : Option Nat) (v4 : Int32) (v5 : Int32) (s0 : Int32) : nk_Sim G l RL cL_law 7 (some FieldType.boolean) 12 297 false nk_eI 121 [(0, .inr (some (nk_gB G))), (1, .inr v1), (2, .inr v2), (4, .inl v4), (5, .inl v5)] [.inl s0] h (f_L_law_c121 G r21 h v1 v2 v4 v5 s0) := by
  unfold f_L_law_c121
  refine nr_istore_n (lv2 := [(3, .inl s0), (0, .inr (some (nk_gB G))), (1, .inr v1), (2, .inr v2), (4, .inl v4), (5, .inl v5)]) dL_law_121 (by decide) rfl ?_
  refine nr_iload 4 dL_law_122 rfl ?_
  refine nr_iconst (v := 5) dL_law_124 (by decide) ?_
  refine nr_irem dL_law_125 (by decide) ?_
  refine nr_iconst (v := 2) dL_law_126 (by decide) ?_
  refine nr_icmp_ne (tgt := 180) dL_law_127 (by decide) (fun _ => ?_) (fun _ => ?_)
  · refine nr_iload_n 0 dL_law_130 rfl ?_
    refine nr_if_eq (tgt := 178) dL_law_131 (by decide) (fun _ => ?_) (fun _ => ?_)
    · exact nk_locals [1, 2, 3, 4, 5] rfl (s_L_law_c178 hl0 hr21 h v1 v2 v4 v5)
    · refine nr_aload_n 2 dL_law_134 rfl ?_
      refine nr_aload_n 3 dL_law_135 rfl ?_
      refine nr_iload 5 dL_law_136 rfl ?_
      refine nr_bipush (v := 6) dL_law_138 (by decide) ?_
      refine nr_ishr dL_law_140 ?_
      refine nr_iconst (v := 4) dL_law_141 (by decide) ?_
      refine nr_doI (st := [.inr v2, .inr v1]) (nk_callS (c_L_low (G := G) hl0 h (v5 >>> (6 &&& 31)) 4) dL_law_142 my_L_low st_L_low ml_RL_93 rfl rfl (Nat.le_of_ble_eq_true rfl) (by decide) (by decide)) (fun h15 x16 => ?_)
      refine nr_iload 5 dL_law_145 rfl ?_
      refine nr_bipush (v := 8) dL_law_147 (by decide) ?_
      refine nr_ishr dL_law_149 ?_
      refine nr_bipush (v := 40) dL_law_150 (by decide) ?_
      refine nr_doI (st := [.inl x16, .inr v2, .inr v1]) (nk_callS (c_L_low (G := G) hl0 h15 (v5 >>> (8 &&& 31)) 40) dL_law_152 my_L_low st_L_low ml_RL_93 rfl rfl (Nat.le_of_ble_eq_true rfl) (by decide) (by decide)) (fun h17 x18 => ?_)
      refine nr_iconst (v := 1) dL_law_155 (by decide) ?_
      refine nr_iload 5 dL_law_156 rfl ?_
      refine nr_bipush (v := 10) dL_law_158 (by decide) ?_
      refine nr_ishr dL_law_160 ?_
      refine nr_sipush (v := 2000) dL_law_161 (by decide) ?_
      refine nr_doI (st := [.inl 1, .inl x18, .inl x16, .inr v2, .inr v1]) (nk_callS (c_L_low (G := G) hl0 h17 (v5 >>> (10 &&& 31)) 2000) dL_law_164 my_L_low st_L_low ml_RL_93 rfl rfl (Nat.le_of_ble_eq_true rfl) (by decide) (by decide)) (fun h19 x20 => ?_)
      refine nr_iadd dL_law_167 ?_
      refine nr_doI (st := []) (nk_callS (c_L_isActSo (G := G) hl0 h19 v1 v2 x16 x18 (1 + x20)) dL_law_168 my_L_isActSo st_L_isActSo ml_RL_183 rfl rfl (Nat.le_of_ble_eq_true rfl) (by decide) (by decide)) (fun h21 x22 => ?_)
      refine nr_if_eq (tgt := 178) dL_law_171 (by decide) (fun _ => ?_) (fun _ => ?_)
      · exact nk_locals [1, 2, 3, 4, 5] rfl (s_L_law_c178 hl0 hr21 h21 v1 v2 v4 v5)
      · refine nr_iconst (v := 1) dL_law_174 (by decide) ?_
        refine nr_goto (tgt := 179) dL_law_175 (by decide) ?_
        exact nk_locals [1, 2, 3, 4, 5] rfl (s_L_law_c179 hl0 hr21 h21 v1 v2 v4 v5 1)
  · exact nk_locals [1, 2, 3, 0, 4, 5] rfl (s_L_law_c180 hl0 hr21 h v1 v2 s0 v4 v5)
set_option maxHeartbeats 4000000 in
theorem s_L_law_c116 {G : nk_G} {l : Launch} (hl0 : l.flags = flags0) {r21 : nk_H → Option Nat → Option Nat → Int32 → Int32 → Option (nk_H × Int32)} (hr21 : ∀ (h : nk_H)  (v1 : Option Nat) (v2 : Option Nat) (v3 : Int32) (v4 : Int32), nk_Sim G l RL cL_law 7 (some FieldType.boolean) 12 297 false nk_eI 21 [(0, .inr (some (nk_gB G))), (1, .inr v1), (2, .inr v2), (3, .inl v3), (4, .inl v4)] [] h (r21 h  v1 v2 v3 v4)) (h : nk_H)  (v1 : Option Nat) (v2 : Option Nat) (v4 : Int32) (v5 : Int32)  : nk_Sim G l RL cL_law 7 (some FieldType.boolean) 12 297 false nk_eI 116 [(0, .inr (some (nk_gB G))), (1, .inr v1), (2, .inr v2), (4, .inl v4), (5, .inl v5)] [] h (f_L_law_c116 G r21 h v1 v2 v4 v5 ) := by
  unfold f_L_law_c116
  refine nr_iconst (v := 1) dL_law_116 (by decide) ?_
  refine nr_goto (tgt := 121) dL_law_117 (by decide) ?_
  exact s_L_law_c121 hl0 hr21 h v1 v2 v4 v5 1
set_option maxHeartbeats 4000000 in
theorem s_L_law_c120 {G : nk_G} {l : Launch} (hl0 : l.flags = flags0) {r21 : nk_H → Option Nat → Option Nat → Int32 → Int32 → Option (nk_H × Int32)} (hr21 : ∀ (h : nk_H)  (v1 : Option Nat) (v2 : Option Nat) (v3 : Int32) (v4 : Int32), nk_Sim G l RL cL_law 7 (some FieldType.boolean) 12 297 false nk_eI 21 [(0, .inr (some (nk_gB G))), (1, .inr v1), (2, .inr v2), (3, .inl v3), (4, .inl v4)] [] h (r21 h  v1 v2 v3 v4)) (h : nk_H)  (v1 : Option Nat) (v2 : Option Nat) (v4 : Int32) (v5 : Int32)  : nk_Sim G l RL cL_law 7 (some FieldType.boolean) 12 297 false nk_eI 120 [(0, .inr (some (nk_gB G))), (1, .inr v1), (2, .inr v2), (4, .inl v4), (5, .inl v5)] [] h (f_L_law_c120 G r21 h v1 v2 v4 v5 ) := by
  unfold f_L_law_c120
  refine nr_iconst (v := 0) dL_law_120 (by decide) ?_
  exact s_L_law_c121 hl0 hr21 h v1 v2 v4 v5 0
set_option maxHeartbeats 4000000 in
theorem s_L_law_c96 {G : nk_G} {l : Launch} (hl0 : l.flags = flags0) {r21 : nk_H → Option Nat → Option Nat → Int32 → Int32 → Option (nk_H × Int32)} (hr21 : ∀ (h : nk_H)  (v1 : Option Nat) (v2 : Option Nat) (v3 : Int32) (v4 : Int32), nk_Sim G l RL cL_law 7 (some FieldType.boolean) 12 297 false nk_eI 21 [(0, .inr (some (nk_gB G))), (1, .inr v1), (2, .inr v2), (3, .inl v3), (4, .inl v4)] [] h (r21 h  v1 v2 v3 v4)) (h : nk_H)  (v1 : Option Nat) (v2 : Option Nat) (v4 : Int32) (v5 : Int32)  : nk_Sim G l RL cL_law 7 (some FieldType.boolean) 12 297 false nk_eI 96 [(0, .inr (some (nk_gB G))), (1, .inr v1), (2, .inr v2), (4, .inl v4), (5, .inl v5)] [] h (f_L_law_c96 G r21 h v1 v2 v4 v5 ) := by
  unfold f_L_law_c96
  refine nr_iload 3 dL_law_96 rfl ?_
  refine nr_iconst (v := 4) dL_law_98 (by decide) ?_
  refine nr_irem dL_law_99 (by decide) ?_
  refine nr_iconst (v := 1) dL_law_100 (by decide) ?_
  refine nr_icmp_ne (tgt := 116) dL_law_101 (by decide) (fun _ => ?_) (fun _ => ?_)
  · refine nr_aload_n 1 dL_law_104 rfl ?_
    refine nr_iload 4 dL_law_105 rfl ?_
    refine nr_bipush (v := 6) dL_law_107 (by decide) ?_
    refine nr_ishr dL_law_109 ?_
    refine nr_doI (st := []) (nk_callS (c_L_isNewsSo (G := G) hl0 h v1 (v5 >>> (6 &&& 31))) dL_law_110 my_L_isNewsSo st_L_isNewsSo ml_RL_179 rfl rfl (Nat.le_of_ble_eq_true rfl) (by decide) (by decide)) (fun h23 x24 => ?_)
    refine nr_if_eq (tgt := 120) dL_law_113 (by decide) (fun _ => ?_) (fun _ => ?_)
    · exact s_L_law_c120 hl0 hr21 h23 v1 v2 v4 v5
    · exact s_L_law_c116 hl0 hr21 h23 v1 v2 v4 v5
  · exact s_L_law_c116 hl0 hr21 h v1 v2 v4 v5
set_option maxHeartbeats 4000000 in
theorem s_L_law_c79 {G : nk_G} {l : Launch} (hl0 : l.flags = flags0) {r21 : nk_H → Option Nat → Option Nat → Int32 → Int32 → Option (nk_H × Int32)} (hr21 : ∀ (h : nk_H)  (v1 : Option Nat) (v2 : Option Nat) (v3 : Int32) (v4 : Int32), nk_Sim G l RL cL_law 7 (some FieldType.boolean) 12 297 false nk_eI 21 [(0, .inr (some (nk_gB G))), (1, .inr v1), (2, .inr v2), (3, .inl v3), (4, .inl v4)] [] h (r21 h  v1 v2 v3 v4)) (h : nk_H)  (v1 : Option Nat) (v2 : Option Nat) (v4 : Int32) (v5 : Int32)  : nk_Sim G l RL cL_law 7 (some FieldType.boolean) 12 297 false nk_eI 79 [(0, .inr (some (nk_gB G))), (1, .inr v1), (2, .inr v2), (4, .inl v4), (5, .inl v5)] [] h (f_L_law_c79 G r21 h v1 v2 v4 v5 ) := by
  unfold f_L_law_c79
  refine nr_iload 3 dL_law_79 rfl ?_
  refine nr_bipush (v := 6) dL_law_81 (by decide) ?_
  refine nr_irem dL_law_83 (by decide) ?_
  refine nr_iconst (v := 3) dL_law_84 (by decide) ?_
  refine nr_icmp_ne (tgt := 96) dL_law_85 (by decide) (fun _ => ?_) (fun _ => ?_)
  · refine nr_aload_n 1 dL_law_88 rfl ?_
    refine nr_aload_n 2 dL_law_89 rfl ?_
    refine nr_doI (st := []) (nk_callS (c_L_areAlike (G := G) hl0 h v1 v2) dL_law_90 my_L_areAlike st_L_areAlike ml_RL_175 rfl rfl (Nat.le_of_ble_eq_true rfl) (by decide) (by decide)) (fun h25 x26 => ?_)
    refine nr_if_eq (tgt := 120) dL_law_93 (by decide) (fun _ => ?_) (fun _ => ?_)
    · exact s_L_law_c120 hl0 hr21 h25 v1 v2 v4 v5
    · exact s_L_law_c96 hl0 hr21 h25 v1 v2 v4 v5
  · exact s_L_law_c96 hl0 hr21 h v1 v2 v4 v5
set_option maxHeartbeats 4000000 in
theorem s_L_law_c317 {G : nk_G} {l : Launch} (hl0 : l.flags = flags0)   (h : nk_H)  (s0 : Int32) : nk_Sim G l RL cL_law 7 (some FieldType.boolean) 12 297 false nk_eI 317 [(0, .inr (some (nk_gB G)))] [.inl s0] h (f_L_law_c317 G  h  s0) := by
  unfold f_L_law_c317
  exact nr_zret rfl rfl dL_law_317
set_option maxHeartbeats 4000000 in
theorem s_L_law_c316 {G : nk_G} {l : Launch} (hl0 : l.flags = flags0)   (h : nk_H)   : nk_Sim G l RL cL_law 7 (some FieldType.boolean) 12 297 false nk_eI 316 [(0, .inr (some (nk_gB G)))] [] h (f_L_law_c316 G  h  ) := by
  unfold f_L_law_c316
  refine nr_iconst (v := 0) dL_law_316 (by decide) ?_
  exact s_L_law_c317 hl0  h 0
set_option maxHeartbeats 4000000 in
theorem s_L_law_c292 {G : nk_G} {l : Launch} (hl0 : l.flags = flags0)   (h : nk_H)  (v1 : Option Nat) (v2 : Option Nat) (v3 : Int32)  : nk_Sim G l RL cL_law 7 (some FieldType.boolean) 12 297 false nk_eI 292 [(0, .inr (some (nk_gB G))), (1, .inr v1), (2, .inr v2), (3, .inl v3)] [] h (f_L_law_c292 G  h v1 v2 v3 ) := by
  unfold f_L_law_c292
  refine nr_iload_n 3 dL_law_292 rfl ?_
  refine nr_if_eq (tgt := 316) dL_law_293 (by decide) (fun _ => ?_) (fun _ => ?_)
  · exact nk_locals [0] rfl (s_L_law_c316 hl0  h)
  · refine nr_aload_n 1 dL_law_296 rfl ?_
    refine nr_aload_n 2 dL_law_297 rfl ?_
    refine nr_doI (st := []) (nk_callS (c_L_areAlike (G := G) hl0 h v1 v2) dL_law_298 my_L_areAlike st_L_areAlike ml_RL_175 rfl rfl (Nat.le_of_ble_eq_true rfl) (by decide) (by decide)) (fun h27 x28 => ?_)
    refine nr_if_eq (tgt := 316) dL_law_301 (by decide) (fun _ => ?_) (fun _ => ?_)
    · exact nk_locals [0] rfl (s_L_law_c316 hl0  h27)
    · refine nr_aload_n 1 dL_law_304 rfl ?_
      refine nr_iconst (v := 0) dL_law_305 (by decide) ?_
      refine nr_doI (st := []) (nk_callS (c_L_isNewsSo (G := G) hl0 h27 v1 0) dL_law_306 my_L_isNewsSo st_L_isNewsSo ml_RL_179 rfl rfl (Nat.le_of_ble_eq_true rfl) (by decide) (by decide)) (fun h29 x30 => ?_)
      refine nr_if_eq (tgt := 316) dL_law_309 (by decide) (fun _ => ?_) (fun _ => ?_)
      · exact nk_locals [0] rfl (s_L_law_c316 hl0  h29)
      · refine nr_iconst (v := 1) dL_law_312 (by decide) ?_
        refine nr_goto (tgt := 317) dL_law_313 (by decide) ?_
        exact nk_locals [0] rfl (s_L_law_c317 hl0  h29 1)
set_option maxHeartbeats 4000000 in
theorem s_L_law_c21 {G : nk_G} {l : Launch} (hl0 : l.flags = flags0) {r21 : nk_H → Option Nat → Option Nat → Int32 → Int32 → Option (nk_H × Int32)} (hr21 : ∀ (h : nk_H)  (v1 : Option Nat) (v2 : Option Nat) (v3 : Int32) (v4 : Int32), nk_Sim G l RL cL_law 7 (some FieldType.boolean) 12 297 false nk_eI 21 [(0, .inr (some (nk_gB G))), (1, .inr v1), (2, .inr v2), (3, .inl v3), (4, .inl v4)] [] h (r21 h  v1 v2 v3 v4)) (h : nk_H)  (v1 : Option Nat) (v2 : Option Nat) (v3 : Int32) (v4 : Int32)  : nk_Sim G l RL cL_law 7 (some FieldType.boolean) 12 297 false nk_eI 21 [(0, .inr (some (nk_gB G))), (1, .inr v1), (2, .inr v2), (3, .inl v3), (4, .inl v4)] [] h (f_L_law_c21 G r21 h v1 v2 v3 v4 ) := by
  unfold f_L_law_c21
  refine nr_iload 4 dL_law_21 rfl ?_
  refine nr_bipush (v := 100) dL_law_23 (by decide) ?_
  refine nr_icmp_ge (tgt := 292) dL_law_25 (by decide) (fun _ => ?_) (fun _ => ?_)
  · exact nk_locals [0, 1, 2, 3] rfl (s_L_law_c292 hl0  h v1 v2 v3)
  · refine nr_iload_n 3 dL_law_28 rfl ?_
    refine nr_if_eq (tgt := 292) dL_law_29 (by decide) (fun _ => ?_) (fun _ => ?_)
    · exact nk_locals [0, 1, 2, 3] rfl (s_L_law_c292 hl0  h v1 v2 v3)
    · refine nr_aload_n 0 dL_law_32 rfl ?_
      refine nr_iload 4 dL_law_33 rfl ?_
      refine nr_bipush (v := 61) dL_law_35 (by decide) ?_
      refine nr_irem dL_law_37 (by decide) ?_
      refine nr_doI (st := []) (nk_callS (c_L_cell (G := G) hl0 h (v4 - v4 / 61 * 61)) dL_law_38 my_L_cell st_L_cell ml_RL_168 rfl rfl (Nat.le_of_ble_eq_true rfl) (by decide) (by decide)) (fun h31 x32 => ?_)
      refine nr_sipush (v := 1321) dL_law_41 (by decide) ?_
      refine nr_iload 4 dL_law_44 rfl ?_
      refine nr_bipush (v := 61) dL_law_46 (by decide) ?_
      refine nr_idiv dL_law_48 (by decide) ?_
      refine nr_imul dL_law_49 ?_
      refine nr_iadd dL_law_50 ?_
      refine nr_istore (lv2 := [(5, .inl (x32 + (1321 * (v4 / 61)))), (0, .inr (some (nk_gB G))), (1, .inr v1), (2, .inr v2), (3, .inl v3), (4, .inl v4)]) dL_law_51 (by decide) rfl ?_
      refine nr_aload_n 2 dL_law_53 rfl ?_
      refine nr_iload 0 dL_law_54 rfl ?_
      refine nr_doI (st := []) (nk_callS (c_L_act (G := G) hl0 h31 v1 (x32 + (1321 * (v4 / 61)))) dL_law_56 my_L_act st_L_act ml_RL_172 rfl rfl (Nat.le_of_ble_eq_true rfl) (by decide) (by decide)) (fun h33 x34 => ?_)
      refine nr_istore (lv2 := [(6, .inl x34), (5, .inl (x32 + (1321 * (v4 / 61)))), (0, .inr (some (nk_gB G))), (1, .inr v1), (2, .inr v2), (3, .inl v3), (4, .inl v4)]) dL_law_59 (by decide) rfl ?_
      refine nr_iload 0 dL_law_61 rfl ?_
      refine nr_ldc (v := (-9999999)) dL_law_63 kc_RL_58 ?_
      refine nr_icmp_eq (tgt := 79) dL_law_65 (by decide) (fun _ => ?_) (fun _ => ?_)
      · exact nk_locals [2, 3, 4, 6, 1] rfl (s_L_law_c79 hl0 hr21 h33 v1 v2 v4 (x32 + (1321 * (v4 / 61))))
      · refine nr_aload_n 4 dL_law_68 rfl ?_
        refine nr_iload 1 dL_law_69 rfl ?_
        refine nr_doI (st := []) (nk_callS (c_L_act (G := G) hl0 h33 v2 (x32 + (1321 * (v4 / 61)))) dL_law_71 my_L_act st_L_act ml_RL_172 rfl rfl (Nat.le_of_ble_eq_true rfl) (by decide) (by decide)) (fun h35 x36 => ?_)
        refine nr_iload 0 dL_law_74 rfl ?_
        refine nr_icmp_ne (tgt := 120) dL_law_76 (by decide) (fun _ => ?_) (fun _ => ?_)
        · exact nk_locals [2, 3, 4, 6, 1] rfl (s_L_law_c79 hl0 hr21 h35 v1 v2 v4 (x32 + (1321 * (v4 / 61))))
        · exact nk_locals [2, 3, 4, 6, 1] rfl (s_L_law_c120 hl0 hr21 h35 v1 v2 v4 (x32 + (1321 * (v4 / 61))))
theorem s_L_law_b21 {G : nk_G} {l : Launch} (hl0 : l.flags = flags0)   : ∀ (n : Nat) (h : nk_H)  (v1 : Option Nat) (v2 : Option Nat) (v3 : Int32) (v4 : Int32), nk_Sim G l RL cL_law 7 (some FieldType.boolean) 12 297 false nk_eI 21 [(0, .inr (some (nk_gB G))), (1, .inr v1), (2, .inr v2), (3, .inl v3), (4, .inl v4)] [] h (f_L_law_b21 G  n h v1 v2 v3 v4)
  | 0, _, _, _, _, _ => nk_none
  | n + 1, h, v1, v2, v3, v4 => s_L_law_c21 hl0 (s_L_law_b21 hl0  n) h v1 v2 v3 v4
set_option maxHeartbeats 4000000 in
theorem s_L_law {G : nk_G} {l : Launch} (hl0 : l.flags = flags0) (h : nk_H)  : nk_Sim G l RL cL_law 7 (some FieldType.boolean) 12 297 false nk_eI 0 [(0, .inr (some (nk_gB G)))] [] h (f_L_law G h ) := by
  unfold f_L_law
  refine nr_newb (q := (RX11, TX11, 9)) 11 rfl dL_law_0 cl_RL_9 ins_RX11 in_RX11 rfl (fun h37 => ?_)
  refine nr_dup dL_law_3 ?_
  refine nr_doV (st := [.inr (some (nk_N h))]) (nk_callI (c_X11_init (G := G) hl0 h37 (nk_N h)) dL_law_4 my_X11_init rfl im_X11_init ml_RL_167 rfl rfl (Nat.le_of_ble_eq_true rfl) (by decide) (by decide)) (fun h38 x39 => ?_)
  refine nr_astore_n (lv2 := [(1, .inr (some (nk_N h))), (0, .inr (some (nk_gB G)))]) dL_law_7 (by decide) rfl ?_
  refine nr_newb (q := (RX11, TX11, 9)) 11 rfl dL_law_8 cl_RL_9 ins_RX11 in_RX11 rfl (fun h40 => ?_)
  refine nr_dup dL_law_11 ?_
  refine nr_doV (st := [.inr (some (nk_N h38))]) (nk_callI (c_X11_init (G := G) hl0 h40 (nk_N h38)) dL_law_12 my_X11_init rfl im_X11_init ml_RL_167 rfl rfl (Nat.le_of_ble_eq_true rfl) (by decide) (by decide)) (fun h41 x42 => ?_)
  refine nr_astore_n (lv2 := [(2, .inr (some (nk_N h38))), (1, .inr (some (nk_N h))), (0, .inr (some (nk_gB G)))]) dL_law_15 (by decide) rfl ?_
  refine nr_iconst (v := 1) dL_law_16 (by decide) ?_
  refine nr_istore_n (lv2 := [(3, .inl 1), (2, .inr (some (nk_N h38))), (1, .inr (some (nk_N h))), (0, .inr (some (nk_gB G)))]) dL_law_17 (by decide) rfl ?_
  refine nr_iconst (v := 0) dL_law_18 (by decide) ?_
  refine nr_istore (lv2 := [(4, .inl 0), (3, .inl 1), (2, .inr (some (nk_N h38))), (1, .inr (some (nk_N h))), (0, .inr (some (nk_gB G)))]) dL_law_19 (by decide) rfl ?_
  exact nk_locals [4, 3, 2, 1, 0] rfl (s_L_law_b21 hl0  4096 h41 (some (nk_N h)) (some (nk_N h38)) 1 0)
