/-! ===== naturality, function by function (by program: wip/p44/gen/gen_nat.py) ===== -/
theorem n_J6_bitCount_0f7a4 {ρ : Nat → Nat} {D F : Nat → Prop} {h0 : nk_H} {u v : Nat}   {h yh : nk_H} (Rh : nt_R ρ D F h0 u v yh h) (v0 : Int32) : nt_F ρ D F h0 u v (nk_N h) nt_q (f_J6_bitCount_0f7a4 h v0) (f_J6_bitCount_0f7a4 yh v0) := by
  unfold f_J6_bitCount_0f7a4
  exact nt_ret Rh rfl (by omega)
theorem n_Jxa1e45_init_da8c8 {ρ : Nat → Nat} {D F : Nat → Prop} {h0 : nk_H} {u v : Nat}   {h yh : nk_H} (Rh : nt_R ρ D F h0 u v yh h) {t0 yt0 : Nat} (At0 : nt_A ρ D (nk_N h) t0 yt0) : nt_F ρ D F h0 u v (nk_N h) nt_q (f_Jxa1e45_init_da8c8 h t0) (f_Jxa1e45_init_da8c8 yh yt0) := by
  unfold f_Jxa1e45_init_da8c8
  exact nt_ret Rh rfl (by omega)
theorem n_Jxc12de_init_da8c8 {ρ : Nat → Nat} {D F : Nat → Prop} {h0 : nk_H} {u v : Nat}   {h yh : nk_H} (Rh : nt_R ρ D F h0 u v yh h) {t0 yt0 : Nat} (At0 : nt_A ρ D (nk_N h) t0 yt0) : nt_F ρ D F h0 u v (nk_N h) nt_q (f_Jxc12de_init_da8c8 h t0) (f_Jxc12de_init_da8c8 yh yt0) := by
  unfold f_Jxc12de_init_da8c8
  refine nt_doE (n_Jxa1e45_init_da8c8 Rh (nt_am At0 (by omega))) (fun h1 yh1 x2 Rh1 Lh1 => ?_)
  refine nt_pI Rh1 (nt_vS At0) (fun h3 yh3 Rh3 Lh3 => ?_)
  exact nt_ret Rh3 rfl (by omega)
theorem n_Jx4a65c_init_da8c8 {ρ : Nat → Nat} {D F : Nat → Prop} {h0 : nk_H} {u v : Nat}   {h yh : nk_H} (Rh : nt_R ρ D F h0 u v yh h) {t0 yt0 : Nat} (At0 : nt_A ρ D (nk_N h) t0 yt0) : nt_F ρ D F h0 u v (nk_N h) nt_q (f_Jx4a65c_init_da8c8 h t0) (f_Jx4a65c_init_da8c8 yh yt0) := by
  unfold f_Jx4a65c_init_da8c8
  refine nt_doE (n_Jxc12de_init_da8c8 Rh (nt_am At0 (by omega))) (fun h1 yh1 x2 Rh1 Lh1 => ?_)
  refine nt_pP Rh1 (nt_vS At0) (nt_vE Rh1 (by omega)) (fun h3 yh3 Rh3 Lh3 => ?_)
  exact nt_ret Rh3 rfl (by omega)
theorem n_J8_hugeLength_7cf53 {ρ : Nat → Nat} {D F : Nat → Prop} {h0 : nk_H} {u v : Nat}   {h yh : nk_H} (Rh : nt_R ρ D F h0 u v yh h) (v0 : Int32) (v1 : Int32) : nt_F ρ D F h0 u v (nk_N h) nt_q (f_J8_hugeLength_7cf53 h v0 v1) (f_J8_hugeLength_7cf53 yh v0 v1) := by
  unfold f_J8_hugeLength_7cf53
  refine nt_ite ?_ ?_
  · refine nt_ite ?_ ?_
    · exact nt_ret Rh rfl (by omega)
    · exact nt_ret Rh rfl (by omega)
  · exact nt_none
theorem n_J8_newLength_cabcc_c21 {ρ : Nat → Nat} {D F : Nat → Prop} {h0 : nk_H} {u v : Nat}   {h yh : nk_H} (Rh : nt_R ρ D F h0 u v yh h) (v0 : Int32) (v1 : Int32) : nt_F ρ D F h0 u v (nk_N h) nt_q (f_J8_newLength_cabcc_c21 h v0 v1) (f_J8_newLength_cabcc_c21 yh v0 v1) := by
  unfold f_J8_newLength_cabcc_c21
  refine nt_doE (n_J8_hugeLength_7cf53 Rh _ _) (fun h1 yh1 x2 Rh1 Lh1 => ?_)
  exact nt_ret Rh1 rfl (by omega)
theorem n_J8_newLength_cabcc {ρ : Nat → Nat} {D F : Nat → Prop} {h0 : nk_H} {u v : Nat}   {h yh : nk_H} (Rh : nt_R ρ D F h0 u v yh h) (v0 : Int32) (v1 : Int32) (v2 : Int32) : nt_F ρ D F h0 u v (nk_N h) nt_q (f_J8_newLength_cabcc h v0 v1 v2) (f_J8_newLength_cabcc yh v0 v1 v2) := by
  unfold f_J8_newLength_cabcc
  refine nt_ite ?_ ?_
  · exact nt_fk (n_J8_newLength_cabcc_c21 Rh _ _) (by omega)
  · refine nt_ite ?_ ?_
    · exact nt_fk (n_J8_newLength_cabcc_c21 Rh _ _) (by omega)
    · exact nt_ret Rh rfl (by omega)
theorem n_J7_copyOf_6403c {ρ : Nat → Nat} {D F : Nat → Prop} {h0 : nk_H} {u v : Nat}   {h yh : nk_H} (Rh : nt_R ρ D F h0 u v yh h) {v0 yv0 : Option Nat} (Vv0 : nt_V ρ D (nk_N h) v0 yv0) (v1 : Int32) {v2 yv2 : Option Nat} (Vv2 : (v2 = some (nk_M h)) ↔ (yv2 = some (nk_M yh))) : nt_F ρ D F h0 u v (nk_N h) (nt_V ρ D) (f_J7_copyOf_6403c h v0 v1 v2) (f_J7_copyOf_6403c yh yv0 v1 yv2) := by
  unfold f_J7_copyOf_6403c
  refine nt_iteP Vv2 ?_ ?_
  · refine nt_na Rh (fun h1 yh1 Rh1 Lh1 => ?_)
    refine nt_len Rh1 Vv0 (fun x2 => ?_)
    refine nt_cpP Rh1 Vv0 (nt_vN Rh (Nat.lt_succ_self _)) (fun h3 yh3 Rh3 Lh3 => ?_)
    exact nt_ret Rh3 (nt_vN Rh (by omega)) (by omega)
  · exact nt_none
theorem n_J7_copyOf_1904c {ρ : Nat → Nat} {D F : Nat → Prop} {h0 : nk_H} {u v : Nat}   {h yh : nk_H} (Rh : nt_R ρ D F h0 u v yh h) {v0 yv0 : Option Nat} (Vv0 : nt_V ρ D (nk_N h) v0 yv0) (v1 : Int32) : nt_F ρ D F h0 u v (nk_N h) (nt_V ρ D) (f_J7_copyOf_1904c h v0 v1) (f_J7_copyOf_1904c yh yv0 v1) := by
  unfold f_J7_copyOf_1904c
  refine nt_gc Rh Vv0 (fun x1 yx1 Vx1 => ?_)
  refine nt_doV (n_J7_copyOf_6403c Rh (nt_vm Vv0 (by omega)) _ Vx1) (fun h2 yh2 x3 yx3 Rh2 Vx3 Lh2 => ?_)
  exact nt_ret Rh2 (nt_vm Vx3 (by omega)) (by omega)
theorem n_Jx4a65c_grow_92f84_c20 {ρ : Nat → Nat} {D F : Nat → Prop} {h0 : nk_H} {u v : Nat}   {h yh : nk_H} (Rh : nt_R ρ D F h0 u v yh h) {t0 yt0 : Nat} (At0 : nt_A ρ D (nk_N h) t0 yt0) (v1 : Int32) (v2 : Int32) : nt_F ρ D F h0 u v (nk_N h) (nt_V ρ D) (f_Jx4a65c_grow_92f84_c20 h t0 v1 v2) (f_Jx4a65c_grow_92f84_c20 yh yt0 v1 v2) := by
  unfold f_Jx4a65c_grow_92f84_c20
  refine nt_doE (n_J8_newLength_cabcc Rh _ _ _) (fun h1 yh1 x2 Rh1 Lh1 => ?_)
  refine nt_gP Rh1 (nt_vS At0) (fun x3 yx3 Vx3 => ?_)
  refine nt_doV (n_J7_copyOf_1904c Rh1 (nt_vm Vx3 (by omega)) _) (fun h4 yh4 x5 yx5 Rh4 Vx5 Lh4 => ?_)
  refine nt_pP Rh4 (nt_vS At0) (nt_vm Vx5 (by omega)) (fun h6 yh6 Rh6 Lh6 => ?_)
  exact nt_ret Rh6 (nt_vm Vx5 (by omega)) (by omega)
theorem n_Jx4a65c_grow_92f84 {ρ : Nat → Nat} {D F : Nat → Prop} {h0 : nk_H} {u v : Nat}   {h yh : nk_H} (Rh : nt_R ρ D F h0 u v yh h) {t0 yt0 : Nat} (At0 : nt_A ρ D (nk_N h) t0 yt0) (v1 : Int32) : nt_F ρ D F h0 u v (nk_N h) (nt_V ρ D) (f_Jx4a65c_grow_92f84 h t0 v1) (f_Jx4a65c_grow_92f84 yh yt0 v1) := by
  unfold f_Jx4a65c_grow_92f84
  refine nt_gP Rh (nt_vS At0) (fun x7 yx7 Vx7 => ?_)
  refine nt_len Rh Vx7 (fun x8 => ?_)
  refine nt_ite ?_ ?_
  · exact nt_fk (n_Jx4a65c_grow_92f84_c20 Rh (nt_am At0 (by omega)) _ _) (by omega)
  · refine nt_gP Rh (nt_vS At0) (fun x9 yx9 Vx9 => ?_)
    refine nt_iteP (nt_eq Rh Vx9 (nt_vE Rh (Nat.le_refl _))) ?_ ?_
    · refine nt_na Rh (fun h10 yh10 Rh10 Lh10 => ?_)
      refine nt_pP Rh10 (nt_vS At0) (nt_vN Rh (by omega)) (fun h11 yh11 Rh11 Lh11 => ?_)
      exact nt_ret Rh11 (nt_vN Rh (by omega)) (by omega)
    · exact nt_fk (n_Jx4a65c_grow_92f84_c20 Rh (nt_am At0 (by omega)) _ _) (by omega)
theorem n_Jx4a65c_grow_d5877 {ρ : Nat → Nat} {D F : Nat → Prop} {h0 : nk_H} {u v : Nat}   {h yh : nk_H} (Rh : nt_R ρ D F h0 u v yh h) {t0 yt0 : Nat} (At0 : nt_A ρ D (nk_N h) t0 yt0) : nt_F ρ D F h0 u v (nk_N h) (nt_V ρ D) (f_Jx4a65c_grow_d5877 h t0) (f_Jx4a65c_grow_d5877 yh yt0) := by
  unfold f_Jx4a65c_grow_d5877
  refine nt_gI Rh (nt_vS At0) (fun x1 => ?_)
  refine nt_rcv Rh (nt_vS At0) (fun a2 ya2 Aa2 => ?_)
  refine nt_doV (n_Jx4a65c_grow_92f84 Rh (nt_am Aa2 (by omega)) _) (fun h3 yh3 x4 yx4 Rh3 Vx4 Lh3 => ?_)
  exact nt_ret Rh3 (nt_vm Vx4 (by omega)) (by omega)
theorem n_Jx4a65c_size_8abf5 {ρ : Nat → Nat} {D F : Nat → Prop} {h0 : nk_H} {u v : Nat}   {h yh : nk_H} (Rh : nt_R ρ D F h0 u v yh h) {t0 yt0 : Nat} (At0 : nt_A ρ D (nk_N h) t0 yt0) : nt_F ρ D F h0 u v (nk_N h) nt_q (f_Jx4a65c_size_8abf5 h t0) (f_Jx4a65c_size_8abf5 yh yt0) := by
  unfold f_Jx4a65c_size_8abf5
  refine nt_gI Rh (nt_vS At0) (fun x1 => ?_)
  exact nt_ret Rh rfl (by omega)
theorem n_Jx4a65c_elementData_915e3 {ρ : Nat → Nat} {D F : Nat → Prop} {h0 : nk_H} {u v : Nat}   {h yh : nk_H} (Rh : nt_R ρ D F h0 u v yh h) {t0 yt0 : Nat} (At0 : nt_A ρ D (nk_N h) t0 yt0) (v1 : Int32) : nt_F ρ D F h0 u v (nk_N h) (nt_V ρ D) (f_Jx4a65c_elementData_915e3 h t0 v1) (f_Jx4a65c_elementData_915e3 yh yt0 v1) := by
  unfold f_Jx4a65c_elementData_915e3
  refine nt_gP Rh (nt_vS At0) (fun x1 yx1 Vx1 => ?_)
  refine nt_aP Rh Vx1 (fun x2 yx2 Vx2 => ?_)
  exact nt_ret Rh (nt_vm Vx2 (by omega)) (by omega)
theorem n_J3_checkIndex_8e157_c9 {ρ : Nat → Nat} {D F : Nat → Prop} {h0 : nk_H} {u v : Nat}   {h yh : nk_H} (Rh : nt_R ρ D F h0 u v yh h) (v0 : Int32) (v1 : Int32) {v2 yv2 : Option Nat} (Vv2 : nt_V ρ D (nk_N h) v2 yv2) : nt_F ρ D F h0 u v (nk_N h) nt_q (f_J3_checkIndex_8e157_c9 h v0 v1 v2) (f_J3_checkIndex_8e157_c9 yh v0 v1 yv2) := by
  unfold f_J3_checkIndex_8e157_c9
  exact nt_none
theorem n_J3_checkIndex_8e157 {ρ : Nat → Nat} {D F : Nat → Prop} {h0 : nk_H} {u v : Nat}   {h yh : nk_H} (Rh : nt_R ρ D F h0 u v yh h) (v0 : Int32) (v1 : Int32) {v2 yv2 : Option Nat} (Vv2 : nt_V ρ D (nk_N h) v2 yv2) : nt_F ρ D F h0 u v (nk_N h) nt_q (f_J3_checkIndex_8e157 h v0 v1 v2) (f_J3_checkIndex_8e157 yh v0 v1 yv2) := by
  unfold f_J3_checkIndex_8e157
  refine nt_ite ?_ ?_
  · exact nt_fk (n_J3_checkIndex_8e157_c9 Rh _ _ (nt_vm Vv2 (by omega))) (by omega)
  · refine nt_ite ?_ ?_
    · exact nt_ret Rh rfl (by omega)
    · exact nt_fk (n_J3_checkIndex_8e157_c9 Rh _ _ (nt_vm Vv2 (by omega))) (by omega)
theorem n_J15_checkIndex_7cf53 {ρ : Nat → Nat} {D F : Nat → Prop} {h0 : nk_H} {u v : Nat}   {h yh : nk_H} (Rh : nt_R ρ D F h0 u v yh h) (v0 : Int32) (v1 : Int32) : nt_F ρ D F h0 u v (nk_N h) nt_q (f_J15_checkIndex_7cf53 h v0 v1) (f_J15_checkIndex_7cf53 yh v0 v1) := by
  unfold f_J15_checkIndex_7cf53
  refine nt_doE (n_J3_checkIndex_8e157 Rh _ _ nt_vn) (fun h1 yh1 x2 Rh1 Lh1 => ?_)
  exact nt_ret Rh1 rfl (by omega)
theorem n_Jx4a65c_get_915e3 {ρ : Nat → Nat} {D F : Nat → Prop} {h0 : nk_H} {u v : Nat}   {h yh : nk_H} (Rh : nt_R ρ D F h0 u v yh h) {t0 yt0 : Nat} (At0 : nt_A ρ D (nk_N h) t0 yt0) (v1 : Int32) : nt_F ρ D F h0 u v (nk_N h) (nt_V ρ D) (f_Jx4a65c_get_915e3 h t0 v1) (f_Jx4a65c_get_915e3 yh yt0 v1) := by
  unfold f_Jx4a65c_get_915e3
  refine nt_gI Rh (nt_vS At0) (fun x1 => ?_)
  refine nt_doE (n_J15_checkIndex_7cf53 Rh _ _) (fun h2 yh2 x3 Rh2 Lh2 => ?_)
  refine nt_rcv Rh2 (nt_vS At0) (fun a4 ya4 Aa4 => ?_)
  refine nt_doV (n_Jx4a65c_elementData_915e3 Rh2 (nt_am Aa4 (by omega)) _) (fun h5 yh5 x6 yx6 Rh5 Vx6 Lh5 => ?_)
  exact nt_ret Rh5 (nt_vm Vx6 (by omega)) (by omega)
theorem n_Jx4a65c_add_72be8_c11 {ρ : Nat → Nat} {D F : Nat → Prop} {h0 : nk_H} {u v : Nat}   {h yh : nk_H} (Rh : nt_R ρ D F h0 u v yh h) {t0 yt0 : Nat} (At0 : nt_A ρ D (nk_N h) t0 yt0) {v1 yv1 : Option Nat} (Vv1 : nt_V ρ D (nk_N h) v1 yv1) {v2 yv2 : Option Nat} (Vv2 : nt_V ρ D (nk_N h) v2 yv2) (v3 : Int32) : nt_F ρ D F h0 u v (nk_N h) nt_q (f_Jx4a65c_add_72be8_c11 h t0 v1 v2 v3) (f_Jx4a65c_add_72be8_c11 yh yt0 yv1 yv2 v3) := by
  unfold f_Jx4a65c_add_72be8_c11
  refine nt_wP Rh Vv2 (nt_vm Vv1 (by omega)) (fun h1 yh1 Rh1 Lh1 => ?_)
  refine nt_pI Rh1 (nt_vS At0) (fun h2 yh2 Rh2 Lh2 => ?_)
  exact nt_ret Rh2 rfl (by omega)
theorem n_Jx4a65c_add_72be8 {ρ : Nat → Nat} {D F : Nat → Prop} {h0 : nk_H} {u v : Nat}   {h yh : nk_H} (Rh : nt_R ρ D F h0 u v yh h) {t0 yt0 : Nat} (At0 : nt_A ρ D (nk_N h) t0 yt0) {v1 yv1 : Option Nat} (Vv1 : nt_V ρ D (nk_N h) v1 yv1) {v2 yv2 : Option Nat} (Vv2 : nt_V ρ D (nk_N h) v2 yv2) (v3 : Int32) : nt_F ρ D F h0 u v (nk_N h) nt_q (f_Jx4a65c_add_72be8 h t0 v1 v2 v3) (f_Jx4a65c_add_72be8 yh yt0 yv1 yv2 v3) := by
  unfold f_Jx4a65c_add_72be8
  refine nt_len Rh Vv2 (fun x3 => ?_)
  refine nt_ite ?_ ?_
  · refine nt_rcv Rh (nt_vS At0) (fun a4 ya4 Aa4 => ?_)
    refine nt_doV (n_Jx4a65c_grow_d5877 Rh (nt_am Aa4 (by omega))) (fun h5 yh5 x6 yx6 Rh5 Vx6 Lh5 => ?_)
    exact nt_fk (n_Jx4a65c_add_72be8_c11 Rh5 (nt_am At0 (by omega)) (nt_vm Vv1 (by omega)) (nt_vm Vx6 (by omega)) _) (by omega)
  · exact nt_fk (n_Jx4a65c_add_72be8_c11 Rh (nt_am At0 (by omega)) (nt_vm Vv1 (by omega)) (nt_vm Vv2 (by omega)) _) (by omega)
theorem n_Jx4a65c_add_9ea2d {ρ : Nat → Nat} {D F : Nat → Prop} {h0 : nk_H} {u v : Nat}   {h yh : nk_H} (Rh : nt_R ρ D F h0 u v yh h) {t0 yt0 : Nat} (At0 : nt_A ρ D (nk_N h) t0 yt0) {v1 yv1 : Option Nat} (Vv1 : nt_V ρ D (nk_N h) v1 yv1) : nt_F ρ D F h0 u v (nk_N h) nt_q (f_Jx4a65c_add_9ea2d h t0 v1) (f_Jx4a65c_add_9ea2d yh yt0 yv1) := by
  unfold f_Jx4a65c_add_9ea2d
  refine nt_gI Rh (nt_vS At0) (fun x1 => ?_)
  refine nt_pI Rh (nt_vS At0) (fun h2 yh2 Rh2 Lh2 => ?_)
  refine nt_gP Rh2 (nt_vS At0) (fun x3 yx3 Vx3 => ?_)
  refine nt_gI Rh2 (nt_vS At0) (fun x4 => ?_)
  refine nt_rcv Rh2 (nt_vS At0) (fun a5 ya5 Aa5 => ?_)
  refine nt_doE (n_Jx4a65c_add_72be8 Rh2 (nt_am Aa5 (by omega)) (nt_vm Vv1 (by omega)) (nt_vm Vx3 (by omega)) _) (fun h6 yh6 x7 Rh6 Lh6 => ?_)
  exact nt_zr Rh6 _ rfl (by omega)
theorem n_J7_fill_53178_c5 {ρ : Nat → Nat} {D F : Nat → Prop} {h0 : nk_H} {u v : Nat} {r5 r5' : nk_H → Option Nat → Int32 → Int32 → Int32 → Option (nk_H × Unit)} (hr5 : ∀ (g h : nk_H) (p1 q1 : Option Nat) (i2 : Int32) (i3 : Int32) (i4 : Int32), nt_R ρ D F h0 u v h g → nt_V ρ D (nk_N g) p1 q1 → nt_F ρ D F h0 u v (nk_N g) nt_q (r5 g p1 i2 i3 i4) (r5' h q1 i2 i3 i4)) {h yh : nk_H} (Rh : nt_R ρ D F h0 u v yh h) {v0 yv0 : Option Nat} (Vv0 : nt_V ρ D (nk_N h) v0 yv0) (v1 : Int32) (v2 : Int32) (v3 : Int32) : nt_F ρ D F h0 u v (nk_N h) nt_q (f_J7_fill_53178_c5 r5 h v0 v1 v2 v3) (f_J7_fill_53178_c5 r5' yh yv0 v1 v2 v3) := by
  unfold f_J7_fill_53178_c5
  refine nt_ite ?_ ?_
  · exact nt_ret Rh rfl (by omega)
  · refine nt_wI Rh Vv0 (fun h1 yh1 Rh1 Lh1 => ?_)
    exact nt_fk (hr5 _ _ _ _ _ _ _ Rh1 (nt_vm Vv0 (by omega))) (by omega)
theorem n_J7_fill_53178_b5 {ρ : Nat → Nat} {D F : Nat → Prop} {h0 : nk_H} {u v : Nat}   : ∀ (n : Nat) {g h : nk_H} (R : nt_R ρ D F h0 u v h g) {p1 q1 : Option Nat} (V1 : nt_V ρ D (nk_N g) p1 q1) (i2 : Int32) (i3 : Int32) (i4 : Int32), nt_F ρ D F h0 u v (nk_N g) nt_q (f_J7_fill_53178_b5 n g p1 i2 i3 i4) (f_J7_fill_53178_b5 n h q1 i2 i3 i4)
  | 0, _, _, _, _, _, _, _, _, _ => nt_none
  | n + 1, _, _, R, _, _, V1, i2, i3, i4 => n_J7_fill_53178_c5 (fun g h p1 q1 i2 i3 i4 R V1 => n_J7_fill_53178_b5 n R V1 i2 i3 i4) R V1 i2 i3 i4
theorem n_J7_fill_53178 {ρ : Nat → Nat} {D F : Nat → Prop} {h0 : nk_H} {u v : Nat}   {h yh : nk_H} (Rh : nt_R ρ D F h0 u v yh h) {v0 yv0 : Option Nat} (Vv0 : nt_V ρ D (nk_N h) v0 yv0) (v1 : Int32) : nt_F ρ D F h0 u v (nk_N h) nt_q (f_J7_fill_53178 h v0 v1) (f_J7_fill_53178 yh yv0 v1) := by
  unfold f_J7_fill_53178
  refine nt_len Rh Vv0 (fun x2 => ?_)
  exact nt_fk (n_J7_fill_53178_b5 _ Rh (nt_vm Vv0 (by omega)) _ _ _) (by omega)
theorem n_X8_init {ρ : Nat → Nat} {D F : Nat → Prop} {h0 : nk_H} {u v : Nat}   {h yh : nk_H} (Rh : nt_R ρ D F h0 u v yh h) {t0 yt0 : Nat} (At0 : nt_A ρ D (nk_N h) t0 yt0) : nt_F ρ D F h0 u v (nk_N h) nt_q (f_X8_init h t0) (f_X8_init yh yt0) := by
  unfold f_X8_init
  refine nt_na Rh (fun h1 yh1 Rh1 Lh1 => ?_)
  refine nt_pP Rh1 (nt_vS At0) (nt_vN Rh (by omega)) (fun h2 yh2 Rh2 Lh2 => ?_)
  refine nt_gP Rh2 (nt_vS At0) (fun x3 yx3 Vx3 => ?_)
  refine nt_doE (n_J7_fill_53178 Rh2 (nt_vm Vx3 (by omega)) _) (fun h4 yh4 x5 Rh4 Lh4 => ?_)
  exact nt_ret Rh4 rfl (by omega)
theorem n_X0_init {ρ : Nat → Nat} {D F : Nat → Prop} {h0 : nk_H} {u v : Nat}   {h yh : nk_H} (Rh : nt_R ρ D F h0 u v yh h) {t0 yt0 : Nat} (At0 : nt_A ρ D (nk_N h) t0 yt0) {v1 yv1 : Option Nat} (Vv1 : nt_V ρ D (nk_N h) v1 yv1) {v2 yv2 : Option Nat} (Vv2 : nt_V ρ D (nk_N h) v2 yv2) : nt_F ρ D F h0 u v (nk_N h) nt_q (f_X0_init h t0 v1 v2) (f_X0_init yh yt0 yv1 yv2) := by
  unfold f_X0_init
  refine nt_doE (n_X8_init Rh (nt_am At0 (by omega))) (fun h1 yh1 x2 Rh1 Lh1 => ?_)
  refine nt_pP Rh1 (nt_vS At0) (nt_vm Vv1 (by omega)) (fun h3 yh3 Rh3 Lh3 => ?_)
  refine nt_pP Rh3 (nt_vS At0) (nt_vm Vv2 (by omega)) (fun h4 yh4 Rh4 Lh4 => ?_)
  refine nt_na Rh4 (fun h5 yh5 Rh5 Lh5 => ?_)
  refine nt_pP Rh5 (nt_vS At0) (nt_vN Rh4 (by omega)) (fun h6 yh6 Rh6 Lh6 => ?_)
  refine nt_gP Rh6 (nt_vS At0) (fun x7 yx7 Vx7 => ?_)
  refine nt_gI Rh6 Vv2 (fun x8 => ?_)
  refine nt_wI Rh6 Vx7 (fun h9 yh9 Rh9 Lh9 => ?_)
  refine nt_gP Rh9 (nt_vS At0) (fun x10 yx10 Vx10 => ?_)
  refine nt_gI Rh9 Vv1 (fun x11 => ?_)
  refine nt_wI Rh9 Vx10 (fun h12 yh12 Rh12 Lh12 => ?_)
  refine nt_gP Rh12 (nt_vS At0) (fun x13 yx13 Vx13 => ?_)
  refine nt_gI Rh12 Vv2 (fun x14 => ?_)
  refine nt_wI Rh12 Vx13 (fun h15 yh15 Rh15 Lh15 => ?_)
  refine nt_gP Rh15 (nt_vS At0) (fun x16 yx16 Vx16 => ?_)
  refine nt_gI Rh15 Vv2 (fun x17 => ?_)
  refine nt_wI Rh15 Vx16 (fun h18 yh18 Rh18 Lh18 => ?_)
  refine nt_gP Rh18 (nt_vS At0) (fun x19 yx19 Vx19 => ?_)
  refine nt_gI Rh18 Vv2 (fun x20 => ?_)
  refine nt_wI Rh18 Vx19 (fun h21 yh21 Rh21 Lh21 => ?_)
  refine nt_gP Rh21 (nt_vS At0) (fun x22 yx22 Vx22 => ?_)
  refine nt_gI Rh21 Vv2 (fun x23 => ?_)
  refine nt_wI Rh21 Vx22 (fun h24 yh24 Rh24 Lh24 => ?_)
  exact nt_ret Rh24 rfl (by omega)
theorem n_X9_hasInLine_c2 {ρ : Nat → Nat} {D F : Nat → Prop} {h0 : nk_H} {u v : Nat} {r2 r2' : nk_H → Option Nat → Option Nat → Option (nk_H × Int32)} (hr2 : ∀ (g h : nk_H) (p1 q1 : Option Nat) (p2 q2 : Option Nat), nt_R ρ D F h0 u v h g → nt_V ρ D (nk_N g) p1 q1 → nt_V ρ D (nk_N g) p2 q2 → nt_F ρ D F h0 u v (nk_N g) nt_q (r2 g p1 p2) (r2' h q1 q2)) {h yh : nk_H} (Rh : nt_R ρ D F h0 u v yh h) {v1 yv1 : Option Nat} (Vv1 : nt_V ρ D (nk_N h) v1 yv1) {v2 yv2 : Option Nat} (Vv2 : nt_V ρ D (nk_N h) v2 yv2) : nt_F ρ D F h0 u v (nk_N h) nt_q (f_X9_hasInLine_c2 r2 h v1 v2) (f_X9_hasInLine_c2 r2' yh yv1 yv2) := by
  unfold f_X9_hasInLine_c2
  refine nt_iteP (nt_eq Rh Vv2 (nt_vn (n := 0))) ?_ ?_
  · exact nt_zr Rh _ rfl (by omega)
  · refine nt_iteP (nt_eq Rh Vv2 Vv1) ?_ ?_
    · exact nt_zr Rh _ rfl (by omega)
    · refine nt_gP Rh Vv2 (fun x1 yx1 Vx1 => ?_)
      exact nt_fk (hr2 _ _ _ _ _ _ Rh (nt_vm Vv1 (by omega)) (nt_vm Vx1 (by omega))) (by omega)
theorem n_X9_hasInLine_b2 {ρ : Nat → Nat} {D F : Nat → Prop} {h0 : nk_H} {u v : Nat}   : ∀ (n : Nat) {g h : nk_H} (R : nt_R ρ D F h0 u v h g) {p1 q1 : Option Nat} (V1 : nt_V ρ D (nk_N g) p1 q1) {p2 q2 : Option Nat} (V2 : nt_V ρ D (nk_N g) p2 q2), nt_F ρ D F h0 u v (nk_N g) nt_q (f_X9_hasInLine_b2 n g p1 p2) (f_X9_hasInLine_b2 n h q1 q2)
  | 0, _, _, _, _, _, _, _, _, _ => nt_none
  | n + 1, _, _, R, _, _, V1, _, _, V2 => n_X9_hasInLine_c2 (fun g h p1 q1 p2 q2 R V1 V2 => n_X9_hasInLine_b2 n R V1 V2) R V1 V2
theorem n_X9_hasInLine {ρ : Nat → Nat} {D F : Nat → Prop} {h0 : nk_H} {u v : Nat}   {h yh : nk_H} (Rh : nt_R ρ D F h0 u v yh h) {t0 yt0 : Nat} (At0 : nt_A ρ D (nk_N h) t0 yt0) {v1 yv1 : Option Nat} (Vv1 : nt_V ρ D (nk_N h) v1 yv1) : nt_F ρ D F h0 u v (nk_N h) nt_q (f_X9_hasInLine h t0 v1) (f_X9_hasInLine yh yt0 yv1) := by
  unfold f_X9_hasInLine
  exact nt_fk (n_X9_hasInLine_b2 _ Rh (nt_vm Vv1 (by omega)) (nt_vS (nt_am At0 (by omega)))) (by omega)
theorem n_X0_amountBy_c22 {ρ : Nat → Nat} {D F : Nat → Prop} {h0 : nk_H} {u v : Nat}   {h yh : nk_H} (Rh : nt_R ρ D F h0 u v yh h) (s0 : Int32) : nt_F ρ D F h0 u v (nk_N h) nt_q (f_X0_amountBy_c22 h s0) (f_X0_amountBy_c22 yh s0) := by
  unfold f_X0_amountBy_c22
  exact nt_ret Rh rfl (by omega)
theorem n_X0_amountBy {ρ : Nat → Nat} {D F : Nat → Prop} {h0 : nk_H} {u v : Nat}   {h yh : nk_H} (Rh : nt_R ρ D F h0 u v yh h) {t0 yt0 : Nat} (At0 : nt_A ρ D (nk_N h) t0 yt0) {v1 yv1 : Option Nat} (Vv1 : nt_V ρ D (nk_N h) v1 yv1) : nt_F ρ D F h0 u v (nk_N h) nt_q (f_X0_amountBy h t0 v1) (f_X0_amountBy yh yt0 yv1) := by
  unfold f_X0_amountBy
  refine nt_gP Rh (nt_vS At0) (fun x1 yx1 Vx1 => ?_)
  refine nt_rcv Rh Vx1 (fun a2 ya2 Aa2 => ?_)
  refine nt_doE (n_X9_hasInLine Rh (nt_am Aa2 (by omega)) (nt_vm Vv1 (by omega))) (fun h3 yh3 x4 Rh3 Lh3 => ?_)
  refine nt_ite ?_ ?_
  · exact nt_fk (n_X0_amountBy_c22 Rh3 _) (by omega)
  · refine nt_gP Rh3 (nt_vS At0) (fun x5 yx5 Vx5 => ?_)
    refine nt_gI Rh3 Vx5 (fun x6 => ?_)
    exact nt_fk (n_X0_amountBy_c22 Rh3 _) (by omega)
theorem n_X1_init {ρ : Nat → Nat} {D F : Nat → Prop} {h0 : nk_H} {u v : Nat}   {h yh : nk_H} (Rh : nt_R ρ D F h0 u v yh h) {t0 yt0 : Nat} (At0 : nt_A ρ D (nk_N h) t0 yt0) (v1 : Int32) : nt_F ρ D F h0 u v (nk_N h) nt_q (f_X1_init h t0 v1) (f_X1_init yh yt0 v1) := by
  unfold f_X1_init
  refine nt_pI Rh (nt_vS At0) (fun h1 yh1 Rh1 Lh1 => ?_)
  refine nt_al Rh1 (fun h2 yh2 Rh2 Lh2 => ?_)
  refine nt_doE (n_Jx4a65c_init_da8c8 Rh2 (nt_aN Rh1 (by omega))) (fun h3 yh3 x4 Rh3 Lh3 => ?_)
  refine nt_pP Rh3 (nt_vS At0) (nt_vN Rh1 (by omega)) (fun h5 yh5 Rh5 Lh5 => ?_)
  exact nt_ret Rh5 rfl (by omega)
theorem n_X1_count {ρ : Nat → Nat} {D F : Nat → Prop} {h0 : nk_H} {u v : Nat}   {h yh : nk_H} (Rh : nt_R ρ D F h0 u v yh h) {t0 yt0 : Nat} (At0 : nt_A ρ D (nk_N h) t0 yt0) : nt_F ρ D F h0 u v (nk_N h) nt_q (f_X1_count h t0) (f_X1_count yh yt0) := by
  unfold f_X1_count
  refine nt_gP Rh (nt_vS At0) (fun x1 yx1 Vx1 => ?_)
  refine nt_rcv Rh Vx1 (fun a2 ya2 Aa2 => ?_)
  refine nt_doE (n_Jx4a65c_size_8abf5 Rh (nt_am Aa2 (by omega))) (fun h3 yh3 x4 Rh3 Lh3 => ?_)
  exact nt_ret Rh3 rfl (by omega)
theorem n_X1_actOf {ρ : Nat → Nat} {D F : Nat → Prop} {h0 : nk_H} {u v : Nat}   {h yh : nk_H} (Rh : nt_R ρ D F h0 u v yh h) {t0 yt0 : Nat} (At0 : nt_A ρ D (nk_N h) t0 yt0) (v1 : Int32) : nt_F ρ D F h0 u v (nk_N h) (nt_V ρ D) (f_X1_actOf h t0 v1) (f_X1_actOf yh yt0 v1) := by
  unfold f_X1_actOf
  refine nt_gP Rh (nt_vS At0) (fun x1 yx1 Vx1 => ?_)
  refine nt_rcv Rh Vx1 (fun a2 ya2 Aa2 => ?_)
  refine nt_doV (n_Jx4a65c_get_915e3 Rh (nt_am Aa2 (by omega)) _) (fun h3 yh3 x4 yx4 Rh3 Vx4 Lh3 => ?_)
  refine nt_cc Rh3 Vx4 ?_
  exact nt_ret Rh3 (nt_vm Vx4 (by omega)) (by omega)
theorem n_X1_sealAhead_c31 {ρ : Nat → Nat} {D F : Nat → Prop} {h0 : nk_H} {u v : Nat}   {h yh : nk_H} (Rh : nt_R ρ D F h0 u v yh h) (s0 : Int32) : nt_F ρ D F h0 u v (nk_N h) nt_q (f_X1_sealAhead_c31 h s0) (f_X1_sealAhead_c31 yh s0) := by
  unfold f_X1_sealAhead_c31
  exact nt_ret Rh rfl (by omega)
theorem n_X1_sealAhead {ρ : Nat → Nat} {D F : Nat → Prop} {h0 : nk_H} {u v : Nat}   {h yh : nk_H} (Rh : nt_R ρ D F h0 u v yh h) {t0 yt0 : Nat} (At0 : nt_A ρ D (nk_N h) t0 yt0) (v1 : Int32) : nt_F ρ D F h0 u v (nk_N h) nt_q (f_X1_sealAhead h t0 v1) (f_X1_sealAhead yh yt0 v1) := by
  unfold f_X1_sealAhead
  refine nt_ite ?_ ?_
  · refine nt_gI Rh (nt_vS At0) (fun x1 => ?_)
    exact nt_fk (n_X1_sealAhead_c31 Rh _) (by omega)
  · refine nt_gP Rh (nt_vS At0) (fun x2 yx2 Vx2 => ?_)
    refine nt_rcv Rh Vx2 (fun a3 ya3 Aa3 => ?_)
    refine nt_doV (n_Jx4a65c_get_915e3 Rh (nt_am Aa3 (by omega)) _) (fun h4 yh4 x5 yx5 Rh4 Vx5 Lh4 => ?_)
    refine nt_cc Rh4 Vx5 ?_
    refine nt_gI Rh4 Vx5 (fun x7 => ?_)
    exact nt_fk (n_X1_sealAhead_c31 Rh4 _) (by omega)
theorem n_X11_bit {ρ : Nat → Nat} {D F : Nat → Prop} {h0 : nk_H} {u v : Nat}   {h yh : nk_H} (Rh : nt_R ρ D F h0 u v yh h) (v0 : Int32) : nt_F ρ D F h0 u v (nk_N h) nt_q (f_X11_bit h v0) (f_X11_bit yh v0) := by
  unfold f_X11_bit
  exact nt_ret Rh rfl (by omega)
theorem n_X11_hasBit_c14 {ρ : Nat → Nat} {D F : Nat → Prop} {h0 : nk_H} {u v : Nat}   {h yh : nk_H} (Rh : nt_R ρ D F h0 u v yh h) (s0 : Int32) : nt_F ρ D F h0 u v (nk_N h) nt_q (f_X11_hasBit_c14 h s0) (f_X11_hasBit_c14 yh s0) := by
  unfold f_X11_hasBit_c14
  exact nt_zr Rh _ rfl (by omega)
theorem n_X11_hasBit {ρ : Nat → Nat} {D F : Nat → Prop} {h0 : nk_H} {u v : Nat}   {h yh : nk_H} (Rh : nt_R ρ D F h0 u v yh h) (v0 : Int32) (v1 : Int32) : nt_F ρ D F h0 u v (nk_N h) nt_q (f_X11_hasBit h v0 v1) (f_X11_hasBit yh v0 v1) := by
  unfold f_X11_hasBit
  refine nt_doE (n_X11_bit Rh _) (fun h1 yh1 x2 Rh1 Lh1 => ?_)
  refine nt_ite ?_ ?_
  · exact nt_fk (n_X11_hasBit_c14 Rh1 _) (by omega)
  · exact nt_fk (n_X11_hasBit_c14 Rh1 _) (by omega)
theorem n_X11_saltOf {ρ : Nat → Nat} {D F : Nat → Prop} {h0 : nk_H} {u v : Nat}   {h yh : nk_H} (Rh : nt_R ρ D F h0 u v yh h) (v0 : Int32) (v1 : Int32) (v2 : Int32) : nt_F ρ D F h0 u v (nk_N h) nt_q (f_X11_saltOf h v0 v1 v2) (f_X11_saltOf yh v0 v1 v2) := by
  unfold f_X11_saltOf
  exact nt_ret Rh rfl (by omega)
theorem n_X11_sealOf {ρ : Nat → Nat} {D F : Nat → Prop} {h0 : nk_H} {u v : Nat}   {h yh : nk_H} (Rh : nt_R ρ D F h0 u v yh h) (v0 : Int32) (v1 : Int32) : nt_F ρ D F h0 u v (nk_N h) nt_q (f_X11_sealOf h v0 v1) (f_X11_sealOf yh v0 v1) := by
  unfold f_X11_sealOf
  exact nt_ret Rh rfl (by omega)
theorem n_X11_markOf {ρ : Nat → Nat} {D F : Nat → Prop} {h0 : nk_H} {u v : Nat}   {h yh : nk_H} (Rh : nt_R ρ D F h0 u v yh h) (v0 : Int32) (v1 : Int32) (v2 : Int32) (v3 : Int32) : nt_F ρ D F h0 u v (nk_N h) nt_q (f_X11_markOf h v0 v1 v2 v3) (f_X11_markOf yh v0 v1 v2 v3) := by
  unfold f_X11_markOf
  refine nt_doE (n_X11_saltOf Rh _ _ _) (fun h1 yh1 x2 Rh1 Lh1 => ?_)
  refine nt_doE (n_X11_sealOf Rh1 _ _) (fun h3 yh3 x4 Rh3 Lh3 => ?_)
  exact nt_ret Rh3 rfl (by omega)
theorem n_X11_sealFrom_c48 {ρ : Nat → Nat} {D F : Nat → Prop} {h0 : nk_H} {u v : Nat} {r6 r6' : nk_H → Int32 → Int32 → Int32 → Option Nat → Int32 → Int32 → Int32 → Option (nk_H × Int32)} (hr6 : ∀ (g h : nk_H) (i1 : Int32) (i2 : Int32) (i3 : Int32) (p4 q4 : Option Nat) (i5 : Int32) (i6 : Int32) (i7 : Int32), nt_R ρ D F h0 u v h g → nt_V ρ D (nk_N g) p4 q4 → nt_F ρ D F h0 u v (nk_N g) nt_q (r6 g i1 i2 i3 p4 i5 i6 i7) (r6' h i1 i2 i3 q4 i5 i6 i7)) {h yh : nk_H} (Rh : nt_R ρ D F h0 u v yh h) (v0 : Int32) (v1 : Int32) (v2 : Int32) {v3 yv3 : Option Nat} (Vv3 : nt_V ρ D (nk_N h) v3 yv3) (v4 : Int32) (v5 : Int32) (v6 : Int32) (s0 : Int32) : nt_F ρ D F h0 u v (nk_N h) nt_q (f_X11_sealFrom_c48 r6 h v0 v1 v2 v3 v4 v5 v6 s0) (f_X11_sealFrom_c48 r6' yh v0 v1 v2 yv3 v4 v5 v6 s0) := by
  unfold f_X11_sealFrom_c48
  refine nt_doE (n_X11_sealOf Rh _ _) (fun h1 yh1 x2 Rh1 Lh1 => ?_)
  exact nt_fk (hr6 _ _ _ _ _ _ _ _ _ _ Rh1 (nt_vm Vv3 (by omega))) (by omega)
theorem n_X11_sealFrom_c65 {ρ : Nat → Nat} {D F : Nat → Prop} {h0 : nk_H} {u v : Nat}   {h yh : nk_H} (Rh : nt_R ρ D F h0 u v yh h) (v0 : Int32) (v5 : Int32) : nt_F ρ D F h0 u v (nk_N h) nt_q (f_X11_sealFrom_c65 h v0 v5) (f_X11_sealFrom_c65 yh v0 v5) := by
  unfold f_X11_sealFrom_c65
  refine nt_doE (n_X11_sealOf Rh _ _) (fun h3 yh3 x4 Rh3 Lh3 => ?_)
  exact nt_ret Rh3 rfl (by omega)
theorem n_X11_sealFrom_c6 {ρ : Nat → Nat} {D F : Nat → Prop} {h0 : nk_H} {u v : Nat} {r6 r6' : nk_H → Int32 → Int32 → Int32 → Option Nat → Int32 → Int32 → Int32 → Option (nk_H × Int32)} (hr6 : ∀ (g h : nk_H) (i1 : Int32) (i2 : Int32) (i3 : Int32) (p4 q4 : Option Nat) (i5 : Int32) (i6 : Int32) (i7 : Int32), nt_R ρ D F h0 u v h g → nt_V ρ D (nk_N g) p4 q4 → nt_F ρ D F h0 u v (nk_N g) nt_q (r6 g i1 i2 i3 p4 i5 i6 i7) (r6' h i1 i2 i3 q4 i5 i6 i7)) {h yh : nk_H} (Rh : nt_R ρ D F h0 u v yh h) (v0 : Int32) (v1 : Int32) (v2 : Int32) {v3 yv3 : Option Nat} (Vv3 : nt_V ρ D (nk_N h) v3 yv3) (v4 : Int32) (v5 : Int32) (v6 : Int32) : nt_F ρ D F h0 u v (nk_N h) nt_q (f_X11_sealFrom_c6 r6 h v0 v1 v2 v3 v4 v5 v6) (f_X11_sealFrom_c6 r6' yh v0 v1 v2 yv3 v4 v5 v6) := by
  unfold f_X11_sealFrom_c6
  refine nt_ite ?_ ?_
  · exact nt_fk (n_X11_sealFrom_c65 Rh _ _) (by omega)
  · refine nt_len Rh Vv3 (fun x5 => ?_)
    refine nt_ite ?_ ?_
    · exact nt_fk (n_X11_sealFrom_c65 Rh _ _) (by omega)
    · refine nt_doE (n_X11_hasBit Rh _ _) (fun h6 yh6 x7 Rh6 Lh6 => ?_)
      refine nt_ite ?_ ?_
      · refine nt_aI Rh6 Vv3 (fun x8 => ?_)
        refine nt_doE (n_X11_markOf Rh6 _ _ _ _) (fun h9 yh9 x10 Rh9 Lh9 => ?_)
        exact nt_fk (n_X11_sealFrom_c48 hr6 Rh9 _ _ _ (nt_vm Vv3 (by omega)) _ _ _ _) (by omega)
      · refine nt_aI Rh6 Vv3 (fun x11 => ?_)
        exact nt_fk (n_X11_sealFrom_c48 hr6 Rh6 _ _ _ (nt_vm Vv3 (by omega)) _ _ _ _) (by omega)
theorem n_X11_sealFrom_b6 {ρ : Nat → Nat} {D F : Nat → Prop} {h0 : nk_H} {u v : Nat}   : ∀ (n : Nat) {g h : nk_H} (R : nt_R ρ D F h0 u v h g) (i1 : Int32) (i2 : Int32) (i3 : Int32) {p4 q4 : Option Nat} (V4 : nt_V ρ D (nk_N g) p4 q4) (i5 : Int32) (i6 : Int32) (i7 : Int32), nt_F ρ D F h0 u v (nk_N g) nt_q (f_X11_sealFrom_b6 n g i1 i2 i3 p4 i5 i6 i7) (f_X11_sealFrom_b6 n h i1 i2 i3 q4 i5 i6 i7)
  | 0, _, _, _, _, _, _, _, _, _, _, _, _ => nt_none
  | n + 1, _, _, R, i1, i2, i3, _, _, V4, i5, i6, i7 => n_X11_sealFrom_c6 (fun g h i1 i2 i3 p4 q4 i5 i6 i7 R V4 => n_X11_sealFrom_b6 n R i1 i2 i3 V4 i5 i6 i7) R i1 i2 i3 V4 i5 i6 i7
theorem n_X11_sealFrom {ρ : Nat → Nat} {D F : Nat → Prop} {h0 : nk_H} {u v : Nat}   {h yh : nk_H} (Rh : nt_R ρ D F h0 u v yh h) (v0 : Int32) (v1 : Int32) (v2 : Int32) {v3 yv3 : Option Nat} (Vv3 : nt_V ρ D (nk_N h) v3 yv3) (v4 : Int32) : nt_F ρ D F h0 u v (nk_N h) nt_q (f_X11_sealFrom h v0 v1 v2 v3 v4) (f_X11_sealFrom yh v0 v1 v2 yv3 v4) := by
  unfold f_X11_sealFrom
  exact nt_fk (n_X11_sealFrom_b6 _ Rh _ _ _ (nt_vm Vv3 (by omega)) _ _ _) (by omega)
theorem n_X1_sealNow {ρ : Nat → Nat} {D F : Nat → Prop} {h0 : nk_H} {u v : Nat}   {h yh : nk_H} (Rh : nt_R ρ D F h0 u v yh h) {t0 yt0 : Nat} (At0 : nt_A ρ D (nk_N h) t0 yt0) (v1 : Int32) {v2 yv2 : Option Nat} (Vv2 : nt_V ρ D (nk_N h) v2 yv2) : nt_F ρ D F h0 u v (nk_N h) nt_q (f_X1_sealNow h t0 v1 v2) (f_X1_sealNow yh yt0 v1 yv2) := by
  unfold f_X1_sealNow
  refine nt_rcv Rh (nt_vS At0) (fun a1 ya1 Aa1 => ?_)
  refine nt_doE (n_X1_sealAhead Rh (nt_am Aa1 (by omega)) _) (fun h2 yh2 x3 Rh2 Lh2 => ?_)
  refine nt_gI Rh2 (nt_vS At0) (fun x4 => ?_)
  refine nt_gP Rh2 Vv2 (fun x5 yx5 Vx5 => ?_)
  refine nt_doE (n_X11_sealFrom Rh2 _ _ _ (nt_vm Vx5 (by omega)) _) (fun h6 yh6 x7 Rh6 Lh6 => ?_)
  exact nt_ret Rh6 rfl (by omega)
theorem n_X1_enter {ρ : Nat → Nat} {D F : Nat → Prop} {h0 : nk_H} {u v : Nat}   {h yh : nk_H} (Rh : nt_R ρ D F h0 u v yh h) {t0 yt0 : Nat} (At0 : nt_A ρ D (nk_N h) t0 yt0) {v1 yv1 : Option Nat} (Vv1 : nt_V ρ D (nk_N h) v1 yv1) : nt_F ρ D F h0 u v (nk_N h) nt_q (f_X1_enter h t0 v1) (f_X1_enter yh yt0 yv1) := by
  unfold f_X1_enter
  refine nt_gP Rh (nt_vS At0) (fun x1 yx1 Vx1 => ?_)
  refine nt_rcv Rh Vx1 (fun a2 ya2 Aa2 => ?_)
  refine nt_doE (n_Jx4a65c_size_8abf5 Rh (nt_am Aa2 (by omega))) (fun h3 yh3 x4 Rh3 Lh3 => ?_)
  refine nt_rcv Rh3 (nt_vS At0) (fun a5 ya5 Aa5 => ?_)
  refine nt_doE (n_X1_sealNow Rh3 (nt_am Aa5 (by omega)) _ (nt_vm Vv1 (by omega))) (fun h6 yh6 x7 Rh6 Lh6 => ?_)
  refine nt_pI Rh6 Vv1 (fun h8 yh8 Rh8 Lh8 => ?_)
  refine nt_gP Rh8 (nt_vS At0) (fun x9 yx9 Vx9 => ?_)
  refine nt_rcv Rh8 Vx9 (fun a10 ya10 Aa10 => ?_)
  refine nt_doE (n_Jx4a65c_add_9ea2d Rh8 (nt_am Aa10 (by omega)) (nt_vm Vv1 (by omega))) (fun h11 yh11 x12 Rh11 Lh11 => ?_)
  exact nt_ret Rh11 rfl (by omega)
theorem n_X1_firstBroken_c2 {ρ : Nat → Nat} {D F : Nat → Prop} {h0 : nk_H} {u v : Nat} {r2 r2' : nk_H → Nat → Int32 → Option (nk_H × Int32)} (hr2 : ∀ (g h : nk_H) (a1 b1 : Nat) (i2 : Int32), nt_R ρ D F h0 u v h g → nt_A ρ D (nk_N g) a1 b1 → nt_F ρ D F h0 u v (nk_N g) nt_q (r2 g a1 i2) (r2' h b1 i2)) {h yh : nk_H} (Rh : nt_R ρ D F h0 u v yh h) {t0 yt0 : Nat} (At0 : nt_A ρ D (nk_N h) t0 yt0) (v1 : Int32) : nt_F ρ D F h0 u v (nk_N h) nt_q (f_X1_firstBroken_c2 r2 h t0 v1) (f_X1_firstBroken_c2 r2' yh yt0 v1) := by
  unfold f_X1_firstBroken_c2
  refine nt_gP Rh (nt_vS At0) (fun x1 yx1 Vx1 => ?_)
  refine nt_rcv Rh Vx1 (fun a2 ya2 Aa2 => ?_)
  refine nt_doE (n_Jx4a65c_size_8abf5 Rh (nt_am Aa2 (by omega))) (fun h3 yh3 x4 Rh3 Lh3 => ?_)
  refine nt_ite ?_ ?_
  · exact nt_ret Rh3 rfl (by omega)
  · refine nt_gP Rh3 (nt_vS At0) (fun x5 yx5 Vx5 => ?_)
    refine nt_rcv Rh3 Vx5 (fun a6 ya6 Aa6 => ?_)
    refine nt_doV (n_Jx4a65c_get_915e3 Rh3 (nt_am Aa6 (by omega)) _) (fun h7 yh7 x8 yx8 Rh7 Vx8 Lh7 => ?_)
    refine nt_cc Rh7 Vx8 ?_
    refine nt_rcv Rh7 (nt_vS At0) (fun a10 ya10 Aa10 => ?_)
    refine nt_doE (n_X1_sealNow Rh7 (nt_am Aa10 (by omega)) _ (nt_vm Vx8 (by omega))) (fun h11 yh11 x12 Rh11 Lh11 => ?_)
    refine nt_gI Rh11 Vx8 (fun x13 => ?_)
    refine nt_ite ?_ ?_
    · exact nt_fk (hr2 _ _ _ _ _ Rh11 (nt_am At0 (by omega))) (by omega)
    · exact nt_ret Rh11 rfl (by omega)
theorem n_X1_firstBroken_b2 {ρ : Nat → Nat} {D F : Nat → Prop} {h0 : nk_H} {u v : Nat}   : ∀ (n : Nat) {g h : nk_H} (R : nt_R ρ D F h0 u v h g) {a1 b1 : Nat} (A1 : nt_A ρ D (nk_N g) a1 b1) (i2 : Int32), nt_F ρ D F h0 u v (nk_N g) nt_q (f_X1_firstBroken_b2 n g a1 i2) (f_X1_firstBroken_b2 n h b1 i2)
  | 0, _, _, _, _, _, _, _ => nt_none
  | n + 1, _, _, R, _, _, A1, i2 => n_X1_firstBroken_c2 (fun g h a1 b1 i2 R A1 => n_X1_firstBroken_b2 n R A1 i2) R A1 i2
theorem n_X1_firstBroken {ρ : Nat → Nat} {D F : Nat → Prop} {h0 : nk_H} {u v : Nat}   {h yh : nk_H} (Rh : nt_R ρ D F h0 u v yh h) {t0 yt0 : Nat} (At0 : nt_A ρ D (nk_N h) t0 yt0) : nt_F ρ D F h0 u v (nk_N h) nt_q (f_X1_firstBroken h t0) (f_X1_firstBroken yh yt0) := by
  unfold f_X1_firstBroken
  exact nt_fk (n_X1_firstBroken_b2 _ Rh (nt_am At0 (by omega)) _) (by omega)
theorem n_X1_countStanding_c35 {ρ : Nat → Nat} {D F : Nat → Prop} {h0 : nk_H} {u v : Nat} {r4 r4' : nk_H → Nat → Int32 → Int32 → Option (nk_H × Int32)} (hr4 : ∀ (g h : nk_H) (a1 b1 : Nat) (i2 : Int32) (i3 : Int32), nt_R ρ D F h0 u v h g → nt_A ρ D (nk_N g) a1 b1 → nt_F ρ D F h0 u v (nk_N g) nt_q (r4 g a1 i2 i3) (r4' h b1 i2 i3)) {h yh : nk_H} (Rh : nt_R ρ D F h0 u v yh h) {t0 yt0 : Nat} (At0 : nt_A ρ D (nk_N h) t0 yt0) (v1 : Int32) (v2 : Int32) : nt_F ρ D F h0 u v (nk_N h) nt_q (f_X1_countStanding_c35 r4 h t0 v1 v2) (f_X1_countStanding_c35 r4' yh yt0 v1 v2) := by
  unfold f_X1_countStanding_c35
  exact nt_fk (hr4 _ _ _ _ _ _ Rh (nt_am At0 (by omega))) (by omega)
theorem n_X1_countStanding_c4 {ρ : Nat → Nat} {D F : Nat → Prop} {h0 : nk_H} {u v : Nat} {r4 r4' : nk_H → Nat → Int32 → Int32 → Option (nk_H × Int32)} (hr4 : ∀ (g h : nk_H) (a1 b1 : Nat) (i2 : Int32) (i3 : Int32), nt_R ρ D F h0 u v h g → nt_A ρ D (nk_N g) a1 b1 → nt_F ρ D F h0 u v (nk_N g) nt_q (r4 g a1 i2 i3) (r4' h b1 i2 i3)) {h yh : nk_H} (Rh : nt_R ρ D F h0 u v yh h) {t0 yt0 : Nat} (At0 : nt_A ρ D (nk_N h) t0 yt0) (v1 : Int32) (v2 : Int32) : nt_F ρ D F h0 u v (nk_N h) nt_q (f_X1_countStanding_c4 r4 h t0 v1 v2) (f_X1_countStanding_c4 r4' yh yt0 v1 v2) := by
  unfold f_X1_countStanding_c4
  refine nt_gP Rh (nt_vS At0) (fun x1 yx1 Vx1 => ?_)
  refine nt_rcv Rh Vx1 (fun a2 ya2 Aa2 => ?_)
  refine nt_doE (n_Jx4a65c_size_8abf5 Rh (nt_am Aa2 (by omega))) (fun h3 yh3 x4 Rh3 Lh3 => ?_)
  refine nt_ite ?_ ?_
  · exact nt_ret Rh3 rfl (by omega)
  · refine nt_gP Rh3 (nt_vS At0) (fun x5 yx5 Vx5 => ?_)
    refine nt_rcv Rh3 Vx5 (fun a6 ya6 Aa6 => ?_)
    refine nt_doV (n_Jx4a65c_get_915e3 Rh3 (nt_am Aa6 (by omega)) _) (fun h7 yh7 x8 yx8 Rh7 Vx8 Lh7 => ?_)
    refine nt_cc Rh7 Vx8 ?_
    refine nt_gI Rh7 Vx8 (fun x10 => ?_)
    refine nt_ite ?_ ?_
    · exact nt_fk (n_X1_countStanding_c35 hr4 Rh7 (nt_am At0 (by omega)) _ _) (by omega)
    · exact nt_fk (n_X1_countStanding_c35 hr4 Rh7 (nt_am At0 (by omega)) _ _) (by omega)
theorem n_X1_countStanding_b4 {ρ : Nat → Nat} {D F : Nat → Prop} {h0 : nk_H} {u v : Nat}   : ∀ (n : Nat) {g h : nk_H} (R : nt_R ρ D F h0 u v h g) {a1 b1 : Nat} (A1 : nt_A ρ D (nk_N g) a1 b1) (i2 : Int32) (i3 : Int32), nt_F ρ D F h0 u v (nk_N g) nt_q (f_X1_countStanding_b4 n g a1 i2 i3) (f_X1_countStanding_b4 n h b1 i2 i3)
  | 0, _, _, _, _, _, _, _, _ => nt_none
  | n + 1, _, _, R, _, _, A1, i2, i3 => n_X1_countStanding_c4 (fun g h a1 b1 i2 i3 R A1 => n_X1_countStanding_b4 n R A1 i2 i3) R A1 i2 i3
theorem n_X1_countStanding {ρ : Nat → Nat} {D F : Nat → Prop} {h0 : nk_H} {u v : Nat}   {h yh : nk_H} (Rh : nt_R ρ D F h0 u v yh h) {t0 yt0 : Nat} (At0 : nt_A ρ D (nk_N h) t0 yt0) : nt_F ρ D F h0 u v (nk_N h) nt_q (f_X1_countStanding h t0) (f_X1_countStanding yh yt0) := by
  unfold f_X1_countStanding
  exact nt_fk (n_X1_countStanding_b4 _ Rh (nt_am At0 (by omega)) _ _) (by omega)
theorem n_X2_init {ρ : Nat → Nat} {D F : Nat → Prop} {h0 : nk_H} {u v : Nat}   {h yh : nk_H} (Rh : nt_R ρ D F h0 u v yh h) {t0 yt0 : Nat} (At0 : nt_A ρ D (nk_N h) t0 yt0) (v1 : Int32) (v2 : Int32) (v3 : Int32) (v4 : Int32) : nt_F ρ D F h0 u v (nk_N h) nt_q (f_X2_init h t0 v1 v2 v3 v4) (f_X2_init yh yt0 v1 v2 v3 v4) := by
  unfold f_X2_init
  refine nt_pI Rh (nt_vS At0) (fun h1 yh1 Rh1 Lh1 => ?_)
  refine nt_pI Rh1 (nt_vS At0) (fun h2 yh2 Rh2 Lh2 => ?_)
  refine nt_pI Rh2 (nt_vS At0) (fun h3 yh3 Rh3 Lh3 => ?_)
  refine nt_pI Rh3 (nt_vS At0) (fun h4 yh4 Rh4 Lh4 => ?_)
  refine nt_mna Rh4 (fun h5 yh5 Rh5 Lh5 => ?_)
  refine nt_pP Rh5 (nt_vS At0) (nt_vN Rh4 (by omega)) (fun h6 yh6 Rh6 Lh6 => ?_)
  refine nt_na Rh6 (fun h7 yh7 Rh7 Lh7 => ?_)
  refine nt_pP Rh7 (nt_vS At0) (nt_vN Rh6 (by omega)) (fun h8 yh8 Rh8 Lh8 => ?_)
  exact nt_ret Rh8 rfl (by omega)
theorem n_X2_leavesOut {ρ : Nat → Nat} {D F : Nat → Prop} {h0 : nk_H} {u v : Nat}   {h yh : nk_H} (Rh : nt_R ρ D F h0 u v yh h) {t0 yt0 : Nat} (At0 : nt_A ρ D (nk_N h) t0 yt0) (v1 : Int32) : nt_F ρ D F h0 u v (nk_N h) nt_q (f_X2_leavesOut h t0 v1) (f_X2_leavesOut yh yt0 v1) := by
  unfold f_X2_leavesOut
  refine nt_gI Rh (nt_vS At0) (fun x1 => ?_)
  refine nt_doE (n_X11_hasBit Rh _ _) (fun h2 yh2 x3 Rh2 Lh2 => ?_)
  exact nt_zr Rh2 _ rfl (by omega)
theorem n_X2_takeFrom_c102 {ρ : Nat → Nat} {D F : Nat → Prop} {h0 : nk_H} {u v : Nat} {r14 r14' : nk_H → Nat → Option Nat → Int32 → Option (nk_H × Unit)} {r46 r46' : nk_H → Nat → Option Nat → Int32 → Option Nat → Int32 → Option (nk_H × Unit)} (hr14 : ∀ (g h : nk_H) (a1 b1 : Nat) (p2 q2 : Option Nat) (i3 : Int32), nt_R ρ D F h0 u v h g → nt_A ρ D (nk_N g) a1 b1 → nt_V ρ D (nk_N g) p2 q2 → nt_F ρ D F h0 u v (nk_N g) nt_q (r14 g a1 p2 i3) (r14' h b1 q2 i3)) (hr46 : ∀ (g h : nk_H) (a1 b1 : Nat) (p2 q2 : Option Nat) (i3 : Int32) (p4 q4 : Option Nat) (i5 : Int32), nt_R ρ D F h0 u v h g → nt_A ρ D (nk_N g) a1 b1 → nt_V ρ D (nk_N g) p2 q2 → nt_V ρ D (nk_N g) p4 q4 → nt_F ρ D F h0 u v (nk_N g) nt_q (r46 g a1 p2 i3 p4 i5) (r46' h b1 q2 i3 q4 i5)) {h yh : nk_H} (Rh : nt_R ρ D F h0 u v yh h) {t0 yt0 : Nat} (At0 : nt_A ρ D (nk_N h) t0 yt0) {v1 yv1 : Option Nat} (Vv1 : nt_V ρ D (nk_N h) v1 yv1) (v2 : Int32) {v3 yv3 : Option Nat} (Vv3 : nt_V ρ D (nk_N h) v3 yv3) (v4 : Int32) (s0 : Int32) (s1 : Int32) {s2 ys2 : Option Nat} (Vs2 : nt_V ρ D (nk_N h) s2 ys2) : nt_F ρ D F h0 u v (nk_N h) nt_q (f_X2_takeFrom_c102 r14 r46 h t0 v1 v2 v3 v4 s0 s1 s2) (f_X2_takeFrom_c102 r14' r46' yh yt0 yv1 v2 yv3 v4 s0 s1 ys2) := by
  unfold f_X2_takeFrom_c102
  refine nt_wI Rh Vs2 (fun h1 yh1 Rh1 Lh1 => ?_)
  exact nt_fk (hr46 _ _ _ _ _ _ _ _ _ _ Rh1 (nt_am At0 (by omega)) (nt_vm Vv1 (by omega)) (nt_vm Vv3 (by omega))) (by omega)
theorem n_X2_takeFrom_c46 {ρ : Nat → Nat} {D F : Nat → Prop} {h0 : nk_H} {u v : Nat} {r14 r14' : nk_H → Nat → Option Nat → Int32 → Option (nk_H × Unit)} {r46 r46' : nk_H → Nat → Option Nat → Int32 → Option Nat → Int32 → Option (nk_H × Unit)} (hr14 : ∀ (g h : nk_H) (a1 b1 : Nat) (p2 q2 : Option Nat) (i3 : Int32), nt_R ρ D F h0 u v h g → nt_A ρ D (nk_N g) a1 b1 → nt_V ρ D (nk_N g) p2 q2 → nt_F ρ D F h0 u v (nk_N g) nt_q (r14 g a1 p2 i3) (r14' h b1 q2 i3)) (hr46 : ∀ (g h : nk_H) (a1 b1 : Nat) (p2 q2 : Option Nat) (i3 : Int32) (p4 q4 : Option Nat) (i5 : Int32), nt_R ρ D F h0 u v h g → nt_A ρ D (nk_N g) a1 b1 → nt_V ρ D (nk_N g) p2 q2 → nt_V ρ D (nk_N g) p4 q4 → nt_F ρ D F h0 u v (nk_N g) nt_q (r46 g a1 p2 i3 p4 i5) (r46' h b1 q2 i3 q4 i5)) {h yh : nk_H} (Rh : nt_R ρ D F h0 u v yh h) {t0 yt0 : Nat} (At0 : nt_A ρ D (nk_N h) t0 yt0) {v1 yv1 : Option Nat} (Vv1 : nt_V ρ D (nk_N h) v1 yv1) (v2 : Int32) {v3 yv3 : Option Nat} (Vv3 : nt_V ρ D (nk_N h) v3 yv3) (v4 : Int32) : nt_F ρ D F h0 u v (nk_N h) nt_q (f_X2_takeFrom_c46 r14 r46 h t0 v1 v2 v3 v4) (f_X2_takeFrom_c46 r14' r46' yh yt0 yv1 v2 yv3 v4) := by
  unfold f_X2_takeFrom_c46
  refine nt_ite ?_ ?_
  · exact nt_fk (hr14 _ _ _ _ _ _ _ Rh (nt_am At0 (by omega)) (nt_vm Vv1 (by omega))) (by omega)
  · refine nt_gP Rh (nt_vS At0) (fun x2 yx2 Vx2 => ?_)
    refine nt_aP Rh Vx2 (fun x3 yx3 Vx3 => ?_)
    refine nt_rcv Rh (nt_vS At0) (fun a4 ya4 Aa4 => ?_)
    refine nt_doE (n_X2_leavesOut Rh (nt_am Aa4 (by omega)) _) (fun h5 yh5 x6 Rh5 Lh5 => ?_)
    refine nt_ite ?_ ?_
    · refine nt_gP Rh5 Vv3 (fun x7 yx7 Vx7 => ?_)
      refine nt_aI Rh5 Vx7 (fun x8 => ?_)
      exact nt_fk (n_X2_takeFrom_c102 hr14 hr46 Rh5 (nt_am At0 (by omega)) (nt_vm Vv1 (by omega)) _ (nt_vm Vv3 (by omega)) _ _ _ (nt_vm Vx3 (by omega))) (by omega)
    · refine nt_gI Rh5 (nt_vS At0) (fun x9 => ?_)
      refine nt_gI Rh5 (nt_vS At0) (fun x10 => ?_)
      refine nt_gP Rh5 Vv3 (fun x11 yx11 Vx11 => ?_)
      refine nt_aI Rh5 Vx11 (fun x12 => ?_)
      refine nt_doE (n_X11_markOf Rh5 _ _ _ _) (fun h13 yh13 x14 Rh13 Lh13 => ?_)
      exact nt_fk (n_X2_takeFrom_c102 hr14 hr46 Rh13 (nt_am At0 (by omega)) (nt_vm Vv1 (by omega)) _ (nt_vm Vv3 (by omega)) _ _ _ (nt_vm Vx3 (by omega))) (by omega)
theorem n_X2_takeFrom_b46 {ρ : Nat → Nat} {D F : Nat → Prop} {h0 : nk_H} {u v : Nat} {r14 r14' : nk_H → Nat → Option Nat → Int32 → Option (nk_H × Unit)} (hr14 : ∀ (g h : nk_H) (a1 b1 : Nat) (p2 q2 : Option Nat) (i3 : Int32), nt_R ρ D F h0 u v h g → nt_A ρ D (nk_N g) a1 b1 → nt_V ρ D (nk_N g) p2 q2 → nt_F ρ D F h0 u v (nk_N g) nt_q (r14 g a1 p2 i3) (r14' h b1 q2 i3)) : ∀ (n : Nat) {g h : nk_H} (R : nt_R ρ D F h0 u v h g) {a1 b1 : Nat} (A1 : nt_A ρ D (nk_N g) a1 b1) {p2 q2 : Option Nat} (V2 : nt_V ρ D (nk_N g) p2 q2) (i3 : Int32) {p4 q4 : Option Nat} (V4 : nt_V ρ D (nk_N g) p4 q4) (i5 : Int32), nt_F ρ D F h0 u v (nk_N g) nt_q (f_X2_takeFrom_b46 r14 n g a1 p2 i3 p4 i5) (f_X2_takeFrom_b46 r14' n h b1 q2 i3 q4 i5)
  | 0, _, _, _, _, _, _, _, _, _, _, _, _, _, _ => nt_none
  | n + 1, _, _, R, _, _, A1, _, _, V2, i3, _, _, V4, i5 => n_X2_takeFrom_c46 hr14 (fun g h a1 b1 p2 q2 i3 p4 q4 i5 R A1 V2 V4 => n_X2_takeFrom_b46 hr14 n R A1 V2 i3 V4 i5) R A1 V2 i3 V4 i5
theorem n_X2_takeFrom_c14 {ρ : Nat → Nat} {D F : Nat → Prop} {h0 : nk_H} {u v : Nat} {r14 r14' : nk_H → Nat → Option Nat → Int32 → Option (nk_H × Unit)} (hr14 : ∀ (g h : nk_H) (a1 b1 : Nat) (p2 q2 : Option Nat) (i3 : Int32), nt_R ρ D F h0 u v h g → nt_A ρ D (nk_N g) a1 b1 → nt_V ρ D (nk_N g) p2 q2 → nt_F ρ D F h0 u v (nk_N g) nt_q (r14 g a1 p2 i3) (r14' h b1 q2 i3)) {h yh : nk_H} (Rh : nt_R ρ D F h0 u v yh h) {t0 yt0 : Nat} (At0 : nt_A ρ D (nk_N h) t0 yt0) {v1 yv1 : Option Nat} (Vv1 : nt_V ρ D (nk_N h) v1 yv1) (v2 : Int32) : nt_F ρ D F h0 u v (nk_N h) nt_q (f_X2_takeFrom_c14 r14 h t0 v1 v2) (f_X2_takeFrom_c14 r14' yh yt0 yv1 v2) := by
  unfold f_X2_takeFrom_c14
  refine nt_gI Rh (nt_vS At0) (fun x15 => ?_)
  refine nt_ite ?_ ?_
  · exact nt_ret Rh rfl (by omega)
  · refine nt_gI Rh (nt_vS At0) (fun x16 => ?_)
    refine nt_rcv Rh Vv1 (fun a17 ya17 Aa17 => ?_)
    refine nt_doV (n_X1_actOf Rh (nt_am Aa17 (by omega)) _) (fun h18 yh18 x19 yx19 Rh18 Vx19 Lh18 => ?_)
    refine nt_gP Rh18 (nt_vS At0) (fun x20 yx20 Vx20 => ?_)
    refine nt_gI Rh18 Vx19 (fun x21 => ?_)
    refine nt_wI Rh18 Vx20 (fun h22 yh22 Rh22 Lh22 => ?_)
    exact nt_fk (n_X2_takeFrom_b46 hr14 _ Rh22 (nt_am At0 (by omega)) (nt_vm Vv1 (by omega)) _ (nt_vm Vx19 (by omega)) _) (by omega)
theorem n_X2_takeFrom_b14 {ρ : Nat → Nat} {D F : Nat → Prop} {h0 : nk_H} {u v : Nat}   : ∀ (n : Nat) {g h : nk_H} (R : nt_R ρ D F h0 u v h g) {a1 b1 : Nat} (A1 : nt_A ρ D (nk_N g) a1 b1) {p2 q2 : Option Nat} (V2 : nt_V ρ D (nk_N g) p2 q2) (i3 : Int32), nt_F ρ D F h0 u v (nk_N g) nt_q (f_X2_takeFrom_b14 n g a1 p2 i3) (f_X2_takeFrom_b14 n h b1 q2 i3)
  | 0, _, _, _, _, _, _, _, _, _, _ => nt_none
  | n + 1, _, _, R, _, _, A1, _, _, V2, i3 => n_X2_takeFrom_c14 (fun g h a1 b1 p2 q2 i3 R A1 V2 => n_X2_takeFrom_b14 n R A1 V2 i3) R A1 V2 i3
theorem n_X2_takeFrom {ρ : Nat → Nat} {D F : Nat → Prop} {h0 : nk_H} {u v : Nat}   {h yh : nk_H} (Rh : nt_R ρ D F h0 u v yh h) {t0 yt0 : Nat} (At0 : nt_A ρ D (nk_N h) t0 yt0) {v1 yv1 : Option Nat} (Vv1 : nt_V ρ D (nk_N h) v1 yv1) : nt_F ρ D F h0 u v (nk_N h) nt_q (f_X2_takeFrom h t0 v1) (f_X2_takeFrom yh yt0 yv1) := by
  unfold f_X2_takeFrom
  refine nt_gI Rh (nt_vS At0) (fun x23 => ?_)
  refine nt_rcv Rh Vv1 (fun a24 ya24 Aa24 => ?_)
  refine nt_doE (n_X1_sealAhead Rh (nt_am Aa24 (by omega)) _) (fun h25 yh25 x26 Rh25 Lh25 => ?_)
  refine nt_pI Rh25 (nt_vS At0) (fun h27 yh27 Rh27 Lh27 => ?_)
  exact nt_fk (n_X2_takeFrom_b14 _ Rh27 (nt_am At0 (by omega)) (nt_vm Vv1 (by omega)) _) (by omega)
theorem n_X2_firstBroken_c7 {ρ : Nat → Nat} {D F : Nat → Prop} {h0 : nk_H} {u v : Nat} {r7 r7' : nk_H → Nat → Int32 → Int32 → Option (nk_H × Int32)} (hr7 : ∀ (g h : nk_H) (a1 b1 : Nat) (i2 : Int32) (i3 : Int32), nt_R ρ D F h0 u v h g → nt_A ρ D (nk_N g) a1 b1 → nt_F ρ D F h0 u v (nk_N g) nt_q (r7 g a1 i2 i3) (r7' h b1 i2 i3)) {h yh : nk_H} (Rh : nt_R ρ D F h0 u v yh h) {t0 yt0 : Nat} (At0 : nt_A ρ D (nk_N h) t0 yt0) (v1 : Int32) (v2 : Int32) : nt_F ρ D F h0 u v (nk_N h) nt_q (f_X2_firstBroken_c7 r7 h t0 v1 v2) (f_X2_firstBroken_c7 r7' yh yt0 v1 v2) := by
  unfold f_X2_firstBroken_c7
  refine nt_gI Rh (nt_vS At0) (fun x1 => ?_)
  refine nt_ite ?_ ?_
  · exact nt_ret Rh rfl (by omega)
  · refine nt_gI Rh (nt_vS At0) (fun x2 => ?_)
    refine nt_gI Rh (nt_vS At0) (fun x3 => ?_)
    refine nt_gP Rh (nt_vS At0) (fun x4 yx4 Vx4 => ?_)
    refine nt_aP Rh Vx4 (fun x5 yx5 Vx5 => ?_)
    refine nt_gI Rh (nt_vS At0) (fun x6 => ?_)
    refine nt_doE (n_X11_sealFrom Rh _ _ _ (nt_vm Vx5 (by omega)) _) (fun h7 yh7 x8 Rh7 Lh7 => ?_)
    refine nt_gP Rh7 (nt_vS At0) (fun x9 yx9 Vx9 => ?_)
    refine nt_aI Rh7 Vx9 (fun x10 => ?_)
    refine nt_ite ?_ ?_
    · refine nt_gP Rh7 (nt_vS At0) (fun x11 yx11 Vx11 => ?_)
      refine nt_aI Rh7 Vx11 (fun x12 => ?_)
      exact nt_fk (hr7 _ _ _ _ _ _ Rh7 (nt_am At0 (by omega))) (by omega)
    · exact nt_ret Rh7 rfl (by omega)
theorem n_X2_firstBroken_b7 {ρ : Nat → Nat} {D F : Nat → Prop} {h0 : nk_H} {u v : Nat}   : ∀ (n : Nat) {g h : nk_H} (R : nt_R ρ D F h0 u v h g) {a1 b1 : Nat} (A1 : nt_A ρ D (nk_N g) a1 b1) (i2 : Int32) (i3 : Int32), nt_F ρ D F h0 u v (nk_N g) nt_q (f_X2_firstBroken_b7 n g a1 i2 i3) (f_X2_firstBroken_b7 n h b1 i2 i3)
  | 0, _, _, _, _, _, _, _, _ => nt_none
  | n + 1, _, _, R, _, _, A1, i2, i3 => n_X2_firstBroken_c7 (fun g h a1 b1 i2 i3 R A1 => n_X2_firstBroken_b7 n R A1 i2 i3) R A1 i2 i3
theorem n_X2_firstBroken {ρ : Nat → Nat} {D F : Nat → Prop} {h0 : nk_H} {u v : Nat}   {h yh : nk_H} (Rh : nt_R ρ D F h0 u v yh h) {t0 yt0 : Nat} (At0 : nt_A ρ D (nk_N h) t0 yt0) : nt_F ρ D F h0 u v (nk_N h) nt_q (f_X2_firstBroken h t0) (f_X2_firstBroken yh yt0) := by
  unfold f_X2_firstBroken
  refine nt_gI Rh (nt_vS At0) (fun x13 => ?_)
  exact nt_fk (n_X2_firstBroken_b7 _ Rh (nt_am At0 (by omega)) _ _) (by omega)
theorem n_X2_tellsRecordAs_c50 {ρ : Nat → Nat} {D F : Nat → Prop} {h0 : nk_H} {u v : Nat} {r17 r17' : nk_H → Nat → Int32 → Option Nat → Int32 → Option (nk_H × Int32)} (hr17 : ∀ (g h : nk_H) (a1 b1 : Nat) (i2 : Int32) (p3 q3 : Option Nat) (i4 : Int32), nt_R ρ D F h0 u v h g → nt_A ρ D (nk_N g) a1 b1 → nt_V ρ D (nk_N g) p3 q3 → nt_F ρ D F h0 u v (nk_N g) nt_q (r17 g a1 i2 p3 i4) (r17' h b1 i2 q3 i4)) {h yh : nk_H} (Rh : nt_R ρ D F h0 u v yh h) {t0 yt0 : Nat} (At0 : nt_A ρ D (nk_N h) t0 yt0) (v1 : Int32) {v2 yv2 : Option Nat} (Vv2 : nt_V ρ D (nk_N h) v2 yv2) (v3 : Int32) : nt_F ρ D F h0 u v (nk_N h) nt_q (f_X2_tellsRecordAs_c50 r17 h t0 v1 v2 v3) (f_X2_tellsRecordAs_c50 r17' yh yt0 v1 yv2 v3) := by
  unfold f_X2_tellsRecordAs_c50
  exact nt_fk (hr17 _ _ _ _ _ _ _ _ Rh (nt_am At0 (by omega)) (nt_vm Vv2 (by omega))) (by omega)
theorem n_X2_tellsRecordAs_c17 {ρ : Nat → Nat} {D F : Nat → Prop} {h0 : nk_H} {u v : Nat} {r17 r17' : nk_H → Nat → Int32 → Option Nat → Int32 → Option (nk_H × Int32)} (hr17 : ∀ (g h : nk_H) (a1 b1 : Nat) (i2 : Int32) (p3 q3 : Option Nat) (i4 : Int32), nt_R ρ D F h0 u v h g → nt_A ρ D (nk_N g) a1 b1 → nt_V ρ D (nk_N g) p3 q3 → nt_F ρ D F h0 u v (nk_N g) nt_q (r17 g a1 i2 p3 i4) (r17' h b1 i2 q3 i4)) {h yh : nk_H} (Rh : nt_R ρ D F h0 u v yh h) {t0 yt0 : Nat} (At0 : nt_A ρ D (nk_N h) t0 yt0) (v1 : Int32) {v2 yv2 : Option Nat} (Vv2 : nt_V ρ D (nk_N h) v2 yv2) (v3 : Int32) : nt_F ρ D F h0 u v (nk_N h) nt_q (f_X2_tellsRecordAs_c17 r17 h t0 v1 v2 v3) (f_X2_tellsRecordAs_c17 r17' yh yt0 v1 yv2 v3) := by
  unfold f_X2_tellsRecordAs_c17
  refine nt_ite ?_ ?_
  · exact nt_zr Rh _ rfl (by omega)
  · refine nt_rcv Rh (nt_vS At0) (fun a1 ya1 Aa1 => ?_)
    refine nt_doE (n_X2_leavesOut Rh (nt_am Aa1 (by omega)) _) (fun h2 yh2 x3 Rh2 Lh2 => ?_)
    refine nt_ite ?_ ?_
    · refine nt_gP Rh2 (nt_vS At0) (fun x4 yx4 Vx4 => ?_)
      refine nt_aP Rh2 Vx4 (fun x5 yx5 Vx5 => ?_)
      refine nt_aI Rh2 Vx5 (fun x6 => ?_)
      refine nt_gP Rh2 Vv2 (fun x7 yx7 Vx7 => ?_)
      refine nt_aI Rh2 Vx7 (fun x8 => ?_)
      refine nt_ite ?_ ?_
      · exact nt_fk (n_X2_tellsRecordAs_c50 hr17 Rh2 (nt_am At0 (by omega)) _ (nt_vm Vv2 (by omega)) _) (by omega)
      · exact nt_zr Rh2 _ rfl (by omega)
    · exact nt_fk (n_X2_tellsRecordAs_c50 hr17 Rh2 (nt_am At0 (by omega)) _ (nt_vm Vv2 (by omega)) _) (by omega)
theorem n_X2_tellsRecordAs_b17 {ρ : Nat → Nat} {D F : Nat → Prop} {h0 : nk_H} {u v : Nat}   : ∀ (n : Nat) {g h : nk_H} (R : nt_R ρ D F h0 u v h g) {a1 b1 : Nat} (A1 : nt_A ρ D (nk_N g) a1 b1) (i2 : Int32) {p3 q3 : Option Nat} (V3 : nt_V ρ D (nk_N g) p3 q3) (i4 : Int32), nt_F ρ D F h0 u v (nk_N g) nt_q (f_X2_tellsRecordAs_b17 n g a1 i2 p3 i4) (f_X2_tellsRecordAs_b17 n h b1 i2 q3 i4)
  | 0, _, _, _, _, _, _, _, _, _, _, _ => nt_none
  | n + 1, _, _, R, _, _, A1, i2, _, _, V3, i4 => n_X2_tellsRecordAs_c17 (fun g h a1 b1 i2 p3 q3 i4 R A1 V3 => n_X2_tellsRecordAs_b17 n R A1 i2 V3 i4) R A1 i2 V3 i4
theorem n_X2_tellsRecordAs {ρ : Nat → Nat} {D F : Nat → Prop} {h0 : nk_H} {u v : Nat}   {h yh : nk_H} (Rh : nt_R ρ D F h0 u v yh h) {t0 yt0 : Nat} (At0 : nt_A ρ D (nk_N h) t0 yt0) (v1 : Int32) {v2 yv2 : Option Nat} (Vv2 : nt_V ρ D (nk_N h) v2 yv2) : nt_F ρ D F h0 u v (nk_N h) nt_q (f_X2_tellsRecordAs h t0 v1 v2) (f_X2_tellsRecordAs yh yt0 v1 yv2) := by
  unfold f_X2_tellsRecordAs
  refine nt_gP Rh (nt_vS At0) (fun x9 yx9 Vx9 => ?_)
  refine nt_aI Rh Vx9 (fun x10 => ?_)
  refine nt_gI Rh Vv2 (fun x11 => ?_)
  refine nt_ite ?_ ?_
  · exact nt_fk (n_X2_tellsRecordAs_b17 _ Rh (nt_am At0 (by omega)) _ (nt_vm Vv2 (by omega)) _) (by omega)
  · exact nt_zr Rh _ rfl (by omega)
theorem n_X2_tellsAs_c2 {ρ : Nat → Nat} {D F : Nat → Prop} {h0 : nk_H} {u v : Nat} {r2 r2' : nk_H → Nat → Option Nat → Int32 → Option (nk_H × Int32)} (hr2 : ∀ (g h : nk_H) (a1 b1 : Nat) (p2 q2 : Option Nat) (i3 : Int32), nt_R ρ D F h0 u v h g → nt_A ρ D (nk_N g) a1 b1 → nt_V ρ D (nk_N g) p2 q2 → nt_F ρ D F h0 u v (nk_N g) nt_q (r2 g a1 p2 i3) (r2' h b1 q2 i3)) {h yh : nk_H} (Rh : nt_R ρ D F h0 u v yh h) {t0 yt0 : Nat} (At0 : nt_A ρ D (nk_N h) t0 yt0) {v1 yv1 : Option Nat} (Vv1 : nt_V ρ D (nk_N h) v1 yv1) (v2 : Int32) : nt_F ρ D F h0 u v (nk_N h) nt_q (f_X2_tellsAs_c2 r2 h t0 v1 v2) (f_X2_tellsAs_c2 r2' yh yt0 yv1 v2) := by
  unfold f_X2_tellsAs_c2
  refine nt_gI Rh (nt_vS At0) (fun x1 => ?_)
  refine nt_ite ?_ ?_
  · exact nt_zr Rh _ rfl (by omega)
  · refine nt_gI Rh (nt_vS At0) (fun x2 => ?_)
    refine nt_rcv Rh Vv1 (fun a3 ya3 Aa3 => ?_)
    refine nt_doV (n_X1_actOf Rh (nt_am Aa3 (by omega)) _) (fun h4 yh4 x5 yx5 Rh4 Vx5 Lh4 => ?_)
    refine nt_rcv Rh4 (nt_vS At0) (fun a6 ya6 Aa6 => ?_)
    refine nt_doE (n_X2_tellsRecordAs Rh4 (nt_am Aa6 (by omega)) _ (nt_vm Vx5 (by omega))) (fun h7 yh7 x8 Rh7 Lh7 => ?_)
    refine nt_ite ?_ ?_
    · exact nt_zr Rh7 _ rfl (by omega)
    · exact nt_fk (hr2 _ _ _ _ _ _ _ Rh7 (nt_am At0 (by omega)) (nt_vm Vv1 (by omega))) (by omega)
theorem n_X2_tellsAs_b2 {ρ : Nat → Nat} {D F : Nat → Prop} {h0 : nk_H} {u v : Nat}   : ∀ (n : Nat) {g h : nk_H} (R : nt_R ρ D F h0 u v h g) {a1 b1 : Nat} (A1 : nt_A ρ D (nk_N g) a1 b1) {p2 q2 : Option Nat} (V2 : nt_V ρ D (nk_N g) p2 q2) (i3 : Int32), nt_F ρ D F h0 u v (nk_N g) nt_q (f_X2_tellsAs_b2 n g a1 p2 i3) (f_X2_tellsAs_b2 n h b1 q2 i3)
  | 0, _, _, _, _, _, _, _, _, _, _ => nt_none
  | n + 1, _, _, R, _, _, A1, _, _, V2, i3 => n_X2_tellsAs_c2 (fun g h a1 b1 p2 q2 i3 R A1 V2 => n_X2_tellsAs_b2 n R A1 V2 i3) R A1 V2 i3
theorem n_X2_tellsAs {ρ : Nat → Nat} {D F : Nat → Prop} {h0 : nk_H} {u v : Nat}   {h yh : nk_H} (Rh : nt_R ρ D F h0 u v yh h) {t0 yt0 : Nat} (At0 : nt_A ρ D (nk_N h) t0 yt0) {v1 yv1 : Option Nat} (Vv1 : nt_V ρ D (nk_N h) v1 yv1) : nt_F ρ D F h0 u v (nk_N h) nt_q (f_X2_tellsAs h t0 v1) (f_X2_tellsAs yh yt0 yv1) := by
  unfold f_X2_tellsAs
  exact nt_fk (n_X2_tellsAs_b2 _ Rh (nt_am At0 (by omega)) (nt_vm Vv1 (by omega)) _) (by omega)
theorem n_X3_init {ρ : Nat → Nat} {D F : Nat → Prop} {h0 : nk_H} {u v : Nat}   {h yh : nk_H} (Rh : nt_R ρ D F h0 u v yh h) {t0 yt0 : Nat} (At0 : nt_A ρ D (nk_N h) t0 yt0) (v1 : Int32) (v2 : Int32) (v3 : Int32) (v4 : Int32) (v5 : Int32) (v6 : Int32) : nt_F ρ D F h0 u v (nk_N h) nt_q (f_X3_init h t0 v1 v2 v3 v4 v5 v6) (f_X3_init yh yt0 v1 v2 v3 v4 v5 v6) := by
  unfold f_X3_init
  refine nt_pI Rh (nt_vS At0) (fun h1 yh1 Rh1 Lh1 => ?_)
  refine nt_pI Rh1 (nt_vS At0) (fun h2 yh2 Rh2 Lh2 => ?_)
  refine nt_pI Rh2 (nt_vS At0) (fun h3 yh3 Rh3 Lh3 => ?_)
  refine nt_pI Rh3 (nt_vS At0) (fun h4 yh4 Rh4 Lh4 => ?_)
  refine nt_pI Rh4 (nt_vS At0) (fun h5 yh5 Rh5 Lh5 => ?_)
  refine nt_pI Rh5 (nt_vS At0) (fun h6 yh6 Rh6 Lh6 => ?_)
  exact nt_ret Rh6 rfl (by omega)
theorem n_X4_init {ρ : Nat → Nat} {D F : Nat → Prop} {h0 : nk_H} {u v : Nat}   {h yh : nk_H} (Rh : nt_R ρ D F h0 u v yh h) {t0 yt0 : Nat} (At0 : nt_A ρ D (nk_N h) t0 yt0) (v1 : Int32) (v2 : Int32) (v3 : Int32) : nt_F ρ D F h0 u v (nk_N h) nt_q (f_X4_init h t0 v1 v2 v3) (f_X4_init yh yt0 v1 v2 v3) := by
  unfold f_X4_init
  refine nt_doE (n_X8_init Rh (nt_am At0 (by omega))) (fun h1 yh1 x2 Rh1 Lh1 => ?_)
  refine nt_pI Rh1 (nt_vS At0) (fun h3 yh3 Rh3 Lh3 => ?_)
  refine nt_pI Rh3 (nt_vS At0) (fun h4 yh4 Rh4 Lh4 => ?_)
  refine nt_pI Rh4 (nt_vS At0) (fun h5 yh5 Rh5 Lh5 => ?_)
  exact nt_ret Rh5 rfl (by omega)
theorem n_X4_isDeputation_c29 {ρ : Nat → Nat} {D F : Nat → Prop} {h0 : nk_H} {u v : Nat}   {h yh : nk_H} (Rh : nt_R ρ D F h0 u v yh h) (s0 : Int32) : nt_F ρ D F h0 u v (nk_N h) nt_q (f_X4_isDeputation_c29 h s0) (f_X4_isDeputation_c29 yh s0) := by
  unfold f_X4_isDeputation_c29
  exact nt_zr Rh _ rfl (by omega)
theorem n_X4_isDeputation_c28 {ρ : Nat → Nat} {D F : Nat → Prop} {h0 : nk_H} {u v : Nat}   {h yh : nk_H} (Rh : nt_R ρ D F h0 u v yh h) : nt_F ρ D F h0 u v (nk_N h) nt_q (f_X4_isDeputation_c28 h) (f_X4_isDeputation_c28 yh) := by
  unfold f_X4_isDeputation_c28
  exact nt_fk (n_X4_isDeputation_c29 Rh _) (by omega)
theorem n_X4_isDeputation {ρ : Nat → Nat} {D F : Nat → Prop} {h0 : nk_H} {u v : Nat}   {h yh : nk_H} (Rh : nt_R ρ D F h0 u v yh h) {t0 yt0 : Nat} (At0 : nt_A ρ D (nk_N h) t0 yt0) (v1 : Int32) (v2 : Int32) (v3 : Int32) : nt_F ρ D F h0 u v (nk_N h) nt_q (f_X4_isDeputation h t0 v1 v2 v3) (f_X4_isDeputation yh yt0 v1 v2 v3) := by
  unfold f_X4_isDeputation
  refine nt_gI Rh (nt_vS At0) (fun x1 => ?_)
  refine nt_ite ?_ ?_
  · refine nt_gI Rh (nt_vS At0) (fun x2 => ?_)
    refine nt_ite ?_ ?_
    · exact nt_fk (n_X4_isDeputation_c28 Rh) (by omega)
    · refine nt_gI Rh (nt_vS At0) (fun x3 => ?_)
      refine nt_ite ?_ ?_
      · exact nt_fk (n_X4_isDeputation_c28 Rh) (by omega)
      · exact nt_fk (n_X4_isDeputation_c29 Rh _) (by omega)
  · exact nt_fk (n_X4_isDeputation_c28 Rh) (by omega)
theorem n_X5_init {ρ : Nat → Nat} {D F : Nat → Prop} {h0 : nk_H} {u v : Nat}   {h yh : nk_H} (Rh : nt_R ρ D F h0 u v yh h) {t0 yt0 : Nat} (At0 : nt_A ρ D (nk_N h) t0 yt0) (v1 : Int32) (v2 : Int32) (v3 : Int32) (v4 : Int32) (v5 : Int32) : nt_F ρ D F h0 u v (nk_N h) nt_q (f_X5_init h t0 v1 v2 v3 v4 v5) (f_X5_init yh yt0 v1 v2 v3 v4 v5) := by
  unfold f_X5_init
  refine nt_pI Rh (nt_vS At0) (fun h1 yh1 Rh1 Lh1 => ?_)
  refine nt_pI Rh1 (nt_vS At0) (fun h2 yh2 Rh2 Lh2 => ?_)
  refine nt_pI Rh2 (nt_vS At0) (fun h3 yh3 Rh3 Lh3 => ?_)
  refine nt_pI Rh3 (nt_vS At0) (fun h4 yh4 Rh4 Lh4 => ?_)
  refine nt_pI Rh4 (nt_vS At0) (fun h5 yh5 Rh5 Lh5 => ?_)
  exact nt_ret Rh5 rfl (by omega)
theorem n_X6_init {ρ : Nat → Nat} {D F : Nat → Prop} {h0 : nk_H} {u v : Nat}   {h yh : nk_H} (Rh : nt_R ρ D F h0 u v yh h) {t0 yt0 : Nat} (At0 : nt_A ρ D (nk_N h) t0 yt0) : nt_F ρ D F h0 u v (nk_N h) nt_q (f_X6_init h t0) (f_X6_init yh yt0) := by
  unfold f_X6_init
  refine nt_na Rh (fun h1 yh1 Rh1 Lh1 => ?_)
  refine nt_pP Rh1 (nt_vS At0) (nt_vN Rh (by omega)) (fun h2 yh2 Rh2 Lh2 => ?_)
  refine nt_na Rh2 (fun h3 yh3 Rh3 Lh3 => ?_)
  refine nt_pP Rh3 (nt_vS At0) (nt_vN Rh2 (by omega)) (fun h4 yh4 Rh4 Lh4 => ?_)
  exact nt_ret Rh4 rfl (by omega)
theorem n_X6_areLinked {ρ : Nat → Nat} {D F : Nat → Prop} {h0 : nk_H} {u v : Nat}   {h yh : nk_H} (Rh : nt_R ρ D F h0 u v yh h) {t0 yt0 : Nat} (At0 : nt_A ρ D (nk_N h) t0 yt0) (v1 : Int32) (v2 : Int32) : nt_F ρ D F h0 u v (nk_N h) nt_q (f_X6_areLinked h t0 v1 v2) (f_X6_areLinked yh yt0 v1 v2) := by
  unfold f_X6_areLinked
  refine nt_gP Rh (nt_vS At0) (fun x1 yx1 Vx1 => ?_)
  refine nt_aI Rh Vx1 (fun x2 => ?_)
  refine nt_doE (n_X11_hasBit Rh _ _) (fun h3 yh3 x4 Rh3 Lh3 => ?_)
  exact nt_zr Rh3 _ rfl (by omega)
theorem n_X6_degree {ρ : Nat → Nat} {D F : Nat → Prop} {h0 : nk_H} {u v : Nat}   {h yh : nk_H} (Rh : nt_R ρ D F h0 u v yh h) {t0 yt0 : Nat} (At0 : nt_A ρ D (nk_N h) t0 yt0) (v1 : Int32) : nt_F ρ D F h0 u v (nk_N h) nt_q (f_X6_degree h t0 v1) (f_X6_degree yh yt0 v1) := by
  unfold f_X6_degree
  refine nt_gP Rh (nt_vS At0) (fun x1 yx1 Vx1 => ?_)
  refine nt_aI Rh Vx1 (fun x2 => ?_)
  refine nt_doE (n_J6_bitCount_0f7a4 Rh _) (fun h3 yh3 x4 Rh3 Lh3 => ?_)
  exact nt_ret Rh3 rfl (by omega)
theorem n_X6_turn {ρ : Nat → Nat} {D F : Nat → Prop} {h0 : nk_H} {u v : Nat}   {h yh : nk_H} (Rh : nt_R ρ D F h0 u v yh h) {t0 yt0 : Nat} (At0 : nt_A ρ D (nk_N h) t0 yt0) (v1 : Int32) (v2 : Int32) : nt_F ρ D F h0 u v (nk_N h) nt_q (f_X6_turn h t0 v1 v2) (f_X6_turn yh yt0 v1 v2) := by
  unfold f_X6_turn
  refine nt_gP Rh (nt_vS At0) (fun x1 yx1 Vx1 => ?_)
  refine nt_aI Rh Vx1 (fun x2 => ?_)
  refine nt_doE (n_X11_bit Rh _) (fun h3 yh3 x4 Rh3 Lh3 => ?_)
  refine nt_wI Rh3 Vx1 (fun h5 yh5 Rh5 Lh5 => ?_)
  refine nt_gP Rh5 (nt_vS At0) (fun x6 yx6 Vx6 => ?_)
  refine nt_aI Rh5 Vx6 (fun x7 => ?_)
  refine nt_doE (n_X11_bit Rh5 _) (fun h8 yh8 x9 Rh8 Lh8 => ?_)
  refine nt_wI Rh8 Vx6 (fun h10 yh10 Rh10 Lh10 => ?_)
  exact nt_ret Rh10 rfl (by omega)
theorem n_X6_keep {ρ : Nat → Nat} {D F : Nat → Prop} {h0 : nk_H} {u v : Nat}   {h yh : nk_H} (Rh : nt_R ρ D F h0 u v yh h) {t0 yt0 : Nat} (At0 : nt_A ρ D (nk_N h) t0 yt0) (v1 : Int32) : nt_F ρ D F h0 u v (nk_N h) nt_q (f_X6_keep h t0 v1) (f_X6_keep yh yt0 v1) := by
  unfold f_X6_keep
  refine nt_gP Rh (nt_vS At0) (fun x1 yx1 Vx1 => ?_)
  refine nt_gP Rh (nt_vS At0) (fun x2 yx2 Vx2 => ?_)
  refine nt_cpI Rh Vx1 Vx2 (fun h3 yh3 Rh3 Lh3 => ?_)
  exact nt_ret Rh3 rfl (by omega)
theorem n_X6_reach_c36 {ρ : Nat → Nat} {D F : Nat → Prop} {h0 : nk_H} {u v : Nat} {r5 r5' : nk_H → Nat → Int32 → Int32 → Int32 → Int32 → Option (nk_H × Int32)} (hr5 : ∀ (g h : nk_H) (a1 b1 : Nat) (i2 : Int32) (i3 : Int32) (i4 : Int32) (i5 : Int32), nt_R ρ D F h0 u v h g → nt_A ρ D (nk_N g) a1 b1 → nt_F ρ D F h0 u v (nk_N g) nt_q (r5 g a1 i2 i3 i4 i5) (r5' h b1 i2 i3 i4 i5)) {h yh : nk_H} (Rh : nt_R ρ D F h0 u v yh h) {t0 yt0 : Nat} (At0 : nt_A ρ D (nk_N h) t0 yt0) (v1 : Int32) (v2 : Int32) (v3 : Int32) (v4 : Int32) : nt_F ρ D F h0 u v (nk_N h) nt_q (f_X6_reach_c36 r5 h t0 v1 v2 v3 v4) (f_X6_reach_c36 r5' yh yt0 v1 v2 v3 v4) := by
  unfold f_X6_reach_c36
  exact nt_fk (hr5 _ _ _ _ _ _ _ _ Rh (nt_am At0 (by omega))) (by omega)
theorem n_X6_reach_c5 {ρ : Nat → Nat} {D F : Nat → Prop} {h0 : nk_H} {u v : Nat} {r5 r5' : nk_H → Nat → Int32 → Int32 → Int32 → Int32 → Option (nk_H × Int32)} (hr5 : ∀ (g h : nk_H) (a1 b1 : Nat) (i2 : Int32) (i3 : Int32) (i4 : Int32) (i5 : Int32), nt_R ρ D F h0 u v h g → nt_A ρ D (nk_N g) a1 b1 → nt_F ρ D F h0 u v (nk_N g) nt_q (r5 g a1 i2 i3 i4 i5) (r5' h b1 i2 i3 i4 i5)) {h yh : nk_H} (Rh : nt_R ρ D F h0 u v yh h) {t0 yt0 : Nat} (At0 : nt_A ρ D (nk_N h) t0 yt0) (v1 : Int32) (v2 : Int32) (v3 : Int32) (v4 : Int32) : nt_F ρ D F h0 u v (nk_N h) nt_q (f_X6_reach_c5 r5 h t0 v1 v2 v3 v4) (f_X6_reach_c5 r5' yh yt0 v1 v2 v3 v4) := by
  unfold f_X6_reach_c5
  refine nt_ite ?_ ?_
  · exact nt_ret Rh rfl (by omega)
  · refine nt_doE (n_X11_hasBit Rh _ _) (fun h1 yh1 x2 Rh1 Lh1 => ?_)
    refine nt_ite ?_ ?_
    · exact nt_fk (n_X6_reach_c36 hr5 Rh1 (nt_am At0 (by omega)) _ _ _ _) (by omega)
    · refine nt_gP Rh1 (nt_vS At0) (fun x3 yx3 Vx3 => ?_)
      refine nt_aI Rh1 Vx3 (fun x4 => ?_)
      exact nt_fk (n_X6_reach_c36 hr5 Rh1 (nt_am At0 (by omega)) _ _ _ _) (by omega)
theorem n_X6_reach_b5 {ρ : Nat → Nat} {D F : Nat → Prop} {h0 : nk_H} {u v : Nat}   : ∀ (n : Nat) {g h : nk_H} (R : nt_R ρ D F h0 u v h g) {a1 b1 : Nat} (A1 : nt_A ρ D (nk_N g) a1 b1) (i2 : Int32) (i3 : Int32) (i4 : Int32) (i5 : Int32), nt_F ρ D F h0 u v (nk_N g) nt_q (f_X6_reach_b5 n g a1 i2 i3 i4 i5) (f_X6_reach_b5 n h b1 i2 i3 i4 i5)
  | 0, _, _, _, _, _, _, _, _, _, _ => nt_none
  | n + 1, _, _, R, _, _, A1, i2, i3, i4, i5 => n_X6_reach_c5 (fun g h a1 b1 i2 i3 i4 i5 R A1 => n_X6_reach_b5 n R A1 i2 i3 i4 i5) R A1 i2 i3 i4 i5
theorem n_X6_reach {ρ : Nat → Nat} {D F : Nat → Prop} {h0 : nk_H} {u v : Nat}   {h yh : nk_H} (Rh : nt_R ρ D F h0 u v yh h) {t0 yt0 : Nat} (At0 : nt_A ρ D (nk_N h) t0 yt0) (v1 : Int32) (v2 : Int32) : nt_F ρ D F h0 u v (nk_N h) nt_q (f_X6_reach h t0 v1 v2) (f_X6_reach yh yt0 v1 v2) := by
  unfold f_X6_reach
  exact nt_fk (n_X6_reach_b5 _ Rh (nt_am At0 (by omega)) _ _ _ _) (by omega)
theorem n_X7_init {ρ : Nat → Nat} {D F : Nat → Prop} {h0 : nk_H} {u v : Nat}   {h yh : nk_H} (Rh : nt_R ρ D F h0 u v yh h) {t0 yt0 : Nat} (At0 : nt_A ρ D (nk_N h) t0 yt0) : nt_F ρ D F h0 u v (nk_N h) nt_q (f_X7_init h t0) (f_X7_init yh yt0) := by
  unfold f_X7_init
  refine nt_al Rh (fun h1 yh1 Rh1 Lh1 => ?_)
  refine nt_doE (n_Jx4a65c_init_da8c8 Rh1 (nt_aN Rh (by omega))) (fun h2 yh2 x3 Rh2 Lh2 => ?_)
  refine nt_pP Rh2 (nt_vS At0) (nt_vN Rh (by omega)) (fun h4 yh4 Rh4 Lh4 => ?_)
  refine nt_na Rh4 (fun h5 yh5 Rh5 Lh5 => ?_)
  refine nt_pP Rh5 (nt_vS At0) (nt_vN Rh4 (by omega)) (fun h6 yh6 Rh6 Lh6 => ?_)
  exact nt_ret Rh6 rfl (by omega)
theorem n_X7_count {ρ : Nat → Nat} {D F : Nat → Prop} {h0 : nk_H} {u v : Nat}   {h yh : nk_H} (Rh : nt_R ρ D F h0 u v yh h) {t0 yt0 : Nat} (At0 : nt_A ρ D (nk_N h) t0 yt0) : nt_F ρ D F h0 u v (nk_N h) nt_q (f_X7_count h t0) (f_X7_count yh yt0) := by
  unfold f_X7_count
  refine nt_gP Rh (nt_vS At0) (fun x1 yx1 Vx1 => ?_)
  refine nt_rcv Rh Vx1 (fun a2 ya2 Aa2 => ?_)
  refine nt_doE (n_Jx4a65c_size_8abf5 Rh (nt_am Aa2 (by omega))) (fun h3 yh3 x4 Rh3 Lh3 => ?_)
  exact nt_ret Rh3 rfl (by omega)
theorem n_X7_pieceAt {ρ : Nat → Nat} {D F : Nat → Prop} {h0 : nk_H} {u v : Nat}   {h yh : nk_H} (Rh : nt_R ρ D F h0 u v yh h) {t0 yt0 : Nat} (At0 : nt_A ρ D (nk_N h) t0 yt0) (v1 : Int32) : nt_F ρ D F h0 u v (nk_N h) (nt_V ρ D) (f_X7_pieceAt h t0 v1) (f_X7_pieceAt yh yt0 v1) := by
  unfold f_X7_pieceAt
  refine nt_gP Rh (nt_vS At0) (fun x1 yx1 Vx1 => ?_)
  refine nt_rcv Rh Vx1 (fun a2 ya2 Aa2 => ?_)
  refine nt_doV (n_Jx4a65c_get_915e3 Rh (nt_am Aa2 (by omega)) _) (fun h3 yh3 x4 yx4 Rh3 Vx4 Lh3 => ?_)
  refine nt_cc Rh3 Vx4 ?_
  exact nt_ret Rh3 (nt_vm Vx4 (by omega)) (by omega)
theorem n_X8_comeTo {ρ : Nat → Nat} {D F : Nat → Prop} {h0 : nk_H} {u v : Nat}   {h yh : nk_H} (Rh : nt_R ρ D F h0 u v yh h) {t0 yt0 : Nat} (At0 : nt_A ρ D (nk_N h) t0 yt0) (v1 : Int32) (v2 : Int32) : nt_F ρ D F h0 u v (nk_N h) nt_q (f_X8_comeTo h t0 v1 v2) (f_X8_comeTo yh yt0 v1 v2) := by
  unfold f_X8_comeTo
  refine nt_gP Rh (nt_vS At0) (fun x1 yx1 Vx1 => ?_)
  refine nt_wI Rh Vx1 (fun h2 yh2 Rh2 Lh2 => ?_)
  refine nt_gI Rh2 (nt_vS At0) (fun x3 => ?_)
  refine nt_doE (n_X11_bit Rh2 _) (fun h4 yh4 x5 Rh4 Lh4 => ?_)
  refine nt_pI Rh4 (nt_vS At0) (fun h6 yh6 Rh6 Lh6 => ?_)
  exact nt_ret Rh6 rfl (by omega)
theorem n_X7_publish {ρ : Nat → Nat} {D F : Nat → Prop} {h0 : nk_H} {u v : Nat}   {h yh : nk_H} (Rh : nt_R ρ D F h0 u v yh h) {t0 yt0 : Nat} (At0 : nt_A ρ D (nk_N h) t0 yt0) {v1 yv1 : Option Nat} (Vv1 : nt_V ρ D (nk_N h) v1 yv1) (v2 : Int32) (v3 : Int32) : nt_F ρ D F h0 u v (nk_N h) nt_q (f_X7_publish h t0 v1 v2 v3) (f_X7_publish yh yt0 yv1 v2 v3) := by
  unfold f_X7_publish
  refine nt_gP Rh (nt_vS At0) (fun x1 yx1 Vx1 => ?_)
  refine nt_rcv Rh Vx1 (fun a2 ya2 Aa2 => ?_)
  refine nt_doE (n_Jx4a65c_size_8abf5 Rh (nt_am Aa2 (by omega))) (fun h3 yh3 x4 Rh3 Lh3 => ?_)
  refine nt_pI Rh3 Vv1 (fun h5 yh5 Rh5 Lh5 => ?_)
  refine nt_pI Rh5 Vv1 (fun h6 yh6 Rh6 Lh6 => ?_)
  refine nt_pI Rh6 Vv1 (fun h7 yh7 Rh7 Lh7 => ?_)
  refine nt_rcv Rh7 Vv1 (fun a8 ya8 Aa8 => ?_)
  refine nt_doE (n_X8_comeTo Rh7 (nt_am Aa8 (by omega)) _ _) (fun h9 yh9 x10 Rh9 Lh9 => ?_)
  refine nt_doE (n_X11_bit Rh9 _) (fun h11 yh11 x12 Rh11 Lh11 => ?_)
  refine nt_pI Rh11 Vv1 (fun h13 yh13 Rh13 Lh13 => ?_)
  refine nt_gP Rh13 (nt_vS At0) (fun x14 yx14 Vx14 => ?_)
  refine nt_rcv Rh13 Vx14 (fun a15 ya15 Aa15 => ?_)
  refine nt_doE (n_Jx4a65c_add_9ea2d Rh13 (nt_am Aa15 (by omega)) (nt_vm Vv1 (by omega))) (fun h16 yh16 x17 Rh16 Lh16 => ?_)
  refine nt_gI Rh16 Vv1 (fun x18 => ?_)
  exact nt_ret Rh16 rfl (by omega)
theorem n_X7_spread_c79 {ρ : Nat → Nat} {D F : Nat → Prop} {h0 : nk_H} {u v : Nat} {r5 r5' : nk_H → Nat → Option Nat → Int32 → Int32 → Int32 → Option (nk_H × Int32)} {r54 r54' : nk_H → Nat → Option Nat → Int32 → Int32 → Int32 → Option Nat → Int32 → Int32 → Option (nk_H × Int32)} (hr5 : ∀ (g h : nk_H) (a1 b1 : Nat) (p2 q2 : Option Nat) (i3 : Int32) (i4 : Int32) (i5 : Int32), nt_R ρ D F h0 u v h g → nt_A ρ D (nk_N g) a1 b1 → nt_V ρ D (nk_N g) p2 q2 → nt_F ρ D F h0 u v (nk_N g) nt_q (r5 g a1 p2 i3 i4 i5) (r5' h b1 q2 i3 i4 i5)) (hr54 : ∀ (g h : nk_H) (a1 b1 : Nat) (p2 q2 : Option Nat) (i3 : Int32) (i4 : Int32) (i5 : Int32) (p6 q6 : Option Nat) (i7 : Int32) (i8 : Int32), nt_R ρ D F h0 u v h g → nt_A ρ D (nk_N g) a1 b1 → nt_V ρ D (nk_N g) p2 q2 → nt_V ρ D (nk_N g) p6 q6 → nt_F ρ D F h0 u v (nk_N g) nt_q (r54 g a1 p2 i3 i4 i5 p6 i7 i8) (r54' h b1 q2 i3 i4 i5 q6 i7 i8)) {h yh : nk_H} (Rh : nt_R ρ D F h0 u v yh h) {t0 yt0 : Nat} (At0 : nt_A ρ D (nk_N h) t0 yt0) {v1 yv1 : Option Nat} (Vv1 : nt_V ρ D (nk_N h) v1 yv1) (v2 : Int32) (v3 : Int32) (v4 : Int32) {v5 yv5 : Option Nat} (Vv5 : nt_V ρ D (nk_N h) v5 yv5) (v6 : Int32) (v7 : Int32) : nt_F ρ D F h0 u v (nk_N h) nt_q (f_X7_spread_c79 r5 r54 h t0 v1 v2 v3 v4 v5 v6 v7) (f_X7_spread_c79 r5' r54' yh yt0 yv1 v2 v3 v4 yv5 v6 v7) := by
  unfold f_X7_spread_c79
  exact nt_fk (hr54 _ _ _ _ _ _ _ _ _ _ _ _ _ Rh (nt_am At0 (by omega)) (nt_vm Vv1 (by omega)) (nt_vm Vv5 (by omega))) (by omega)
theorem n_X7_spread_c54 {ρ : Nat → Nat} {D F : Nat → Prop} {h0 : nk_H} {u v : Nat} {r5 r5' : nk_H → Nat → Option Nat → Int32 → Int32 → Int32 → Option (nk_H × Int32)} {r54 r54' : nk_H → Nat → Option Nat → Int32 → Int32 → Int32 → Option Nat → Int32 → Int32 → Option (nk_H × Int32)} (hr5 : ∀ (g h : nk_H) (a1 b1 : Nat) (p2 q2 : Option Nat) (i3 : Int32) (i4 : Int32) (i5 : Int32), nt_R ρ D F h0 u v h g → nt_A ρ D (nk_N g) a1 b1 → nt_V ρ D (nk_N g) p2 q2 → nt_F ρ D F h0 u v (nk_N g) nt_q (r5 g a1 p2 i3 i4 i5) (r5' h b1 q2 i3 i4 i5)) (hr54 : ∀ (g h : nk_H) (a1 b1 : Nat) (p2 q2 : Option Nat) (i3 : Int32) (i4 : Int32) (i5 : Int32) (p6 q6 : Option Nat) (i7 : Int32) (i8 : Int32), nt_R ρ D F h0 u v h g → nt_A ρ D (nk_N g) a1 b1 → nt_V ρ D (nk_N g) p2 q2 → nt_V ρ D (nk_N g) p6 q6 → nt_F ρ D F h0 u v (nk_N g) nt_q (r54 g a1 p2 i3 i4 i5 p6 i7 i8) (r54' h b1 q2 i3 i4 i5 q6 i7 i8)) {h yh : nk_H} (Rh : nt_R ρ D F h0 u v yh h) {t0 yt0 : Nat} (At0 : nt_A ρ D (nk_N h) t0 yt0) {v1 yv1 : Option Nat} (Vv1 : nt_V ρ D (nk_N h) v1 yv1) (v2 : Int32) (v3 : Int32) (v4 : Int32) {v5 yv5 : Option Nat} (Vv5 : nt_V ρ D (nk_N h) v5 yv5) (v6 : Int32) (v7 : Int32) : nt_F ρ D F h0 u v (nk_N h) nt_q (f_X7_spread_c54 r5 r54 h t0 v1 v2 v3 v4 v5 v6 v7) (f_X7_spread_c54 r5' r54' yh yt0 yv1 v2 v3 v4 yv5 v6 v7) := by
  unfold f_X7_spread_c54
  refine nt_ite ?_ ?_
  · refine nt_doE (n_J6_bitCount_0f7a4 Rh _) (fun h1 yh1 x2 Rh1 Lh1 => ?_)
    exact nt_fk (hr5 _ _ _ _ _ _ _ _ _ Rh1 (nt_am At0 (by omega)) (nt_vm Vv1 (by omega))) (by omega)
  · refine nt_doE (n_X11_hasBit Rh _ _) (fun h3 yh3 x4 Rh3 Lh3 => ?_)
    refine nt_ite ?_ ?_
    · exact nt_fk (n_X7_spread_c79 hr5 hr54 Rh3 (nt_am At0 (by omega)) (nt_vm Vv1 (by omega)) _ _ _ (nt_vm Vv5 (by omega)) _ _) (by omega)
    · refine nt_rcv Rh3 Vv5 (fun a5 ya5 Aa5 => ?_)
      refine nt_doE (n_X8_comeTo Rh3 (nt_am Aa5 (by omega)) _ _) (fun h6 yh6 x7 Rh6 Lh6 => ?_)
      exact nt_fk (n_X7_spread_c79 hr5 hr54 Rh6 (nt_am At0 (by omega)) (nt_vm Vv1 (by omega)) _ _ _ (nt_vm Vv5 (by omega)) _ _) (by omega)
theorem n_X7_spread_b54 {ρ : Nat → Nat} {D F : Nat → Prop} {h0 : nk_H} {u v : Nat} {r5 r5' : nk_H → Nat → Option Nat → Int32 → Int32 → Int32 → Option (nk_H × Int32)} (hr5 : ∀ (g h : nk_H) (a1 b1 : Nat) (p2 q2 : Option Nat) (i3 : Int32) (i4 : Int32) (i5 : Int32), nt_R ρ D F h0 u v h g → nt_A ρ D (nk_N g) a1 b1 → nt_V ρ D (nk_N g) p2 q2 → nt_F ρ D F h0 u v (nk_N g) nt_q (r5 g a1 p2 i3 i4 i5) (r5' h b1 q2 i3 i4 i5)) : ∀ (n : Nat) {g h : nk_H} (R : nt_R ρ D F h0 u v h g) {a1 b1 : Nat} (A1 : nt_A ρ D (nk_N g) a1 b1) {p2 q2 : Option Nat} (V2 : nt_V ρ D (nk_N g) p2 q2) (i3 : Int32) (i4 : Int32) (i5 : Int32) {p6 q6 : Option Nat} (V6 : nt_V ρ D (nk_N g) p6 q6) (i7 : Int32) (i8 : Int32), nt_F ρ D F h0 u v (nk_N g) nt_q (f_X7_spread_b54 r5 n g a1 p2 i3 i4 i5 p6 i7 i8) (f_X7_spread_b54 r5' n h b1 q2 i3 i4 i5 q6 i7 i8)
  | 0, _, _, _, _, _, _, _, _, _, _, _, _, _, _, _, _, _ => nt_none
  | n + 1, _, _, R, _, _, A1, _, _, V2, i3, i4, i5, _, _, V6, i7, i8 => n_X7_spread_c54 hr5 (fun g h a1 b1 p2 q2 i3 i4 i5 p6 q6 i7 i8 R A1 V2 V6 => n_X7_spread_b54 hr5 n R A1 V2 i3 i4 i5 V6 i7 i8) R A1 V2 i3 i4 i5 V6 i7 i8
theorem n_X7_spread_c5 {ρ : Nat → Nat} {D F : Nat → Prop} {h0 : nk_H} {u v : Nat} {r5 r5' : nk_H → Nat → Option Nat → Int32 → Int32 → Int32 → Option (nk_H × Int32)} (hr5 : ∀ (g h : nk_H) (a1 b1 : Nat) (p2 q2 : Option Nat) (i3 : Int32) (i4 : Int32) (i5 : Int32), nt_R ρ D F h0 u v h g → nt_A ρ D (nk_N g) a1 b1 → nt_V ρ D (nk_N g) p2 q2 → nt_F ρ D F h0 u v (nk_N g) nt_q (r5 g a1 p2 i3 i4 i5) (r5' h b1 q2 i3 i4 i5)) {h yh : nk_H} (Rh : nt_R ρ D F h0 u v yh h) {t0 yt0 : Nat} (At0 : nt_A ρ D (nk_N h) t0 yt0) {v1 yv1 : Option Nat} (Vv1 : nt_V ρ D (nk_N h) v1 yv1) (v2 : Int32) (v3 : Int32) (v4 : Int32) : nt_F ρ D F h0 u v (nk_N h) nt_q (f_X7_spread_c5 r5 h t0 v1 v2 v3 v4) (f_X7_spread_c5 r5' yh yt0 yv1 v2 v3 v4) := by
  unfold f_X7_spread_c5
  refine nt_gP Rh (nt_vS At0) (fun x8 yx8 Vx8 => ?_)
  refine nt_rcv Rh Vx8 (fun a9 ya9 Aa9 => ?_)
  refine nt_doE (n_Jx4a65c_size_8abf5 Rh (nt_am Aa9 (by omega))) (fun h10 yh10 x11 Rh10 Lh10 => ?_)
  refine nt_ite ?_ ?_
  · exact nt_ret Rh10 rfl (by omega)
  · refine nt_gP Rh10 (nt_vS At0) (fun x12 yx12 Vx12 => ?_)
    refine nt_rcv Rh10 Vx12 (fun a13 ya13 Aa13 => ?_)
    refine nt_doV (n_Jx4a65c_get_915e3 Rh10 (nt_am Aa13 (by omega)) _) (fun h14 yh14 x15 yx15 Rh14 Vx15 Lh14 => ?_)
    refine nt_cc Rh14 Vx15 ?_
    refine nt_gI Rh14 Vx15 (fun x17 => ?_)
    refine nt_rcv Rh14 Vv1 (fun a18 ya18 Aa18 => ?_)
    refine nt_doE (n_X6_reach Rh14 (nt_am Aa18 (by omega)) _ _) (fun h19 yh19 x20 Rh19 Lh19 => ?_)
    refine nt_gI Rh19 Vx15 (fun x21 => ?_)
    exact nt_fk (n_X7_spread_b54 hr5 _ Rh19 (nt_am At0 (by omega)) (nt_vm Vv1 (by omega)) _ _ _ (nt_vm Vx15 (by omega)) _ _) (by omega)
theorem n_X7_spread_b5 {ρ : Nat → Nat} {D F : Nat → Prop} {h0 : nk_H} {u v : Nat}   : ∀ (n : Nat) {g h : nk_H} (R : nt_R ρ D F h0 u v h g) {a1 b1 : Nat} (A1 : nt_A ρ D (nk_N g) a1 b1) {p2 q2 : Option Nat} (V2 : nt_V ρ D (nk_N g) p2 q2) (i3 : Int32) (i4 : Int32) (i5 : Int32), nt_F ρ D F h0 u v (nk_N g) nt_q (f_X7_spread_b5 n g a1 p2 i3 i4 i5) (f_X7_spread_b5 n h b1 q2 i3 i4 i5)
  | 0, _, _, _, _, _, _, _, _, _, _, _, _ => nt_none
  | n + 1, _, _, R, _, _, A1, _, _, V2, i3, i4, i5 => n_X7_spread_c5 (fun g h a1 b1 p2 q2 i3 i4 i5 R A1 V2 => n_X7_spread_b5 n R A1 V2 i3 i4 i5) R A1 V2 i3 i4 i5
theorem n_X7_spread {ρ : Nat → Nat} {D F : Nat → Prop} {h0 : nk_H} {u v : Nat}   {h yh : nk_H} (Rh : nt_R ρ D F h0 u v yh h) {t0 yt0 : Nat} (At0 : nt_A ρ D (nk_N h) t0 yt0) {v1 yv1 : Option Nat} (Vv1 : nt_V ρ D (nk_N h) v1 yv1) (v2 : Int32) : nt_F ρ D F h0 u v (nk_N h) nt_q (f_X7_spread h t0 v1 v2) (f_X7_spread yh yt0 yv1 v2) := by
  unfold f_X7_spread
  exact nt_fk (n_X7_spread_b5 _ Rh (nt_am At0 (by omega)) (nt_vm Vv1 (by omega)) _ _ _) (by omega)
theorem n_X8_isInMail {ρ : Nat → Nat} {D F : Nat → Prop} {h0 : nk_H} {u v : Nat}   {h yh : nk_H} (Rh : nt_R ρ D F h0 u v yh h) {t0 yt0 : Nat} (At0 : nt_A ρ D (nk_N h) t0 yt0) (v1 : Int32) : nt_F ρ D F h0 u v (nk_N h) nt_q (f_X8_isInMail h t0 v1) (f_X8_isInMail yh yt0 v1) := by
  unfold f_X8_isInMail
  refine nt_gI Rh (nt_vS At0) (fun x1 => ?_)
  refine nt_gI Rh (nt_vS At0) (fun x2 => ?_)
  refine nt_doE (n_X11_hasBit Rh _ _) (fun h3 yh3 x4 Rh3 Lh3 => ?_)
  exact nt_zr Rh3 _ rfl (by omega)
theorem n_X7_unread_c36 {ρ : Nat → Nat} {D F : Nat → Prop} {h0 : nk_H} {u v : Nat} {r4 r4' : nk_H → Nat → Int32 → Int32 → Int32 → Option (nk_H × Int32)} (hr4 : ∀ (g h : nk_H) (a1 b1 : Nat) (i2 : Int32) (i3 : Int32) (i4 : Int32), nt_R ρ D F h0 u v h g → nt_A ρ D (nk_N g) a1 b1 → nt_F ρ D F h0 u v (nk_N g) nt_q (r4 g a1 i2 i3 i4) (r4' h b1 i2 i3 i4)) {h yh : nk_H} (Rh : nt_R ρ D F h0 u v yh h) {t0 yt0 : Nat} (At0 : nt_A ρ D (nk_N h) t0 yt0) (v1 : Int32) (v2 : Int32) (v3 : Int32) : nt_F ρ D F h0 u v (nk_N h) nt_q (f_X7_unread_c36 r4 h t0 v1 v2 v3) (f_X7_unread_c36 r4' yh yt0 v1 v2 v3) := by
  unfold f_X7_unread_c36
  exact nt_fk (hr4 _ _ _ _ _ _ _ Rh (nt_am At0 (by omega))) (by omega)
theorem n_X7_unread_c4 {ρ : Nat → Nat} {D F : Nat → Prop} {h0 : nk_H} {u v : Nat} {r4 r4' : nk_H → Nat → Int32 → Int32 → Int32 → Option (nk_H × Int32)} (hr4 : ∀ (g h : nk_H) (a1 b1 : Nat) (i2 : Int32) (i3 : Int32) (i4 : Int32), nt_R ρ D F h0 u v h g → nt_A ρ D (nk_N g) a1 b1 → nt_F ρ D F h0 u v (nk_N g) nt_q (r4 g a1 i2 i3 i4) (r4' h b1 i2 i3 i4)) {h yh : nk_H} (Rh : nt_R ρ D F h0 u v yh h) {t0 yt0 : Nat} (At0 : nt_A ρ D (nk_N h) t0 yt0) (v1 : Int32) (v2 : Int32) (v3 : Int32) : nt_F ρ D F h0 u v (nk_N h) nt_q (f_X7_unread_c4 r4 h t0 v1 v2 v3) (f_X7_unread_c4 r4' yh yt0 v1 v2 v3) := by
  unfold f_X7_unread_c4
  refine nt_gP Rh (nt_vS At0) (fun x1 yx1 Vx1 => ?_)
  refine nt_rcv Rh Vx1 (fun a2 ya2 Aa2 => ?_)
  refine nt_doE (n_Jx4a65c_size_8abf5 Rh (nt_am Aa2 (by omega))) (fun h3 yh3 x4 Rh3 Lh3 => ?_)
  refine nt_ite ?_ ?_
  · exact nt_ret Rh3 rfl (by omega)
  · refine nt_gP Rh3 (nt_vS At0) (fun x5 yx5 Vx5 => ?_)
    refine nt_rcv Rh3 Vx5 (fun a6 ya6 Aa6 => ?_)
    refine nt_doV (n_Jx4a65c_get_915e3 Rh3 (nt_am Aa6 (by omega)) _) (fun h7 yh7 x8 yx8 Rh7 Vx8 Lh7 => ?_)
    refine nt_cc Rh7 Vx8 ?_
    refine nt_rcv Rh7 Vx8 (fun a10 ya10 Aa10 => ?_)
    refine nt_doE (n_X8_isInMail Rh7 (nt_am Aa10 (by omega)) _) (fun h11 yh11 x12 Rh11 Lh11 => ?_)
    refine nt_ite ?_ ?_
    · exact nt_fk (n_X7_unread_c36 hr4 Rh11 (nt_am At0 (by omega)) _ _ _) (by omega)
    · exact nt_fk (n_X7_unread_c36 hr4 Rh11 (nt_am At0 (by omega)) _ _ _) (by omega)
theorem n_X7_unread_b4 {ρ : Nat → Nat} {D F : Nat → Prop} {h0 : nk_H} {u v : Nat}   : ∀ (n : Nat) {g h : nk_H} (R : nt_R ρ D F h0 u v h g) {a1 b1 : Nat} (A1 : nt_A ρ D (nk_N g) a1 b1) (i2 : Int32) (i3 : Int32) (i4 : Int32), nt_F ρ D F h0 u v (nk_N g) nt_q (f_X7_unread_b4 n g a1 i2 i3 i4) (f_X7_unread_b4 n h b1 i2 i3 i4)
  | 0, _, _, _, _, _, _, _, _, _ => nt_none
  | n + 1, _, _, R, _, _, A1, i2, i3, i4 => n_X7_unread_c4 (fun g h a1 b1 i2 i3 i4 R A1 => n_X7_unread_b4 n R A1 i2 i3 i4) R A1 i2 i3 i4
theorem n_X7_unread {ρ : Nat → Nat} {D F : Nat → Prop} {h0 : nk_H} {u v : Nat}   {h yh : nk_H} (Rh : nt_R ρ D F h0 u v yh h) {t0 yt0 : Nat} (At0 : nt_A ρ D (nk_N h) t0 yt0) (v1 : Int32) : nt_F ρ D F h0 u v (nk_N h) nt_q (f_X7_unread h t0 v1) (f_X7_unread yh yt0 v1) := by
  unfold f_X7_unread
  exact nt_fk (n_X7_unread_b4 _ Rh (nt_am At0 (by omega)) _ _ _) (by omega)
theorem n_X7_readMail_c55 {ρ : Nat → Nat} {D F : Nat → Prop} {h0 : nk_H} {u v : Nat} {r8 r8' : nk_H → Nat → Int32 → Int32 → Int32 → Option (nk_H × Int32)} (hr8 : ∀ (g h : nk_H) (a1 b1 : Nat) (i2 : Int32) (i3 : Int32) (i4 : Int32), nt_R ρ D F h0 u v h g → nt_A ρ D (nk_N g) a1 b1 → nt_F ρ D F h0 u v (nk_N g) nt_q (r8 g a1 i2 i3 i4) (r8' h b1 i2 i3 i4)) {h yh : nk_H} (Rh : nt_R ρ D F h0 u v yh h) {t0 yt0 : Nat} (At0 : nt_A ρ D (nk_N h) t0 yt0) (v1 : Int32) (v2 : Int32) (v3 : Int32) : nt_F ρ D F h0 u v (nk_N h) nt_q (f_X7_readMail_c55 r8 h t0 v1 v2 v3) (f_X7_readMail_c55 r8' yh yt0 v1 v2 v3) := by
  unfold f_X7_readMail_c55
  exact nt_fk (hr8 _ _ _ _ _ _ _ Rh (nt_am At0 (by omega))) (by omega)
theorem n_X7_readMail_c8 {ρ : Nat → Nat} {D F : Nat → Prop} {h0 : nk_H} {u v : Nat} {r8 r8' : nk_H → Nat → Int32 → Int32 → Int32 → Option (nk_H × Int32)} (hr8 : ∀ (g h : nk_H) (a1 b1 : Nat) (i2 : Int32) (i3 : Int32) (i4 : Int32), nt_R ρ D F h0 u v h g → nt_A ρ D (nk_N g) a1 b1 → nt_F ρ D F h0 u v (nk_N g) nt_q (r8 g a1 i2 i3 i4) (r8' h b1 i2 i3 i4)) {h yh : nk_H} (Rh : nt_R ρ D F h0 u v yh h) {t0 yt0 : Nat} (At0 : nt_A ρ D (nk_N h) t0 yt0) (v1 : Int32) (v2 : Int32) (v3 : Int32) : nt_F ρ D F h0 u v (nk_N h) nt_q (f_X7_readMail_c8 r8 h t0 v1 v2 v3) (f_X7_readMail_c8 r8' yh yt0 v1 v2 v3) := by
  unfold f_X7_readMail_c8
  refine nt_gP Rh (nt_vS At0) (fun x1 yx1 Vx1 => ?_)
  refine nt_rcv Rh Vx1 (fun a2 ya2 Aa2 => ?_)
  refine nt_doE (n_Jx4a65c_size_8abf5 Rh (nt_am Aa2 (by omega))) (fun h3 yh3 x4 Rh3 Lh3 => ?_)
  refine nt_ite ?_ ?_
  · exact nt_ret Rh3 rfl (by omega)
  · refine nt_gP Rh3 (nt_vS At0) (fun x5 yx5 Vx5 => ?_)
    refine nt_rcv Rh3 Vx5 (fun a6 ya6 Aa6 => ?_)
    refine nt_doV (n_Jx4a65c_get_915e3 Rh3 (nt_am Aa6 (by omega)) _) (fun h7 yh7 x8 yx8 Rh7 Vx8 Lh7 => ?_)
    refine nt_cc Rh7 Vx8 ?_
    refine nt_rcv Rh7 Vx8 (fun a10 ya10 Aa10 => ?_)
    refine nt_doE (n_X8_isInMail Rh7 (nt_am Aa10 (by omega)) _) (fun h11 yh11 x12 Rh11 Lh11 => ?_)
    refine nt_ite ?_ ?_
    · exact nt_fk (n_X7_readMail_c55 hr8 Rh11 (nt_am At0 (by omega)) _ _ _) (by omega)
    · refine nt_gI Rh11 Vx8 (fun x13 => ?_)
      refine nt_doE (n_X11_bit Rh11 _) (fun h14 yh14 x15 Rh14 Lh14 => ?_)
      refine nt_pI Rh14 Vx8 (fun h16 yh16 Rh16 Lh16 => ?_)
      exact nt_fk (n_X7_readMail_c55 hr8 Rh16 (nt_am At0 (by omega)) _ _ _) (by omega)
theorem n_X7_readMail_b8 {ρ : Nat → Nat} {D F : Nat → Prop} {h0 : nk_H} {u v : Nat}   : ∀ (n : Nat) {g h : nk_H} (R : nt_R ρ D F h0 u v h g) {a1 b1 : Nat} (A1 : nt_A ρ D (nk_N g) a1 b1) (i2 : Int32) (i3 : Int32) (i4 : Int32), nt_F ρ D F h0 u v (nk_N g) nt_q (f_X7_readMail_b8 n g a1 i2 i3 i4) (f_X7_readMail_b8 n h b1 i2 i3 i4)
  | 0, _, _, _, _, _, _, _, _, _ => nt_none
  | n + 1, _, _, R, _, _, A1, i2, i3, i4 => n_X7_readMail_c8 (fun g h a1 b1 i2 i3 i4 R A1 => n_X7_readMail_b8 n R A1 i2 i3 i4) R A1 i2 i3 i4
theorem n_X7_readMail {ρ : Nat → Nat} {D F : Nat → Prop} {h0 : nk_H} {u v : Nat}   {h yh : nk_H} (Rh : nt_R ρ D F h0 u v yh h) {t0 yt0 : Nat} (At0 : nt_A ρ D (nk_N h) t0 yt0) (v1 : Int32) : nt_F ρ D F h0 u v (nk_N h) nt_q (f_X7_readMail h t0 v1) (f_X7_readMail yh yt0 v1) := by
  unfold f_X7_readMail
  refine nt_rcv Rh (nt_vS At0) (fun a17 ya17 Aa17 => ?_)
  refine nt_doE (n_X7_unread Rh (nt_am Aa17 (by omega)) _) (fun h18 yh18 x19 Rh18 Lh18 => ?_)
  exact nt_fk (n_X7_readMail_b8 _ Rh18 (nt_am At0 (by omega)) _ _ _) (by omega)
theorem n_X7_lookAtRead_c52 {ρ : Nat → Nat} {D F : Nat → Prop} {h0 : nk_H} {u v : Nat}   {h yh : nk_H} (Rh : nt_R ρ D F h0 u v yh h) : nt_F ρ D F h0 u v (nk_N h) nt_q (f_X7_lookAtRead_c52 h) (f_X7_lookAtRead_c52 yh) := by
  unfold f_X7_lookAtRead_c52
  exact nt_ret Rh rfl (by omega)
theorem n_X7_lookAtRead_c2 {ρ : Nat → Nat} {D F : Nat → Prop} {h0 : nk_H} {u v : Nat} {r2 r2' : nk_H → Nat → Int32 → Int32 → Option (nk_H × Unit)} (hr2 : ∀ (g h : nk_H) (a1 b1 : Nat) (i2 : Int32) (i3 : Int32), nt_R ρ D F h0 u v h g → nt_A ρ D (nk_N g) a1 b1 → nt_F ρ D F h0 u v (nk_N g) nt_q (r2 g a1 i2 i3) (r2' h b1 i2 i3)) {h yh : nk_H} (Rh : nt_R ρ D F h0 u v yh h) {t0 yt0 : Nat} (At0 : nt_A ρ D (nk_N h) t0 yt0) (v1 : Int32) (v2 : Int32) : nt_F ρ D F h0 u v (nk_N h) nt_q (f_X7_lookAtRead_c2 r2 h t0 v1 v2) (f_X7_lookAtRead_c2 r2' yh yt0 v1 v2) := by
  unfold f_X7_lookAtRead_c2
  refine nt_gP Rh (nt_vS At0) (fun x1 yx1 Vx1 => ?_)
  refine nt_rcv Rh Vx1 (fun a2 ya2 Aa2 => ?_)
  refine nt_doE (n_Jx4a65c_size_8abf5 Rh (nt_am Aa2 (by omega))) (fun h3 yh3 x4 Rh3 Lh3 => ?_)
  refine nt_ite ?_ ?_
  · exact nt_fk (n_X7_lookAtRead_c52 Rh3) (by omega)
  · refine nt_gP Rh3 (nt_vS At0) (fun x5 yx5 Vx5 => ?_)
    refine nt_len Rh3 Vx5 (fun x6 => ?_)
    refine nt_ite ?_ ?_
    · exact nt_fk (n_X7_lookAtRead_c52 Rh3) (by omega)
    · refine nt_gP Rh3 (nt_vS At0) (fun x7 yx7 Vx7 => ?_)
      refine nt_gP Rh3 (nt_vS At0) (fun x8 yx8 Vx8 => ?_)
      refine nt_rcv Rh3 Vx8 (fun a9 ya9 Aa9 => ?_)
      refine nt_doV (n_Jx4a65c_get_915e3 Rh3 (nt_am Aa9 (by omega)) _) (fun h10 yh10 x11 yx11 Rh10 Vx11 Lh10 => ?_)
      refine nt_cc Rh10 Vx11 ?_
      refine nt_gI Rh10 Vx11 (fun x13 => ?_)
      refine nt_doE (n_X11_hasBit Rh10 _ _) (fun h14 yh14 x15 Rh14 Lh14 => ?_)
      refine nt_wZ Rh14 Vx7 (fun h16 yh16 Rh16 Lh16 => ?_)
      exact nt_fk (hr2 _ _ _ _ _ _ Rh16 (nt_am At0 (by omega))) (by omega)
theorem n_X7_lookAtRead_b2 {ρ : Nat → Nat} {D F : Nat → Prop} {h0 : nk_H} {u v : Nat}   : ∀ (n : Nat) {g h : nk_H} (R : nt_R ρ D F h0 u v h g) {a1 b1 : Nat} (A1 : nt_A ρ D (nk_N g) a1 b1) (i2 : Int32) (i3 : Int32), nt_F ρ D F h0 u v (nk_N g) nt_q (f_X7_lookAtRead_b2 n g a1 i2 i3) (f_X7_lookAtRead_b2 n h b1 i2 i3)
  | 0, _, _, _, _, _, _, _, _ => nt_none
  | n + 1, _, _, R, _, _, A1, i2, i3 => n_X7_lookAtRead_c2 (fun g h a1 b1 i2 i3 R A1 => n_X7_lookAtRead_b2 n R A1 i2 i3) R A1 i2 i3
theorem n_X7_lookAtRead {ρ : Nat → Nat} {D F : Nat → Prop} {h0 : nk_H} {u v : Nat}   {h yh : nk_H} (Rh : nt_R ρ D F h0 u v yh h) {t0 yt0 : Nat} (At0 : nt_A ρ D (nk_N h) t0 yt0) (v1 : Int32) : nt_F ρ D F h0 u v (nk_N h) nt_q (f_X7_lookAtRead h t0 v1) (f_X7_lookAtRead yh yt0 v1) := by
  unfold f_X7_lookAtRead
  exact nt_fk (n_X7_lookAtRead_b2 _ Rh (nt_am At0 (by omega)) _ _) (by omega)
theorem n_X8_couldBeReadFor_c27 {ρ : Nat → Nat} {D F : Nat → Prop} {h0 : nk_H} {u v : Nat}   {h yh : nk_H} (Rh : nt_R ρ D F h0 u v yh h) (s0 : Int32) : nt_F ρ D F h0 u v (nk_N h) nt_q (f_X8_couldBeReadFor_c27 h s0) (f_X8_couldBeReadFor_c27 yh s0) := by
  unfold f_X8_couldBeReadFor_c27
  exact nt_zr Rh _ rfl (by omega)
theorem n_X8_couldBeReadFor_c63 {ρ : Nat → Nat} {D F : Nat → Prop} {h0 : nk_H} {u v : Nat}   {h yh : nk_H} (Rh : nt_R ρ D F h0 u v yh h) (s0 : Int32) : nt_F ρ D F h0 u v (nk_N h) nt_q (f_X8_couldBeReadFor_c63 h s0) (f_X8_couldBeReadFor_c63 yh s0) := by
  unfold f_X8_couldBeReadFor_c63
  exact nt_zr Rh _ rfl (by omega)
theorem n_X8_couldBeReadFor_c62 {ρ : Nat → Nat} {D F : Nat → Prop} {h0 : nk_H} {u v : Nat}   {h yh : nk_H} (Rh : nt_R ρ D F h0 u v yh h) : nt_F ρ D F h0 u v (nk_N h) nt_q (f_X8_couldBeReadFor_c62 h) (f_X8_couldBeReadFor_c62 yh) := by
  unfold f_X8_couldBeReadFor_c62
  exact nt_fk (n_X8_couldBeReadFor_c63 Rh _) (by omega)
theorem n_X8_couldBeReadFor {ρ : Nat → Nat} {D F : Nat → Prop} {h0 : nk_H} {u v : Nat}   {h yh : nk_H} (Rh : nt_R ρ D F h0 u v yh h) {t0 yt0 : Nat} (At0 : nt_A ρ D (nk_N h) t0 yt0) {v1 yv1 : Option Nat} (Vv1 : nt_V ρ D (nk_N h) v1 yv1) : nt_F ρ D F h0 u v (nk_N h) nt_q (f_X8_couldBeReadFor h t0 v1) (f_X8_couldBeReadFor yh yt0 yv1) := by
  unfold f_X8_couldBeReadFor
  refine nt_gI Rh (nt_vS At0) (fun x1 => ?_)
  refine nt_gI Rh Vv1 (fun x2 => ?_)
  refine nt_ite ?_ ?_
  · refine nt_gI Rh (nt_vS At0) (fun x3 => ?_)
    refine nt_gI Rh Vv1 (fun x4 => ?_)
    refine nt_ite ?_ ?_
    · exact nt_fk (n_X8_couldBeReadFor_c27 Rh _) (by omega)
    · exact nt_fk (n_X8_couldBeReadFor_c27 Rh _) (by omega)
  · refine nt_gI Rh (nt_vS At0) (fun x5 => ?_)
    refine nt_gI Rh Vv1 (fun x6 => ?_)
    refine nt_doE (n_X11_hasBit Rh _ _) (fun h7 yh7 x8 Rh7 Lh7 => ?_)
    refine nt_ite ?_ ?_
    · exact nt_fk (n_X8_couldBeReadFor_c62 Rh7) (by omega)
    · refine nt_gP Rh7 (nt_vS At0) (fun x9 yx9 Vx9 => ?_)
      refine nt_gI Rh7 Vv1 (fun x10 => ?_)
      refine nt_aI Rh7 Vx9 (fun x11 => ?_)
      refine nt_gI Rh7 Vv1 (fun x12 => ?_)
      refine nt_ite ?_ ?_
      · exact nt_fk (n_X8_couldBeReadFor_c62 Rh7) (by omega)
      · exact nt_fk (n_X8_couldBeReadFor_c63 Rh7 _) (by omega)
theorem n_X7_lookAtReadable_c49 {ρ : Nat → Nat} {D F : Nat → Prop} {h0 : nk_H} {u v : Nat}   {h yh : nk_H} (Rh : nt_R ρ D F h0 u v yh h) : nt_F ρ D F h0 u v (nk_N h) nt_q (f_X7_lookAtReadable_c49 h) (f_X7_lookAtReadable_c49 yh) := by
  unfold f_X7_lookAtReadable_c49
  exact nt_ret Rh rfl (by omega)
theorem n_X7_lookAtReadable_c2 {ρ : Nat → Nat} {D F : Nat → Prop} {h0 : nk_H} {u v : Nat} {r2 r2' : nk_H → Nat → Option Nat → Int32 → Option (nk_H × Unit)} (hr2 : ∀ (g h : nk_H) (a1 b1 : Nat) (p2 q2 : Option Nat) (i3 : Int32), nt_R ρ D F h0 u v h g → nt_A ρ D (nk_N g) a1 b1 → nt_V ρ D (nk_N g) p2 q2 → nt_F ρ D F h0 u v (nk_N g) nt_q (r2 g a1 p2 i3) (r2' h b1 q2 i3)) {h yh : nk_H} (Rh : nt_R ρ D F h0 u v yh h) {t0 yt0 : Nat} (At0 : nt_A ρ D (nk_N h) t0 yt0) {v1 yv1 : Option Nat} (Vv1 : nt_V ρ D (nk_N h) v1 yv1) (v2 : Int32) : nt_F ρ D F h0 u v (nk_N h) nt_q (f_X7_lookAtReadable_c2 r2 h t0 v1 v2) (f_X7_lookAtReadable_c2 r2' yh yt0 yv1 v2) := by
  unfold f_X7_lookAtReadable_c2
  refine nt_gP Rh (nt_vS At0) (fun x1 yx1 Vx1 => ?_)
  refine nt_rcv Rh Vx1 (fun a2 ya2 Aa2 => ?_)
  refine nt_doE (n_Jx4a65c_size_8abf5 Rh (nt_am Aa2 (by omega))) (fun h3 yh3 x4 Rh3 Lh3 => ?_)
  refine nt_ite ?_ ?_
  · exact nt_fk (n_X7_lookAtReadable_c49 Rh3) (by omega)
  · refine nt_gP Rh3 (nt_vS At0) (fun x5 yx5 Vx5 => ?_)
    refine nt_len Rh3 Vx5 (fun x6 => ?_)
    refine nt_ite ?_ ?_
    · exact nt_fk (n_X7_lookAtReadable_c49 Rh3) (by omega)
    · refine nt_gP Rh3 (nt_vS At0) (fun x7 yx7 Vx7 => ?_)
      refine nt_gP Rh3 (nt_vS At0) (fun x8 yx8 Vx8 => ?_)
      refine nt_rcv Rh3 Vx8 (fun a9 ya9 Aa9 => ?_)
      refine nt_doV (n_Jx4a65c_get_915e3 Rh3 (nt_am Aa9 (by omega)) _) (fun h10 yh10 x11 yx11 Rh10 Vx11 Lh10 => ?_)
      refine nt_cc Rh10 Vx11 ?_
      refine nt_rcv Rh10 Vx11 (fun a13 ya13 Aa13 => ?_)
      refine nt_doE (n_X8_couldBeReadFor Rh10 (nt_am Aa13 (by omega)) (nt_vm Vv1 (by omega))) (fun h14 yh14 x15 Rh14 Lh14 => ?_)
      refine nt_wZ Rh14 Vx7 (fun h16 yh16 Rh16 Lh16 => ?_)
      exact nt_fk (hr2 _ _ _ _ _ _ _ Rh16 (nt_am At0 (by omega)) (nt_vm Vv1 (by omega))) (by omega)
theorem n_X7_lookAtReadable_b2 {ρ : Nat → Nat} {D F : Nat → Prop} {h0 : nk_H} {u v : Nat}   : ∀ (n : Nat) {g h : nk_H} (R : nt_R ρ D F h0 u v h g) {a1 b1 : Nat} (A1 : nt_A ρ D (nk_N g) a1 b1) {p2 q2 : Option Nat} (V2 : nt_V ρ D (nk_N g) p2 q2) (i3 : Int32), nt_F ρ D F h0 u v (nk_N g) nt_q (f_X7_lookAtReadable_b2 n g a1 p2 i3) (f_X7_lookAtReadable_b2 n h b1 q2 i3)
  | 0, _, _, _, _, _, _, _, _, _, _ => nt_none
  | n + 1, _, _, R, _, _, A1, _, _, V2, i3 => n_X7_lookAtReadable_c2 (fun g h a1 b1 p2 q2 i3 R A1 V2 => n_X7_lookAtReadable_b2 n R A1 V2 i3) R A1 V2 i3
theorem n_X7_lookAtReadable {ρ : Nat → Nat} {D F : Nat → Prop} {h0 : nk_H} {u v : Nat}   {h yh : nk_H} (Rh : nt_R ρ D F h0 u v yh h) {t0 yt0 : Nat} (At0 : nt_A ρ D (nk_N h) t0 yt0) {v1 yv1 : Option Nat} (Vv1 : nt_V ρ D (nk_N h) v1 yv1) : nt_F ρ D F h0 u v (nk_N h) nt_q (f_X7_lookAtReadable h t0 v1) (f_X7_lookAtReadable yh yt0 yv1) := by
  unfold f_X7_lookAtReadable
  exact nt_fk (n_X7_lookAtReadable_b2 _ Rh (nt_am At0 (by omega)) (nt_vm Vv1 (by omega)) _) (by omega)
theorem n_X7_lookAtAll_c35 {ρ : Nat → Nat} {D F : Nat → Prop} {h0 : nk_H} {u v : Nat}   {h yh : nk_H} (Rh : nt_R ρ D F h0 u v yh h) : nt_F ρ D F h0 u v (nk_N h) nt_q (f_X7_lookAtAll_c35 h) (f_X7_lookAtAll_c35 yh) := by
  unfold f_X7_lookAtAll_c35
  exact nt_ret Rh rfl (by omega)
theorem n_X7_lookAtAll_c2 {ρ : Nat → Nat} {D F : Nat → Prop} {h0 : nk_H} {u v : Nat} {r2 r2' : nk_H → Nat → Int32 → Option (nk_H × Unit)} (hr2 : ∀ (g h : nk_H) (a1 b1 : Nat) (i2 : Int32), nt_R ρ D F h0 u v h g → nt_A ρ D (nk_N g) a1 b1 → nt_F ρ D F h0 u v (nk_N g) nt_q (r2 g a1 i2) (r2' h b1 i2)) {h yh : nk_H} (Rh : nt_R ρ D F h0 u v yh h) {t0 yt0 : Nat} (At0 : nt_A ρ D (nk_N h) t0 yt0) (v1 : Int32) : nt_F ρ D F h0 u v (nk_N h) nt_q (f_X7_lookAtAll_c2 r2 h t0 v1) (f_X7_lookAtAll_c2 r2' yh yt0 v1) := by
  unfold f_X7_lookAtAll_c2
  refine nt_gP Rh (nt_vS At0) (fun x1 yx1 Vx1 => ?_)
  refine nt_rcv Rh Vx1 (fun a2 ya2 Aa2 => ?_)
  refine nt_doE (n_Jx4a65c_size_8abf5 Rh (nt_am Aa2 (by omega))) (fun h3 yh3 x4 Rh3 Lh3 => ?_)
  refine nt_ite ?_ ?_
  · exact nt_fk (n_X7_lookAtAll_c35 Rh3) (by omega)
  · refine nt_gP Rh3 (nt_vS At0) (fun x5 yx5 Vx5 => ?_)
    refine nt_len Rh3 Vx5 (fun x6 => ?_)
    refine nt_ite ?_ ?_
    · exact nt_fk (n_X7_lookAtAll_c35 Rh3) (by omega)
    · refine nt_gP Rh3 (nt_vS At0) (fun x7 yx7 Vx7 => ?_)
      refine nt_wZ Rh3 Vx7 (fun h8 yh8 Rh8 Lh8 => ?_)
      exact nt_fk (hr2 _ _ _ _ _ Rh8 (nt_am At0 (by omega))) (by omega)
theorem n_X7_lookAtAll_b2 {ρ : Nat → Nat} {D F : Nat → Prop} {h0 : nk_H} {u v : Nat}   : ∀ (n : Nat) {g h : nk_H} (R : nt_R ρ D F h0 u v h g) {a1 b1 : Nat} (A1 : nt_A ρ D (nk_N g) a1 b1) (i2 : Int32), nt_F ρ D F h0 u v (nk_N g) nt_q (f_X7_lookAtAll_b2 n g a1 i2) (f_X7_lookAtAll_b2 n h b1 i2)
  | 0, _, _, _, _, _, _, _ => nt_none
  | n + 1, _, _, R, _, _, A1, i2 => n_X7_lookAtAll_c2 (fun g h a1 b1 i2 R A1 => n_X7_lookAtAll_b2 n R A1 i2) R A1 i2
theorem n_X7_lookAtAll {ρ : Nat → Nat} {D F : Nat → Prop} {h0 : nk_H} {u v : Nat}   {h yh : nk_H} (Rh : nt_R ρ D F h0 u v yh h) {t0 yt0 : Nat} (At0 : nt_A ρ D (nk_N h) t0 yt0) : nt_F ρ D F h0 u v (nk_N h) nt_q (f_X7_lookAtAll h t0) (f_X7_lookAtAll yh yt0) := by
  unfold f_X7_lookAtAll
  exact nt_fk (n_X7_lookAtAll_b2 _ Rh (nt_am At0 (by omega)) _) (by omega)
theorem n_X7_sees_c27 {ρ : Nat → Nat} {D F : Nat → Prop} {h0 : nk_H} {u v : Nat}   {h yh : nk_H} (Rh : nt_R ρ D F h0 u v yh h) (s0 : Int32) : nt_F ρ D F h0 u v (nk_N h) nt_q (f_X7_sees_c27 h s0) (f_X7_sees_c27 yh s0) := by
  unfold f_X7_sees_c27
  exact nt_zr Rh _ rfl (by omega)
theorem n_X7_sees_c26 {ρ : Nat → Nat} {D F : Nat → Prop} {h0 : nk_H} {u v : Nat}   {h yh : nk_H} (Rh : nt_R ρ D F h0 u v yh h) : nt_F ρ D F h0 u v (nk_N h) nt_q (f_X7_sees_c26 h) (f_X7_sees_c26 yh) := by
  unfold f_X7_sees_c26
  exact nt_fk (n_X7_sees_c27 Rh _) (by omega)
theorem n_X7_sees {ρ : Nat → Nat} {D F : Nat → Prop} {h0 : nk_H} {u v : Nat}   {h yh : nk_H} (Rh : nt_R ρ D F h0 u v yh h) {t0 yt0 : Nat} (At0 : nt_A ρ D (nk_N h) t0 yt0) (v1 : Int32) : nt_F ρ D F h0 u v (nk_N h) nt_q (f_X7_sees h t0 v1) (f_X7_sees yh yt0 v1) := by
  unfold f_X7_sees
  refine nt_ite ?_ ?_
  · exact nt_fk (n_X7_sees_c26 Rh) (by omega)
  · refine nt_gP Rh (nt_vS At0) (fun x1 yx1 Vx1 => ?_)
    refine nt_len Rh Vx1 (fun x2 => ?_)
    refine nt_ite ?_ ?_
    · exact nt_fk (n_X7_sees_c26 Rh) (by omega)
    · refine nt_gP Rh (nt_vS At0) (fun x3 yx3 Vx3 => ?_)
      refine nt_aI Rh Vx3 (fun x4 => ?_)
      refine nt_ite ?_ ?_
      · exact nt_fk (n_X7_sees_c26 Rh) (by omega)
      · exact nt_fk (n_X7_sees_c27 Rh _) (by omega)
