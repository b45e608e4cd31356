/-! ===== naturality, function by function (by program: wip/p44/gen/gen_nat.py) ===== -/
theorem n_X7_knows_c2 {ρ : Nat → Nat} {D F : Nat → Prop} {h0 : nk_H} {u v : Nat} {r2 r2' : nk_H → Nat → Option Nat → Option (nk_H × Int32)} (hr2 : ∀ (g h : nk_H) (a1 b1 : Nat) (p2 q2 : Option Nat), nt_R ρ D F h0 u v h g → nt_A ρ D (nk_N g) a1 b1 → nt_V ρ D (nk_N g) p2 q2 → nt_F ρ D F h0 u v (nk_N g) nt_q (r2 g a1 p2) (r2' h b1 q2)) {h yh : nk_H} (Rh : nt_R ρ D F h0 u v yh h) {t0 yt0 : Nat} (At0 : nt_A ρ D (nk_N h) t0 yt0) {v2 yv2 : Option Nat} (Vv2 : nt_V ρ D (nk_N h) v2 yv2) : nt_F ρ D F h0 u v (nk_N h) nt_q (f_X7_knows_c2 r2 h t0 v2) (f_X7_knows_c2 r2' yh yt0 yv2) := by
  unfold f_X7_knows_c2
  refine nt_iteP (nt_eq Rh Vv2 (nt_vn (n := 0))) ?_ ?_
  · exact nt_zr Rh _ rfl (by omega)
  · refine nt_gI Rh Vv2 (fun x1 => ?_)
    refine nt_rcv Rh (nt_vS At0) (fun a2 ya2 Aa2 => ?_)
    refine nt_doE (n_X7_sees Rh (nt_am Aa2 (by omega)) _) (fun h3 yh3 x4 Rh3 Lh3 => ?_)
    refine nt_ite ?_ ?_
    · exact nt_zr Rh3 _ rfl (by omega)
    · refine nt_gP Rh3 Vv2 (fun x5 yx5 Vx5 => ?_)
      exact nt_fk (hr2 _ _ _ _ _ _ Rh3 (nt_am At0 (by omega)) (nt_vm Vx5 (by omega))) (by omega)
theorem n_X7_knows_b2 {ρ : Nat → Nat} {D F : Nat → Prop} {h0 : nk_H} {u v : Nat}   : ∀ (n : Nat) {g h : nk_H} (R : nt_R ρ D F h0 u v h g) {a1 b1 : Nat} (A1 : nt_A ρ D (nk_N g) a1 b1) {p2 q2 : Option Nat} (V2 : nt_V ρ D (nk_N g) p2 q2), nt_F ρ D F h0 u v (nk_N g) nt_q (f_X7_knows_b2 n g a1 p2) (f_X7_knows_b2 n h b1 q2)
  | 0, _, _, _, _, _, _, _, _, _ => nt_none
  | n + 1, _, _, R, _, _, A1, _, _, V2 => n_X7_knows_c2 (fun g h a1 b1 p2 q2 R A1 V2 => n_X7_knows_b2 n R A1 V2) R A1 V2
theorem n_X7_knows {ρ : Nat → Nat} {D F : Nat → Prop} {h0 : nk_H} {u v : Nat}   {h yh : nk_H} (Rh : nt_R ρ D F h0 u v yh h) {t0 yt0 : Nat} (At0 : nt_A ρ D (nk_N h) t0 yt0) {v1 yv1 : Option Nat} (Vv1 : nt_V ρ D (nk_N h) v1 yv1) : nt_F ρ D F h0 u v (nk_N h) nt_q (f_X7_knows h t0 v1) (f_X7_knows yh yt0 yv1) := by
  unfold f_X7_knows
  exact nt_fk (n_X7_knows_b2 _ Rh (nt_am At0 (by omega)) (nt_vm Vv1 (by omega))) (by omega)
theorem n_X8_isRevocationOf {ρ : Nat → Nat} {D F : Nat → Prop} {h0 : nk_H} {u v : Nat}   {h yh : nk_H} (Rh : nt_R ρ D F h0 u v yh h) {t0 yt0 : Nat} (At0 : nt_A ρ D (nk_N h) t0 yt0) {v1 yv1 : Option Nat} (Vv1 : nt_V ρ D (nk_N h) v1 yv1) : nt_F ρ D F h0 u v (nk_N h) nt_q (f_X8_isRevocationOf h t0 v1) (f_X8_isRevocationOf yh yt0 yv1) := by
  unfold f_X8_isRevocationOf
  exact nt_zr Rh _ rfl (by omega)
theorem n_X10_isRevocationOf_c13 {ρ : Nat → Nat} {D F : Nat → Prop} {h0 : nk_H} {u v : Nat}   {h yh : nk_H} (Rh : nt_R ρ D F h0 u v yh h) (s0 : Int32) : nt_F ρ D F h0 u v (nk_N h) nt_q (f_X10_isRevocationOf_c13 h s0) (f_X10_isRevocationOf_c13 yh s0) := by
  unfold f_X10_isRevocationOf_c13
  exact nt_zr Rh _ rfl (by omega)
theorem n_X10_isRevocationOf {ρ : Nat → Nat} {D F : Nat → Prop} {h0 : nk_H} {u v : Nat}   {h yh : nk_H} (Rh : nt_R ρ D F h0 u v yh h) {t0 yt0 : Nat} (At0 : nt_A ρ D (nk_N h) t0 yt0) {v1 yv1 : Option Nat} (Vv1 : nt_V ρ D (nk_N h) v1 yv1) : nt_F ρ D F h0 u v (nk_N h) nt_q (f_X10_isRevocationOf h t0 v1) (f_X10_isRevocationOf yh yt0 yv1) := by
  unfold f_X10_isRevocationOf
  refine nt_gP Rh (nt_vS At0) (fun x1 yx1 Vx1 => ?_)
  refine nt_iteP (nt_eq Rh Vx1 Vv1) ?_ ?_
  · exact nt_fk (n_X10_isRevocationOf_c13 Rh _) (by omega)
  · exact nt_fk (n_X10_isRevocationOf_c13 Rh _) (by omega)
theorem n_X7_revokesAlone_c41 {ρ : Nat → Nat} {D F : Nat → Prop} {h0 : nk_H} {u v : Nat} {r2 r2' : nk_H → Nat → Option Nat → Int32 → Option (nk_H × Int32)} (hr2 : ∀ (g h : nk_H) (a1 b1 : Nat) (p2 q2 : Option Nat) (i3 : Int32), nt_R ρ D F h0 u v h g → nt_A ρ D (nk_N g) a1 b1 → nt_V ρ D (nk_N g) p2 q2 → nt_F ρ D F h0 u v (nk_N g) nt_q (r2 g a1 p2 i3) (r2' h b1 q2 i3)) {h yh : nk_H} (Rh : nt_R ρ D F h0 u v yh h) {t0 yt0 : Nat} (At0 : nt_A ρ D (nk_N h) t0 yt0) {v1 yv1 : Option Nat} (Vv1 : nt_V ρ D (nk_N h) v1 yv1) (v2 : Int32) : nt_F ρ D F h0 u v (nk_N h) nt_q (f_X7_revokesAlone_c41 r2 h t0 v1 v2) (f_X7_revokesAlone_c41 r2' yh yt0 yv1 v2) := by
  unfold f_X7_revokesAlone_c41
  exact nt_fk (hr2 _ _ _ _ _ _ _ Rh (nt_am At0 (by omega)) (nt_vm Vv1 (by omega))) (by omega)
theorem n_X7_revokesAlone_c2 {ρ : Nat → Nat} {D F : Nat → Prop} {h0 : nk_H} {u v : Nat} {r2 r2' : nk_H → Nat → Option Nat → Int32 → Option (nk_H × Int32)} (hr2 : ∀ (g h : nk_H) (a1 b1 : Nat) (p2 q2 : Option Nat) (i3 : Int32), nt_R ρ D F h0 u v h g → nt_A ρ D (nk_N g) a1 b1 → nt_V ρ D (nk_N g) p2 q2 → nt_F ρ D F h0 u v (nk_N g) nt_q (r2 g a1 p2 i3) (r2' h b1 q2 i3)) {h yh : nk_H} (Rh : nt_R ρ D F h0 u v yh h) {t0 yt0 : Nat} (At0 : nt_A ρ D (nk_N h) t0 yt0) {v1 yv1 : Option Nat} (Vv1 : nt_V ρ D (nk_N h) v1 yv1) (v2 : Int32) : nt_F ρ D F h0 u v (nk_N h) nt_q (f_X7_revokesAlone_c2 r2 h t0 v1 v2) (f_X7_revokesAlone_c2 r2' yh yt0 yv1 v2) := by
  unfold f_X7_revokesAlone_c2
  refine nt_gP Rh (nt_vS At0) (fun x1 yx1 Vx1 => ?_)
  refine nt_rcv Rh Vx1 (fun a2 ya2 Aa2 => ?_)
  refine nt_doE (n_Jx4a65c_size_8abf5 Rh (nt_am Aa2 (by omega))) (fun h3 yh3 x4 Rh3 Lh3 => ?_)
  refine nt_ite ?_ ?_
  · exact nt_zr Rh3 _ rfl (by omega)
  · refine nt_rcv Rh3 (nt_vS At0) (fun a5 ya5 Aa5 => ?_)
    refine nt_doE (n_X7_sees Rh3 (nt_am Aa5 (by omega)) _) (fun h6 yh6 x7 Rh6 Lh6 => ?_)
    refine nt_ite ?_ ?_
    · exact nt_fk (n_X7_revokesAlone_c41 hr2 Rh6 (nt_am At0 (by omega)) (nt_vm Vv1 (by omega)) _) (by omega)
    · refine nt_gP Rh6 (nt_vS At0) (fun x8 yx8 Vx8 => ?_)
      refine nt_rcv Rh6 Vx8 (fun a9 ya9 Aa9 => ?_)
      refine nt_doV (n_Jx4a65c_get_915e3 Rh6 (nt_am Aa9 (by omega)) _) (fun h10 yh10 x11 yx11 Rh10 Vx11 Lh10 => ?_)
      refine nt_cc Rh10 Vx11 ?_
      refine nt_rcv Rh10 Vx11 (fun a13 ya13 Aa13 => ?_)
      refine nt_doE (k' := nk_N h10) ?_ (fun h14 yh14 x15 Rh14 Lh14 => ?_)
      · refine nt_iteP (nt_k Rh10 Aa13 8) ?_ ?_
        · exact nt_fk (n_X8_isRevocationOf Rh10 (nt_am Aa13 (by omega)) (nt_vm Vv1 (by omega))) (by omega)
        · refine nt_iteP (nt_k Rh10 Aa13 12) ?_ ?_
          · exact nt_fk (n_X8_isRevocationOf Rh10 (nt_am Aa13 (by omega)) (nt_vm Vv1 (by omega))) (by omega)
          · refine nt_iteP (nt_k Rh10 Aa13 16) ?_ ?_
            · exact nt_fk (n_X8_isRevocationOf Rh10 (nt_am Aa13 (by omega)) (nt_vm Vv1 (by omega))) (by omega)
            · exact nt_fk (n_X10_isRevocationOf Rh10 (nt_am Aa13 (by omega)) (nt_vm Vv1 (by omega))) (by omega)
      · refine nt_ite ?_ ?_
        · exact nt_fk (n_X7_revokesAlone_c41 hr2 Rh14 (nt_am At0 (by omega)) (nt_vm Vv1 (by omega)) _) (by omega)
        · exact nt_zr Rh14 _ rfl (by omega)
theorem n_X7_revokesAlone_b2 {ρ : Nat → Nat} {D F : Nat → Prop} {h0 : nk_H} {u v : Nat}   : ∀ (n : Nat) {g h : nk_H} (R : nt_R ρ D F h0 u v h g) {a1 b1 : Nat} (A1 : nt_A ρ D (nk_N g) a1 b1) {p2 q2 : Option Nat} (V2 : nt_V ρ D (nk_N g) p2 q2) (i3 : Int32), nt_F ρ D F h0 u v (nk_N g) nt_q (f_X7_revokesAlone_b2 n g a1 p2 i3) (f_X7_revokesAlone_b2 n h b1 q2 i3)
  | 0, _, _, _, _, _, _, _, _, _, _ => nt_none
  | n + 1, _, _, R, _, _, A1, _, _, V2, i3 => n_X7_revokesAlone_c2 (fun g h a1 b1 p2 q2 i3 R A1 V2 => n_X7_revokesAlone_b2 n R A1 V2 i3) R A1 V2 i3
theorem n_X7_revokesAlone {ρ : Nat → Nat} {D F : Nat → Prop} {h0 : nk_H} {u v : Nat}   {h yh : nk_H} (Rh : nt_R ρ D F h0 u v yh h) {t0 yt0 : Nat} (At0 : nt_A ρ D (nk_N h) t0 yt0) {v1 yv1 : Option Nat} (Vv1 : nt_V ρ D (nk_N h) v1 yv1) : nt_F ρ D F h0 u v (nk_N h) nt_q (f_X7_revokesAlone h t0 v1) (f_X7_revokesAlone yh yt0 yv1) := by
  unfold f_X7_revokesAlone
  exact nt_fk (n_X7_revokesAlone_b2 _ Rh (nt_am At0 (by omega)) (nt_vm Vv1 (by omega)) _) (by omega)
theorem n_X7_revokes_c2 {ρ : Nat → Nat} {D F : Nat → Prop} {h0 : nk_H} {u v : Nat} {r2 r2' : nk_H → Nat → Option Nat → Option (nk_H × Int32)} (hr2 : ∀ (g h : nk_H) (a1 b1 : Nat) (p2 q2 : Option Nat), nt_R ρ D F h0 u v h g → nt_A ρ D (nk_N g) a1 b1 → nt_V ρ D (nk_N g) p2 q2 → nt_F ρ D F h0 u v (nk_N g) nt_q (r2 g a1 p2) (r2' h b1 q2)) {h yh : nk_H} (Rh : nt_R ρ D F h0 u v yh h) {t0 yt0 : Nat} (At0 : nt_A ρ D (nk_N h) t0 yt0) {v2 yv2 : Option Nat} (Vv2 : nt_V ρ D (nk_N h) v2 yv2) : nt_F ρ D F h0 u v (nk_N h) nt_q (f_X7_revokes_c2 r2 h t0 v2) (f_X7_revokes_c2 r2' yh yt0 yv2) := by
  unfold f_X7_revokes_c2
  refine nt_iteP (nt_eq Rh Vv2 (nt_vn (n := 0))) ?_ ?_
  · exact nt_zr Rh _ rfl (by omega)
  · refine nt_rcv Rh (nt_vS At0) (fun a1 ya1 Aa1 => ?_)
    refine nt_doE (n_X7_revokesAlone Rh (nt_am Aa1 (by omega)) (nt_vm Vv2 (by omega))) (fun h2 yh2 x3 Rh2 Lh2 => ?_)
    refine nt_ite ?_ ?_
    · refine nt_gP Rh2 Vv2 (fun x4 yx4 Vx4 => ?_)
      exact nt_fk (hr2 _ _ _ _ _ _ Rh2 (nt_am At0 (by omega)) (nt_vm Vx4 (by omega))) (by omega)
    · exact nt_zr Rh2 _ rfl (by omega)
theorem n_X7_revokes_b2 {ρ : Nat → Nat} {D F : Nat → Prop} {h0 : nk_H} {u v : Nat}   : ∀ (n : Nat) {g h : nk_H} (R : nt_R ρ D F h0 u v h g) {a1 b1 : Nat} (A1 : nt_A ρ D (nk_N g) a1 b1) {p2 q2 : Option Nat} (V2 : nt_V ρ D (nk_N g) p2 q2), nt_F ρ D F h0 u v (nk_N g) nt_q (f_X7_revokes_b2 n g a1 p2) (f_X7_revokes_b2 n h b1 q2)
  | 0, _, _, _, _, _, _, _, _, _ => nt_none
  | n + 1, _, _, R, _, _, A1, _, _, V2 => n_X7_revokes_c2 (fun g h a1 b1 p2 q2 R A1 V2 => n_X7_revokes_b2 n R A1 V2) R A1 V2
theorem n_X7_revokes {ρ : Nat → Nat} {D F : Nat → Prop} {h0 : nk_H} {u v : Nat}   {h yh : nk_H} (Rh : nt_R ρ D F h0 u v yh h) {t0 yt0 : Nat} (At0 : nt_A ρ D (nk_N h) t0 yt0) {v1 yv1 : Option Nat} (Vv1 : nt_V ρ D (nk_N h) v1 yv1) : nt_F ρ D F h0 u v (nk_N h) nt_q (f_X7_revokes h t0 v1) (f_X7_revokes yh yt0 yv1) := by
  unfold f_X7_revokes
  exact nt_fk (n_X7_revokes_b2 _ Rh (nt_am At0 (by omega)) (nt_vm Vv1 (by omega))) (by omega)
theorem n_X8_amountBy {ρ : Nat → Nat} {D F : Nat → Prop} {h0 : nk_H} {u v : Nat}   {h yh : nk_H} (Rh : nt_R ρ D F h0 u v yh h) {t0 yt0 : Nat} (At0 : nt_A ρ D (nk_N h) t0 yt0) {v1 yv1 : Option Nat} (Vv1 : nt_V ρ D (nk_N h) v1 yv1) : nt_F ρ D F h0 u v (nk_N h) nt_q (f_X8_amountBy h t0 v1) (f_X8_amountBy yh yt0 yv1) := by
  unfold f_X8_amountBy
  exact nt_ret Rh rfl (by omega)
theorem n_X7_doneWith_c41 {ρ : Nat → Nat} {D F : Nat → Prop} {h0 : nk_H} {u v : Nat} {r4 r4' : nk_H → Nat → Option Nat → Int32 → Int32 → Option (nk_H × Int32)} (hr4 : ∀ (g h : nk_H) (a1 b1 : Nat) (p2 q2 : Option Nat) (i3 : Int32) (i4 : Int32), nt_R ρ D F h0 u v h g → nt_A ρ D (nk_N g) a1 b1 → nt_V ρ D (nk_N g) p2 q2 → nt_F ρ D F h0 u v (nk_N g) nt_q (r4 g a1 p2 i3 i4) (r4' h b1 q2 i3 i4)) {h yh : nk_H} (Rh : nt_R ρ D F h0 u v yh h) {t0 yt0 : Nat} (At0 : nt_A ρ D (nk_N h) t0 yt0) {v1 yv1 : Option Nat} (Vv1 : nt_V ρ D (nk_N h) v1 yv1) (v2 : Int32) (v3 : Int32) : nt_F ρ D F h0 u v (nk_N h) nt_q (f_X7_doneWith_c41 r4 h t0 v1 v2 v3) (f_X7_doneWith_c41 r4' yh yt0 yv1 v2 v3) := by
  unfold f_X7_doneWith_c41
  exact nt_fk (hr4 _ _ _ _ _ _ _ _ Rh (nt_am At0 (by omega)) (nt_vm Vv1 (by omega))) (by omega)
theorem n_X7_doneWith_c4 {ρ : Nat → Nat} {D F : Nat → Prop} {h0 : nk_H} {u v : Nat} {r4 r4' : nk_H → Nat → Option Nat → Int32 → Int32 → Option (nk_H × Int32)} (hr4 : ∀ (g h : nk_H) (a1 b1 : Nat) (p2 q2 : Option Nat) (i3 : Int32) (i4 : Int32), nt_R ρ D F h0 u v h g → nt_A ρ D (nk_N g) a1 b1 → nt_V ρ D (nk_N g) p2 q2 → nt_F ρ D F h0 u v (nk_N g) nt_q (r4 g a1 p2 i3 i4) (r4' h b1 q2 i3 i4)) {h yh : nk_H} (Rh : nt_R ρ D F h0 u v yh h) {t0 yt0 : Nat} (At0 : nt_A ρ D (nk_N h) t0 yt0) {v1 yv1 : Option Nat} (Vv1 : nt_V ρ D (nk_N h) v1 yv1) (v2 : Int32) (v3 : Int32) : nt_F ρ D F h0 u v (nk_N h) nt_q (f_X7_doneWith_c4 r4 h t0 v1 v2 v3) (f_X7_doneWith_c4 r4' yh yt0 yv1 v2 v3) := by
  unfold f_X7_doneWith_c4
  refine nt_gP Rh (nt_vS At0) (fun x1 yx1 Vx1 => ?_)
  refine nt_rcv Rh Vx1 (fun a2 ya2 Aa2 => ?_)
  refine nt_doE (n_Jx4a65c_size_8abf5 Rh (nt_am Aa2 (by omega))) (fun h3 yh3 x4 Rh3 Lh3 => ?_)
  refine nt_ite ?_ ?_
  · exact nt_ret Rh3 rfl (by omega)
  · refine nt_rcv Rh3 (nt_vS At0) (fun a5 ya5 Aa5 => ?_)
    refine nt_doE (n_X7_sees Rh3 (nt_am Aa5 (by omega)) _) (fun h6 yh6 x7 Rh6 Lh6 => ?_)
    refine nt_ite ?_ ?_
    · exact nt_fk (n_X7_doneWith_c41 hr4 Rh6 (nt_am At0 (by omega)) (nt_vm Vv1 (by omega)) _ _) (by omega)
    · refine nt_gP Rh6 (nt_vS At0) (fun x8 yx8 Vx8 => ?_)
      refine nt_rcv Rh6 Vx8 (fun a9 ya9 Aa9 => ?_)
      refine nt_doV (n_Jx4a65c_get_915e3 Rh6 (nt_am Aa9 (by omega)) _) (fun h10 yh10 x11 yx11 Rh10 Vx11 Lh10 => ?_)
      refine nt_cc Rh10 Vx11 ?_
      refine nt_rcv Rh10 Vx11 (fun a13 ya13 Aa13 => ?_)
      refine nt_doE (k' := nk_N h10) ?_ (fun h14 yh14 x15 Rh14 Lh14 => ?_)
      · refine nt_iteP (nt_k Rh10 Aa13 8) ?_ ?_
        · exact nt_fk (n_X0_amountBy Rh10 (nt_am Aa13 (by omega)) (nt_vm Vv1 (by omega))) (by omega)
        · refine nt_iteP (nt_k Rh10 Aa13 12) ?_ ?_
          · exact nt_fk (n_X8_amountBy Rh10 (nt_am Aa13 (by omega)) (nt_vm Vv1 (by omega))) (by omega)
          · refine nt_iteP (nt_k Rh10 Aa13 16) ?_ ?_
            · exact nt_fk (n_X8_amountBy Rh10 (nt_am Aa13 (by omega)) (nt_vm Vv1 (by omega))) (by omega)
            · exact nt_fk (n_X8_amountBy Rh10 (nt_am Aa13 (by omega)) (nt_vm Vv1 (by omega))) (by omega)
      · exact nt_fk (n_X7_doneWith_c41 hr4 Rh14 (nt_am At0 (by omega)) (nt_vm Vv1 (by omega)) _ _) (by omega)
theorem n_X7_doneWith_b4 {ρ : Nat → Nat} {D F : Nat → Prop} {h0 : nk_H} {u v : Nat}   : ∀ (n : Nat) {g h : nk_H} (R : nt_R ρ D F h0 u v h g) {a1 b1 : Nat} (A1 : nt_A ρ D (nk_N g) a1 b1) {p2 q2 : Option Nat} (V2 : nt_V ρ D (nk_N g) p2 q2) (i3 : Int32) (i4 : Int32), nt_F ρ D F h0 u v (nk_N g) nt_q (f_X7_doneWith_b4 n g a1 p2 i3 i4) (f_X7_doneWith_b4 n h b1 q2 i3 i4)
  | 0, _, _, _, _, _, _, _, _, _, _, _ => nt_none
  | n + 1, _, _, R, _, _, A1, _, _, V2, i3, i4 => n_X7_doneWith_c4 (fun g h a1 b1 p2 q2 i3 i4 R A1 V2 => n_X7_doneWith_b4 n R A1 V2 i3 i4) R A1 V2 i3 i4
theorem n_X7_doneWith {ρ : Nat → Nat} {D F : Nat → Prop} {h0 : nk_H} {u v : Nat}   {h yh : nk_H} (Rh : nt_R ρ D F h0 u v yh h) {t0 yt0 : Nat} (At0 : nt_A ρ D (nk_N h) t0 yt0) {v1 yv1 : Option Nat} (Vv1 : nt_V ρ D (nk_N h) v1 yv1) : nt_F ρ D F h0 u v (nk_N h) nt_q (f_X7_doneWith h t0 v1) (f_X7_doneWith yh yt0 yv1) := by
  unfold f_X7_doneWith
  exact nt_fk (n_X7_doneWith_b4 _ Rh (nt_am At0 (by omega)) (nt_vm Vv1 (by omega)) _ _) (by omega)
theorem n_X7_wouldPassTotal_c2 {ρ : Nat → Nat} {D F : Nat → Prop} {h0 : nk_H} {u v : Nat} {r2 r2' : nk_H → Nat → Int32 → Option Nat → Option (nk_H × Int32)} (hr2 : ∀ (g h : nk_H) (a1 b1 : Nat) (i2 : Int32) (p3 q3 : Option Nat), nt_R ρ D F h0 u v h g → nt_A ρ D (nk_N g) a1 b1 → nt_V ρ D (nk_N g) p3 q3 → nt_F ρ D F h0 u v (nk_N g) nt_q (r2 g a1 i2 p3) (r2' h b1 i2 q3)) {h yh : nk_H} (Rh : nt_R ρ D F h0 u v yh h) {t0 yt0 : Nat} (At0 : nt_A ρ D (nk_N h) t0 yt0) (v2 : Int32) {v3 yv3 : Option Nat} (Vv3 : nt_V ρ D (nk_N h) v3 yv3) : nt_F ρ D F h0 u v (nk_N h) nt_q (f_X7_wouldPassTotal_c2 r2 h t0 v2 v3) (f_X7_wouldPassTotal_c2 r2' yh yt0 v2 yv3) := by
  unfold f_X7_wouldPassTotal_c2
  refine nt_iteP (nt_eq Rh Vv3 (nt_vn (n := 0))) ?_ ?_
  · exact nt_zr Rh _ rfl (by omega)
  · refine nt_rcv Rh (nt_vS At0) (fun a1 ya1 Aa1 => ?_)
    refine nt_doE (n_X7_doneWith Rh (nt_am Aa1 (by omega)) (nt_vm Vv3 (by omega))) (fun h2 yh2 x3 Rh2 Lh2 => ?_)
    refine nt_gI Rh2 Vv3 (fun x4 => ?_)
    refine nt_ite ?_ ?_
    · refine nt_gP Rh2 Vv3 (fun x5 yx5 Vx5 => ?_)
      exact nt_fk (hr2 _ _ _ _ _ _ _ Rh2 (nt_am At0 (by omega)) (nt_vm Vx5 (by omega))) (by omega)
    · exact nt_zr Rh2 _ rfl (by omega)
theorem n_X7_wouldPassTotal_b2 {ρ : Nat → Nat} {D F : Nat → Prop} {h0 : nk_H} {u v : Nat}   : ∀ (n : Nat) {g h : nk_H} (R : nt_R ρ D F h0 u v h g) {a1 b1 : Nat} (A1 : nt_A ρ D (nk_N g) a1 b1) (i2 : Int32) {p3 q3 : Option Nat} (V3 : nt_V ρ D (nk_N g) p3 q3), nt_F ρ D F h0 u v (nk_N g) nt_q (f_X7_wouldPassTotal_b2 n g a1 i2 p3) (f_X7_wouldPassTotal_b2 n h b1 i2 q3)
  | 0, _, _, _, _, _, _, _, _, _, _ => nt_none
  | n + 1, _, _, R, _, _, A1, i2, _, _, V3 => n_X7_wouldPassTotal_c2 (fun g h a1 b1 i2 p3 q3 R A1 V3 => n_X7_wouldPassTotal_b2 n R A1 i2 V3) R A1 i2 V3
theorem n_X7_wouldPassTotal {ρ : Nat → Nat} {D F : Nat → Prop} {h0 : nk_H} {u v : Nat}   {h yh : nk_H} (Rh : nt_R ρ D F h0 u v yh h) {t0 yt0 : Nat} (At0 : nt_A ρ D (nk_N h) t0 yt0) {v1 yv1 : Option Nat} (Vv1 : nt_V ρ D (nk_N h) v1 yv1) (v2 : Int32) : nt_F ρ D F h0 u v (nk_N h) nt_q (f_X7_wouldPassTotal h t0 v1 v2) (f_X7_wouldPassTotal yh yt0 yv1 v2) := by
  unfold f_X7_wouldPassTotal
  exact nt_fk (n_X7_wouldPassTotal_b2 _ Rh (nt_am At0 (by omega)) _ (nt_vm Vv1 (by omega))) (by omega)
theorem n_X8_isDeputation {ρ : Nat → Nat} {D F : Nat → Prop} {h0 : nk_H} {u v : Nat}   {h yh : nk_H} (Rh : nt_R ρ D F h0 u v yh h) {t0 yt0 : Nat} (At0 : nt_A ρ D (nk_N h) t0 yt0) (v1 : Int32) (v2 : Int32) (v3 : Int32) : nt_F ρ D F h0 u v (nk_N h) nt_q (f_X8_isDeputation h t0 v1 v2 v3) (f_X8_isDeputation yh yt0 v1 v2 v3) := by
  unfold f_X8_isDeputation
  exact nt_zr Rh _ rfl (by omega)
theorem n_X7_deputes_c47 {ρ : Nat → Nat} {D F : Nat → Prop} {h0 : nk_H} {u v : Nat} {r3 r3' : nk_H → Nat → Int32 → Int32 → Int32 → Int32 → Option (nk_H × Int32)} (hr3 : ∀ (g h : nk_H) (a1 b1 : Nat) (i2 : Int32) (i3 : Int32) (i4 : Int32) (i5 : Int32), nt_R ρ D F h0 u v h g → nt_A ρ D (nk_N g) a1 b1 → nt_F ρ D F h0 u v (nk_N g) nt_q (r3 g a1 i2 i3 i4 i5) (r3' h b1 i2 i3 i4 i5)) {h yh : nk_H} (Rh : nt_R ρ D F h0 u v yh h) {t0 yt0 : Nat} (At0 : nt_A ρ D (nk_N h) t0 yt0) (v1 : Int32) (v2 : Int32) (v3 : Int32) (v4 : Int32) : nt_F ρ D F h0 u v (nk_N h) nt_q (f_X7_deputes_c47 r3 h t0 v1 v2 v3 v4) (f_X7_deputes_c47 r3' yh yt0 v1 v2 v3 v4) := by
  unfold f_X7_deputes_c47
  exact nt_fk (hr3 _ _ _ _ _ _ _ _ Rh (nt_am At0 (by omega))) (by omega)
theorem n_X7_deputes_c3 {ρ : Nat → Nat} {D F : Nat → Prop} {h0 : nk_H} {u v : Nat} {r3 r3' : nk_H → Nat → Int32 → Int32 → Int32 → Int32 → Option (nk_H × Int32)} (hr3 : ∀ (g h : nk_H) (a1 b1 : Nat) (i2 : Int32) (i3 : Int32) (i4 : Int32) (i5 : Int32), nt_R ρ D F h0 u v h g → nt_A ρ D (nk_N g) a1 b1 → nt_F ρ D F h0 u v (nk_N g) nt_q (r3 g a1 i2 i3 i4 i5) (r3' h b1 i2 i3 i4 i5)) {h yh : nk_H} (Rh : nt_R ρ D F h0 u v yh h) {t0 yt0 : Nat} (At0 : nt_A ρ D (nk_N h) t0 yt0) (v1 : Int32) (v2 : Int32) (v3 : Int32) (v4 : Int32) : nt_F ρ D F h0 u v (nk_N h) nt_q (f_X7_deputes_c3 r3 h t0 v1 v2 v3 v4) (f_X7_deputes_c3 r3' yh yt0 v1 v2 v3 v4) := by
  unfold f_X7_deputes_c3
  refine nt_gP Rh (nt_vS At0) (fun x1 yx1 Vx1 => ?_)
  refine nt_rcv Rh Vx1 (fun a2 ya2 Aa2 => ?_)
  refine nt_doE (n_Jx4a65c_size_8abf5 Rh (nt_am Aa2 (by omega))) (fun h3 yh3 x4 Rh3 Lh3 => ?_)
  refine nt_ite ?_ ?_
  · exact nt_zr Rh3 _ rfl (by omega)
  · refine nt_rcv Rh3 (nt_vS At0) (fun a5 ya5 Aa5 => ?_)
    refine nt_doE (n_X7_sees Rh3 (nt_am Aa5 (by omega)) _) (fun h6 yh6 x7 Rh6 Lh6 => ?_)
    refine nt_ite ?_ ?_
    · exact nt_fk (n_X7_deputes_c47 hr3 Rh6 (nt_am At0 (by omega)) _ _ _ _) (by omega)
    · refine nt_gP Rh6 (nt_vS At0) (fun x8 yx8 Vx8 => ?_)
      refine nt_rcv Rh6 Vx8 (fun a9 ya9 Aa9 => ?_)
      refine nt_doV (n_Jx4a65c_get_915e3 Rh6 (nt_am Aa9 (by omega)) _) (fun h10 yh10 x11 yx11 Rh10 Vx11 Lh10 => ?_)
      refine nt_cc Rh10 Vx11 ?_
      refine nt_rcv Rh10 Vx11 (fun a13 ya13 Aa13 => ?_)
      refine nt_doE (k' := nk_N h10) ?_ (fun h14 yh14 x15 Rh14 Lh14 => ?_)
      · refine nt_iteP (nt_k Rh10 Aa13 8) ?_ ?_
        · exact nt_fk (n_X8_isDeputation Rh10 (nt_am Aa13 (by omega)) _ _ _) (by omega)
        · refine nt_iteP (nt_k Rh10 Aa13 12) ?_ ?_
          · exact nt_fk (n_X4_isDeputation Rh10 (nt_am Aa13 (by omega)) _ _ _) (by omega)
          · refine nt_iteP (nt_k Rh10 Aa13 16) ?_ ?_
            · exact nt_fk (n_X8_isDeputation Rh10 (nt_am Aa13 (by omega)) _ _ _) (by omega)
            · exact nt_fk (n_X8_isDeputation Rh10 (nt_am Aa13 (by omega)) _ _ _) (by omega)
      · refine nt_ite ?_ ?_
        · exact nt_fk (n_X7_deputes_c47 hr3 Rh14 (nt_am At0 (by omega)) _ _ _ _) (by omega)
        · exact nt_zr Rh14 _ rfl (by omega)
theorem n_X7_deputes_b3 {ρ : Nat → Nat} {D F : Nat → Prop} {h0 : nk_H} {u v : Nat}   : ∀ (n : Nat) {g h : nk_H} (R : nt_R ρ D F h0 u v h g) {a1 b1 : Nat} (A1 : nt_A ρ D (nk_N g) a1 b1) (i2 : Int32) (i3 : Int32) (i4 : Int32) (i5 : Int32), nt_F ρ D F h0 u v (nk_N g) nt_q (f_X7_deputes_b3 n g a1 i2 i3 i4 i5) (f_X7_deputes_b3 n h b1 i2 i3 i4 i5)
  | 0, _, _, _, _, _, _, _, _, _, _ => nt_none
  | n + 1, _, _, R, _, _, A1, i2, i3, i4, i5 => n_X7_deputes_c3 (fun g h a1 b1 i2 i3 i4 i5 R A1 => n_X7_deputes_b3 n R A1 i2 i3 i4 i5) R A1 i2 i3 i4 i5
theorem n_X7_deputes {ρ : Nat → Nat} {D F : Nat → Prop} {h0 : nk_H} {u v : Nat}   {h yh : nk_H} (Rh : nt_R ρ D F h0 u v yh h) {t0 yt0 : Nat} (At0 : nt_A ρ D (nk_N h) t0 yt0) (v1 : Int32) (v2 : Int32) (v3 : Int32) : nt_F ρ D F h0 u v (nk_N h) nt_q (f_X7_deputes h t0 v1 v2 v3) (f_X7_deputes yh yt0 v1 v2 v3) := by
  unfold f_X7_deputes
  exact nt_fk (n_X7_deputes_b3 _ Rh (nt_am At0 (by omega)) _ _ _ _) (by omega)
theorem n_X7_officerAt_c15 {ρ : Nat → Nat} {D F : Nat → Prop} {h0 : nk_H} {u v : Nat}   {h yh : nk_H} (Rh : nt_R ρ D F h0 u v yh h) (s0 : Int32) : nt_F ρ D F h0 u v (nk_N h) nt_q (f_X7_officerAt_c15 h s0) (f_X7_officerAt_c15 yh s0) := by
  unfold f_X7_officerAt_c15
  exact nt_ret Rh rfl (by omega)
theorem n_X7_officerAt {ρ : Nat → Nat} {D F : Nat → Prop} {h0 : nk_H} {u v : Nat}   {h yh : nk_H} (Rh : nt_R ρ D F h0 u v yh h) {t0 yt0 : Nat} (At0 : nt_A ρ D (nk_N h) t0 yt0) (v1 : Int32) (v2 : Int32) : nt_F ρ D F h0 u v (nk_N h) nt_q (f_X7_officerAt h t0 v1 v2) (f_X7_officerAt yh yt0 v1 v2) := by
  unfold f_X7_officerAt
  refine nt_rcv Rh (nt_vS At0) (fun a1 ya1 Aa1 => ?_)
  refine nt_doE (n_X7_deputes Rh (nt_am Aa1 (by omega)) _ _ _) (fun h2 yh2 x3 Rh2 Lh2 => ?_)
  refine nt_ite ?_ ?_
  · exact nt_fk (n_X7_officerAt_c15 Rh2 _) (by omega)
  · exact nt_fk (n_X7_officerAt_c15 Rh2 _) (by omega)
theorem n_X9_isOver_c2 {ρ : Nat → Nat} {D F : Nat → Prop} {h0 : nk_H} {u v : Nat} {r2 r2' : nk_H → Int32 → Option Nat → Option (nk_H × Int32)} (hr2 : ∀ (g h : nk_H) (i1 : Int32) (p2 q2 : Option Nat), nt_R ρ D F h0 u v h g → nt_V ρ D (nk_N g) p2 q2 → nt_F ρ D F h0 u v (nk_N g) nt_q (r2 g i1 p2) (r2' h i1 q2)) {h yh : nk_H} (Rh : nt_R ρ D F h0 u v yh h) (v1 : Int32) {v2 yv2 : Option Nat} (Vv2 : nt_V ρ D (nk_N h) v2 yv2) : nt_F ρ D F h0 u v (nk_N h) nt_q (f_X9_isOver_c2 r2 h v1 v2) (f_X9_isOver_c2 r2' yh v1 yv2) := by
  unfold f_X9_isOver_c2
  refine nt_iteP (nt_eq Rh Vv2 (nt_vn (n := 0))) ?_ ?_
  · exact nt_zr Rh _ rfl (by omega)
  · refine nt_gI Rh Vv2 (fun x1 => ?_)
    refine nt_ite ?_ ?_
    · refine nt_gP Rh Vv2 (fun x2 yx2 Vx2 => ?_)
      exact nt_fk (hr2 _ _ _ _ _ Rh (nt_vm Vx2 (by omega))) (by omega)
    · exact nt_zr Rh _ rfl (by omega)
theorem n_X9_isOver_b2 {ρ : Nat → Nat} {D F : Nat → Prop} {h0 : nk_H} {u v : Nat}   : ∀ (n : Nat) {g h : nk_H} (R : nt_R ρ D F h0 u v h g) (i1 : Int32) {p2 q2 : Option Nat} (V2 : nt_V ρ D (nk_N g) p2 q2), nt_F ρ D F h0 u v (nk_N g) nt_q (f_X9_isOver_b2 n g i1 p2) (f_X9_isOver_b2 n h i1 q2)
  | 0, _, _, _, _, _, _, _ => nt_none
  | n + 1, _, _, R, i1, _, _, V2 => n_X9_isOver_c2 (fun g h i1 p2 q2 R V2 => n_X9_isOver_b2 n R i1 V2) R i1 V2
theorem n_X9_isOver {ρ : Nat → Nat} {D F : Nat → Prop} {h0 : nk_H} {u v : Nat}   {h yh : nk_H} (Rh : nt_R ρ D F h0 u v yh h) {t0 yt0 : Nat} (At0 : nt_A ρ D (nk_N h) t0 yt0) (v1 : Int32) : nt_F ρ D F h0 u v (nk_N h) nt_q (f_X9_isOver h t0 v1) (f_X9_isOver yh yt0 v1) := by
  unfold f_X9_isOver
  exact nt_fk (n_X9_isOver_b2 _ Rh _ (nt_vS (nt_am At0 (by omega)))) (by omega)
theorem n_X9_limitsBelow_c2 {ρ : Nat → Nat} {D F : Nat → Prop} {h0 : nk_H} {u v : Nat} {r2 r2' : nk_H → Int32 → Option Nat → Option (nk_H × Int32)} (hr2 : ∀ (g h : nk_H) (i1 : Int32) (p2 q2 : Option Nat), nt_R ρ D F h0 u v h g → nt_V ρ D (nk_N g) p2 q2 → nt_F ρ D F h0 u v (nk_N g) nt_q (r2 g i1 p2) (r2' h i1 q2)) {h yh : nk_H} (Rh : nt_R ρ D F h0 u v yh h) (v1 : Int32) {v2 yv2 : Option Nat} (Vv2 : nt_V ρ D (nk_N h) v2 yv2) : nt_F ρ D F h0 u v (nk_N h) nt_q (f_X9_limitsBelow_c2 r2 h v1 v2) (f_X9_limitsBelow_c2 r2' yh v1 yv2) := by
  unfold f_X9_limitsBelow_c2
  refine nt_iteP (nt_eq Rh Vv2 (nt_vn (n := 0))) ?_ ?_
  · exact nt_zr Rh _ rfl (by omega)
  · refine nt_gI Rh Vv2 (fun x1 => ?_)
    refine nt_ite ?_ ?_
    · refine nt_gP Rh Vv2 (fun x2 yx2 Vx2 => ?_)
      exact nt_fk (hr2 _ _ _ _ _ Rh (nt_vm Vx2 (by omega))) (by omega)
    · exact nt_zr Rh _ rfl (by omega)
theorem n_X9_limitsBelow_b2 {ρ : Nat → Nat} {D F : Nat → Prop} {h0 : nk_H} {u v : Nat}   : ∀ (n : Nat) {g h : nk_H} (R : nt_R ρ D F h0 u v h g) (i1 : Int32) {p2 q2 : Option Nat} (V2 : nt_V ρ D (nk_N g) p2 q2), nt_F ρ D F h0 u v (nk_N g) nt_q (f_X9_limitsBelow_b2 n g i1 p2) (f_X9_limitsBelow_b2 n h i1 q2)
  | 0, _, _, _, _, _, _, _ => nt_none
  | n + 1, _, _, R, i1, _, _, V2 => n_X9_limitsBelow_c2 (fun g h i1 p2 q2 R V2 => n_X9_limitsBelow_b2 n R i1 V2) R i1 V2
theorem n_X9_limitsBelow {ρ : Nat → Nat} {D F : Nat → Prop} {h0 : nk_H} {u v : Nat}   {h yh : nk_H} (Rh : nt_R ρ D F h0 u v yh h) {t0 yt0 : Nat} (At0 : nt_A ρ D (nk_N h) t0 yt0) (v1 : Int32) : nt_F ρ D F h0 u v (nk_N h) nt_q (f_X9_limitsBelow h t0 v1) (f_X9_limitsBelow yh yt0 v1) := by
  unfold f_X9_limitsBelow
  exact nt_fk (n_X9_limitsBelow_b2 _ Rh _ (nt_vS (nt_am At0 (by omega)))) (by omega)
theorem n_X7_reasonAgainst_c116 {ρ : Nat → Nat} {D F : Nat → Prop} {h0 : nk_H} {u v : Nat}   {h yh : nk_H} (Rh : nt_R ρ D F h0 u v yh h) (s0 : Int32) : nt_F ρ D F h0 u v (nk_N h) nt_q (f_X7_reasonAgainst_c116 h s0) (f_X7_reasonAgainst_c116 yh s0) := by
  unfold f_X7_reasonAgainst_c116
  exact nt_ret Rh rfl (by omega)
theorem n_X7_reasonAgainst {ρ : Nat → Nat} {D F : Nat → Prop} {h0 : nk_H} {u v : Nat}   {h yh : nk_H} (Rh : nt_R ρ D F h0 u v yh h) {t0 yt0 : Nat} (At0 : nt_A ρ D (nk_N h) t0 yt0) {v1 yv1 : Option Nat} (Vv1 : nt_V ρ D (nk_N h) v1 yv1) {v2 yv2 : Option Nat} (Vv2 : nt_V ρ D (nk_N h) v2 yv2) : nt_F ρ D F h0 u v (nk_N h) nt_q (f_X7_reasonAgainst h t0 v1 v2) (f_X7_reasonAgainst yh yt0 yv1 yv2) := by
  unfold f_X7_reasonAgainst
  refine nt_rcv Rh (nt_vS At0) (fun a1 ya1 Aa1 => ?_)
  refine nt_doE (n_X7_knows Rh (nt_am Aa1 (by omega)) (nt_vm Vv1 (by omega))) (fun h2 yh2 x3 Rh2 Lh2 => ?_)
  refine nt_ite ?_ ?_
  · exact nt_ret Rh2 rfl (by omega)
  · refine nt_gI Rh2 Vv2 (fun x4 => ?_)
    refine nt_gI Rh2 Vv1 (fun x5 => ?_)
    refine nt_ite ?_ ?_
    · refine nt_rcv Rh2 (nt_vS At0) (fun a6 ya6 Aa6 => ?_)
      refine nt_doE (n_X7_revokes Rh2 (nt_am Aa6 (by omega)) (nt_vm Vv1 (by omega))) (fun h7 yh7 x8 Rh7 Lh7 => ?_)
      refine nt_ite ?_ ?_
      · refine nt_gI Rh7 Vv2 (fun x9 => ?_)
        refine nt_rcv Rh7 Vv1 (fun a10 ya10 Aa10 => ?_)
        refine nt_doE (n_X9_isOver Rh7 (nt_am Aa10 (by omega)) _) (fun h11 yh11 x12 Rh11 Lh11 => ?_)
        refine nt_ite ?_ ?_
        · refine nt_gI Rh11 Vv1 (fun x13 => ?_)
          refine nt_gI Rh11 Vv2 (fun x14 => ?_)
          refine nt_doE (n_X11_hasBit Rh11 _ _) (fun h15 yh15 x16 Rh15 Lh15 => ?_)
          refine nt_ite ?_ ?_
          · exact nt_ret Rh15 rfl (by omega)
          · refine nt_gI Rh15 Vv2 (fun x17 => ?_)
            refine nt_rcv Rh15 Vv1 (fun a18 ya18 Aa18 => ?_)
            refine nt_doE (n_X9_limitsBelow Rh15 (nt_am Aa18 (by omega)) _) (fun h19 yh19 x20 Rh19 Lh19 => ?_)
            refine nt_ite ?_ ?_
            · refine nt_gI Rh19 Vv2 (fun x21 => ?_)
              refine nt_rcv Rh19 (nt_vS At0) (fun a22 ya22 Aa22 => ?_)
              refine nt_doE (n_X7_wouldPassTotal Rh19 (nt_am Aa22 (by omega)) (nt_vm Vv1 (by omega)) _) (fun h23 yh23 x24 Rh23 Lh23 => ?_)
              refine nt_ite ?_ ?_
              · refine nt_gI Rh23 Vv2 (fun x25 => ?_)
                refine nt_gI Rh23 Vv2 (fun x26 => ?_)
                refine nt_gI Rh23 Vv2 (fun x27 => ?_)
                refine nt_rcv Rh23 (nt_vS At0) (fun a28 ya28 Aa28 => ?_)
                refine nt_doE (n_X7_officerAt Rh23 (nt_am Aa28 (by omega)) _ _) (fun h29 yh29 x30 Rh29 Lh29 => ?_)
                refine nt_ite ?_ ?_
                · exact nt_fk (n_X7_reasonAgainst_c116 Rh29 _) (by omega)
                · exact nt_fk (n_X7_reasonAgainst_c116 Rh29 _) (by omega)
              · exact nt_ret Rh23 rfl (by omega)
            · exact nt_ret Rh19 rfl (by omega)
        · exact nt_ret Rh11 rfl (by omega)
      · exact nt_ret Rh7 rfl (by omega)
    · exact nt_ret Rh2 rfl (by omega)
theorem n_X9_init {ρ : Nat → Nat} {D F : Nat → Prop} {h0 : nk_H} {u v : Nat}   {h yh : nk_H} (Rh : nt_R ρ D F h0 u v yh h) {t0 yt0 : Nat} (At0 : nt_A ρ D (nk_N h) t0 yt0) (v1 : Int32) {v2 yv2 : Option Nat} (Vv2 : nt_V ρ D (nk_N h) v2 yv2) (v3 : Int32) (v4 : Int32) {v5 yv5 : Option Nat} (Vv5 : nt_V ρ D (nk_N h) v5 yv5) (v6 : Int32) : nt_F ρ D F h0 u v (nk_N h) nt_q (f_X9_init h t0 v1 v2 v3 v4 v5 v6) (f_X9_init yh yt0 v1 yv2 v3 v4 yv5 v6) := by
  unfold f_X9_init
  refine nt_doE (n_X8_init Rh (nt_am At0 (by omega))) (fun h1 yh1 x2 Rh1 Lh1 => ?_)
  refine nt_pI Rh1 (nt_vS At0) (fun h3 yh3 Rh3 Lh3 => ?_)
  refine nt_pP Rh3 (nt_vS At0) (nt_vm Vv2 (by omega)) (fun h4 yh4 Rh4 Lh4 => ?_)
  refine nt_pI Rh4 (nt_vS At0) (fun h5 yh5 Rh5 Lh5 => ?_)
  refine nt_pI Rh5 (nt_vS At0) (fun h6 yh6 Rh6 Lh6 => ?_)
  refine nt_gI Rh6 Vv5 (fun x7 => ?_)
  refine nt_pI Rh6 (nt_vS At0) (fun h8 yh8 Rh8 Lh8 => ?_)
  refine nt_gI Rh8 Vv5 (fun x9 => ?_)
  refine nt_pI Rh8 (nt_vS At0) (fun h10 yh10 Rh10 Lh10 => ?_)
  refine nt_gI Rh10 Vv5 (fun x11 => ?_)
  refine nt_pI Rh10 (nt_vS At0) (fun h12 yh12 Rh12 Lh12 => ?_)
  refine nt_gI Rh12 Vv5 (fun x13 => ?_)
  refine nt_pI Rh12 (nt_vS At0) (fun h14 yh14 Rh14 Lh14 => ?_)
  refine nt_gI Rh14 Vv5 (fun x15 => ?_)
  refine nt_pI Rh14 (nt_vS At0) (fun h16 yh16 Rh16 Lh16 => ?_)
  exact nt_ret Rh16 rfl (by omega)
theorem n_X9_covers_c65 {ρ : Nat → Nat} {D F : Nat → Prop} {h0 : nk_H} {u v : Nat}   {h yh : nk_H} (Rh : nt_R ρ D F h0 u v yh h) (s0 : Int32) : nt_F ρ D F h0 u v (nk_N h) nt_q (f_X9_covers_c65 h s0) (f_X9_covers_c65 yh s0) := by
  unfold f_X9_covers_c65
  exact nt_zr Rh _ rfl (by omega)
theorem n_X9_covers_c64 {ρ : Nat → Nat} {D F : Nat → Prop} {h0 : nk_H} {u v : Nat}   {h yh : nk_H} (Rh : nt_R ρ D F h0 u v yh h) : nt_F ρ D F h0 u v (nk_N h) nt_q (f_X9_covers_c64 h) (f_X9_covers_c64 yh) := by
  unfold f_X9_covers_c64
  exact nt_fk (n_X9_covers_c65 Rh _) (by omega)
theorem n_X9_covers {ρ : Nat → Nat} {D F : Nat → Prop} {h0 : nk_H} {u v : Nat}   {h yh : nk_H} (Rh : nt_R ρ D F h0 u v yh h) {t0 yt0 : Nat} (At0 : nt_A ρ D (nk_N h) t0 yt0) {v1 yv1 : Option Nat} (Vv1 : nt_V ρ D (nk_N h) v1 yv1) (v2 : Int32) : nt_F ρ D F h0 u v (nk_N h) nt_q (f_X9_covers h t0 v1 v2) (f_X9_covers yh yt0 yv1 v2) := by
  unfold f_X9_covers
  refine nt_gI Rh Vv1 (fun x1 => ?_)
  refine nt_gI Rh (nt_vS At0) (fun x2 => ?_)
  refine nt_ite ?_ ?_
  · refine nt_gI Rh Vv1 (fun x3 => ?_)
    refine nt_gI Rh (nt_vS At0) (fun x4 => ?_)
    refine nt_ite ?_ ?_
    · exact nt_fk (n_X9_covers_c64 Rh) (by omega)
    · refine nt_gI Rh Vv1 (fun x5 => ?_)
      refine nt_gI Rh (nt_vS At0) (fun x6 => ?_)
      refine nt_ite ?_ ?_
      · exact nt_fk (n_X9_covers_c64 Rh) (by omega)
      · refine nt_gI Rh Vv1 (fun x7 => ?_)
        refine nt_gI Rh (nt_vS At0) (fun x8 => ?_)
        refine nt_ite ?_ ?_
        · exact nt_fk (n_X9_covers_c64 Rh) (by omega)
        · refine nt_gI Rh Vv1 (fun x9 => ?_)
          refine nt_gI Rh (nt_vS At0) (fun x10 => ?_)
          refine nt_ite ?_ ?_
          · exact nt_fk (n_X9_covers_c64 Rh) (by omega)
          · exact nt_fk (n_X9_covers_c65 Rh _) (by omega)
  · exact nt_fk (n_X9_covers_c64 Rh) (by omega)
theorem n_X9_hasGiver_c2 {ρ : Nat → Nat} {D F : Nat → Prop} {h0 : nk_H} {u v : Nat} {r2 r2' : nk_H → Int32 → Option Nat → Option (nk_H × Int32)} (hr2 : ∀ (g h : nk_H) (i1 : Int32) (p2 q2 : Option Nat), nt_R ρ D F h0 u v h g → nt_V ρ D (nk_N g) p2 q2 → nt_F ρ D F h0 u v (nk_N g) nt_q (r2 g i1 p2) (r2' h i1 q2)) {h yh : nk_H} (Rh : nt_R ρ D F h0 u v yh h) (v1 : Int32) {v2 yv2 : Option Nat} (Vv2 : nt_V ρ D (nk_N h) v2 yv2) : nt_F ρ D F h0 u v (nk_N h) nt_q (f_X9_hasGiver_c2 r2 h v1 v2) (f_X9_hasGiver_c2 r2' yh v1 yv2) := by
  unfold f_X9_hasGiver_c2
  refine nt_iteP (nt_eq Rh Vv2 (nt_vn (n := 0))) ?_ ?_
  · exact nt_zr Rh _ rfl (by omega)
  · refine nt_gI Rh Vv2 (fun x1 => ?_)
    refine nt_ite ?_ ?_
    · exact nt_zr Rh _ rfl (by omega)
    · refine nt_gP Rh Vv2 (fun x2 yx2 Vx2 => ?_)
      exact nt_fk (hr2 _ _ _ _ _ Rh (nt_vm Vx2 (by omega))) (by omega)
theorem n_X9_hasGiver_b2 {ρ : Nat → Nat} {D F : Nat → Prop} {h0 : nk_H} {u v : Nat}   : ∀ (n : Nat) {g h : nk_H} (R : nt_R ρ D F h0 u v h g) (i1 : Int32) {p2 q2 : Option Nat} (V2 : nt_V ρ D (nk_N g) p2 q2), nt_F ρ D F h0 u v (nk_N g) nt_q (f_X9_hasGiver_b2 n g i1 p2) (f_X9_hasGiver_b2 n h i1 q2)
  | 0, _, _, _, _, _, _, _ => nt_none
  | n + 1, _, _, R, i1, _, _, V2 => n_X9_hasGiver_c2 (fun g h i1 p2 q2 R V2 => n_X9_hasGiver_b2 n R i1 V2) R i1 V2
theorem n_X9_hasGiver {ρ : Nat → Nat} {D F : Nat → Prop} {h0 : nk_H} {u v : Nat}   {h yh : nk_H} (Rh : nt_R ρ D F h0 u v yh h) {t0 yt0 : Nat} (At0 : nt_A ρ D (nk_N h) t0 yt0) (v1 : Int32) : nt_F ρ D F h0 u v (nk_N h) nt_q (f_X9_hasGiver h t0 v1) (f_X9_hasGiver yh yt0 v1) := by
  unfold f_X9_hasGiver
  exact nt_fk (n_X9_hasGiver_b2 _ Rh _ (nt_vS (nt_am At0 (by omega)))) (by omega)
theorem n_X10_init {ρ : Nat → Nat} {D F : Nat → Prop} {h0 : nk_H} {u v : Nat}   {h yh : nk_H} (Rh : nt_R ρ D F h0 u v yh h) {t0 yt0 : Nat} (At0 : nt_A ρ D (nk_N h) t0 yt0) {v1 yv1 : Option Nat} (Vv1 : nt_V ρ D (nk_N h) v1 yv1) : nt_F ρ D F h0 u v (nk_N h) nt_q (f_X10_init h t0 v1) (f_X10_init yh yt0 yv1) := by
  unfold f_X10_init
  refine nt_doE (n_X8_init Rh (nt_am At0 (by omega))) (fun h1 yh1 x2 Rh1 Lh1 => ?_)
  refine nt_pP Rh1 (nt_vS At0) (nt_vm Vv1 (by omega)) (fun h3 yh3 Rh3 Lh3 => ?_)
  exact nt_ret Rh3 rfl (by omega)
theorem n_X11_init_c48 {ρ : Nat → Nat} {D F : Nat → Prop} {h0 : nk_H} {u v : Nat} {r48 r48' : nk_H → Nat → Int32 → Option (nk_H × Unit)} (hr48 : ∀ (g h : nk_H) (a1 b1 : Nat) (i2 : Int32), nt_R ρ D F h0 u v h g → nt_A ρ D (nk_N g) a1 b1 → nt_F ρ D F h0 u v (nk_N g) nt_q (r48 g a1 i2) (r48' h b1 i2)) {h yh : nk_H} (Rh : nt_R ρ D F h0 u v yh h) {t0 yt0 : Nat} (At0 : nt_A ρ D (nk_N h) t0 yt0) (v1 : Int32) : nt_F ρ D F h0 u v (nk_N h) nt_q (f_X11_init_c48 r48 h t0 v1) (f_X11_init_c48 r48' yh yt0 v1) := by
  unfold f_X11_init_c48
  refine nt_ite ?_ ?_
  · refine nt_al Rh (fun h1 yh1 Rh1 Lh1 => ?_)
    refine nt_doE (n_Jx4a65c_init_da8c8 Rh1 (nt_aN Rh (by omega))) (fun h2 yh2 x3 Rh2 Lh2 => ?_)
    refine nt_pP Rh2 (nt_vS At0) (nt_vN Rh (by omega)) (fun h4 yh4 Rh4 Lh4 => ?_)
    refine nt_pI Rh4 (nt_vS At0) (fun h5 yh5 Rh5 Lh5 => ?_)
    refine nt_al Rh5 (fun h6 yh6 Rh6 Lh6 => ?_)
    refine nt_doE (n_X5_init Rh6 (nt_aN Rh5 (by omega)) _ _ _ _ _) (fun h7 yh7 x8 Rh7 Lh7 => ?_)
    refine nt_pP Rh7 (nt_vS At0) (nt_vN Rh5 (by omega)) (fun h9 yh9 Rh9 Lh9 => ?_)
    refine nt_pI Rh9 (nt_vS At0) (fun h10 yh10 Rh10 Lh10 => ?_)
    refine nt_pI Rh10 (nt_vS At0) (fun h11 yh11 Rh11 Lh11 => ?_)
    exact nt_ret Rh11 rfl (by omega)
  · refine nt_gP Rh (nt_vS At0) (fun x12 yx12 Vx12 => ?_)
    refine nt_al Rh (fun h13 yh13 Rh13 Lh13 => ?_)
    refine nt_doE (n_X1_init Rh13 (nt_aN Rh (by omega)) _) (fun h14 yh14 x15 Rh14 Lh14 => ?_)
    refine nt_wP Rh14 Vx12 (nt_vN Rh (by omega)) (fun h16 yh16 Rh16 Lh16 => ?_)
    exact nt_fk (hr48 _ _ _ _ _ Rh16 (nt_am At0 (by omega))) (by omega)
theorem n_X11_init_b48 {ρ : Nat → Nat} {D F : Nat → Prop} {h0 : nk_H} {u v : Nat}   : ∀ (n : Nat) {g h : nk_H} (R : nt_R ρ D F h0 u v h g) {a1 b1 : Nat} (A1 : nt_A ρ D (nk_N g) a1 b1) (i2 : Int32), nt_F ρ D F h0 u v (nk_N g) nt_q (f_X11_init_b48 n g a1 i2) (f_X11_init_b48 n h b1 i2)
  | 0, _, _, _, _, _, _, _ => nt_none
  | n + 1, _, _, R, _, _, A1, i2 => n_X11_init_c48 (fun g h a1 b1 i2 R A1 => n_X11_init_b48 n R A1 i2) R A1 i2
theorem n_X11_init {ρ : Nat → Nat} {D F : Nat → Prop} {h0 : nk_H} {u v : Nat}   {h yh : nk_H} (Rh : nt_R ρ D F h0 u v yh h) {t0 yt0 : Nat} (At0 : nt_A ρ D (nk_N h) t0 yt0) : nt_F ρ D F h0 u v (nk_N h) nt_q (f_X11_init h t0) (f_X11_init yh yt0) := by
  unfold f_X11_init
  refine nt_al Rh (fun h17 yh17 Rh17 Lh17 => ?_)
  refine nt_doE (n_X6_init Rh17 (nt_aN Rh (by omega))) (fun h18 yh18 x19 Rh18 Lh18 => ?_)
  refine nt_pP Rh18 (nt_vS At0) (nt_vN Rh (by omega)) (fun h20 yh20 Rh20 Lh20 => ?_)
  refine nt_al Rh20 (fun h21 yh21 Rh21 Lh21 => ?_)
  refine nt_doE (n_X7_init Rh21 (nt_aN Rh20 (by omega))) (fun h22 yh22 x23 Rh22 Lh22 => ?_)
  refine nt_pP Rh22 (nt_vS At0) (nt_vN Rh20 (by omega)) (fun h24 yh24 Rh24 Lh24 => ?_)
  refine nt_al Rh24 (fun h25 yh25 Rh25 Lh25 => ?_)
  refine nt_doE (n_Jx4a65c_init_da8c8 Rh25 (nt_aN Rh24 (by omega))) (fun h26 yh26 x27 Rh26 Lh26 => ?_)
  refine nt_pP Rh26 (nt_vS At0) (nt_vN Rh24 (by omega)) (fun h28 yh28 Rh28 Lh28 => ?_)
  refine nt_na Rh28 (fun h29 yh29 Rh29 Lh29 => ?_)
  refine nt_pP Rh29 (nt_vS At0) (nt_vN Rh28 (by omega)) (fun h30 yh30 Rh30 Lh30 => ?_)
  exact nt_fk (n_X11_init_b48 _ Rh30 (nt_am At0 (by omega)) _) (by omega)
theorem n_X11_mustBeKiosk_c10 {ρ : Nat → Nat} {D F : Nat → Prop} {h0 : nk_H} {u v : Nat}   {h yh : nk_H} (Rh : nt_R ρ D F h0 u v yh h) : nt_F ρ D F h0 u v (nk_N h) nt_q (f_X11_mustBeKiosk_c10 h) (f_X11_mustBeKiosk_c10 yh) := by
  unfold f_X11_mustBeKiosk_c10
  exact nt_ret (nt_alR Rh 0 0 6) rfl (by rw [nk_N_al]; omega)
theorem n_X11_mustBeKiosk {ρ : Nat → Nat} {D F : Nat → Prop} {h0 : nk_H} {u v : Nat}   {h yh : nk_H} (Rh : nt_R ρ D F h0 u v yh h) (v0 : Int32) : nt_F ρ D F h0 u v (nk_N h) nt_q (f_X11_mustBeKiosk h v0) (f_X11_mustBeKiosk yh v0) := by
  unfold f_X11_mustBeKiosk
  refine nt_ite ?_ ?_
  · exact nt_fk (n_X11_mustBeKiosk_c10 Rh) (by omega)
  · refine nt_ite ?_ ?_
    · exact nt_ret Rh rfl (by omega)
    · exact nt_fk (n_X11_mustBeKiosk_c10 Rh) (by omega)
theorem n_X11_mustBeTwoKiosks {ρ : Nat → Nat} {D F : Nat → Prop} {h0 : nk_H} {u v : Nat}   {h yh : nk_H} (Rh : nt_R ρ D F h0 u v yh h) (v0 : Int32) (v1 : Int32) : nt_F ρ D F h0 u v (nk_N h) nt_q (f_X11_mustBeTwoKiosks h v0 v1) (f_X11_mustBeTwoKiosks yh v0 v1) := by
  unfold f_X11_mustBeTwoKiosks
  refine nt_dt (by omega) (n_X11_mustBeKiosk Rh _) (fun h1 yh1 x2 Rh1 Lh1 => ?_)
  refine nt_dt (by omega) (n_X11_mustBeKiosk Rh1 _) (fun h3 yh3 x4 Rh3 Lh3 => ?_)
  refine nt_ite ?_ ?_
  · exact nt_ret (nt_alR Rh3 0 0 6) rfl (by rw [nk_N_al]; omega)
  · exact nt_ret Rh3 rfl (by omega)
theorem n_X11_join {ρ : Nat → Nat} {D F : Nat → Prop} {h0 : nk_H} {u v : Nat}   {h yh : nk_H} (Rh : nt_R ρ D F h0 u v yh h) {t0 yt0 : Nat} (At0 : nt_A ρ D (nk_N h) t0 yt0) (v1 : Int32) (v2 : Int32) : nt_F ρ D F h0 u v (nk_N h) nt_q (f_X11_join h t0 v1 v2) (f_X11_join yh yt0 v1 v2) := by
  unfold f_X11_join
  refine nt_dt (by omega) (n_X11_mustBeTwoKiosks Rh _ _) (fun h1 yh1 x2 Rh1 Lh1 => ?_)
  refine nt_gP Rh1 (nt_vS At0) (fun x3 yx3 Vx3 => ?_)
  refine nt_rcv Rh1 Vx3 (fun a4 ya4 Aa4 => ?_)
  refine nt_doE (n_X6_areLinked Rh1 (nt_am Aa4 (by omega)) _ _) (fun h5 yh5 x6 Rh5 Lh5 => ?_)
  refine nt_ite ?_ ?_
  · refine nt_gP Rh5 (nt_vS At0) (fun x7 yx7 Vx7 => ?_)
    refine nt_rcv Rh5 Vx7 (fun a8 ya8 Aa8 => ?_)
    refine nt_doE (n_X6_turn Rh5 (nt_am Aa8 (by omega)) _ _) (fun h9 yh9 x10 Rh9 Lh9 => ?_)
    refine nt_gP Rh9 (nt_vS At0) (fun x11 yx11 Vx11 => ?_)
    refine nt_rcv Rh9 Vx11 (fun a12 ya12 Aa12 => ?_)
    refine nt_doE (n_X6_degree Rh9 (nt_am Aa12 (by omega)) _) (fun h13 yh13 x14 Rh13 Lh13 => ?_)
    exact nt_ret Rh13 rfl (by omega)
  · exact nt_ret (nt_alR Rh5 0 0 6) rfl (by rw [nk_N_al]; omega)
theorem n_X11_cut {ρ : Nat → Nat} {D F : Nat → Prop} {h0 : nk_H} {u v : Nat}   {h yh : nk_H} (Rh : nt_R ρ D F h0 u v yh h) {t0 yt0 : Nat} (At0 : nt_A ρ D (nk_N h) t0 yt0) (v1 : Int32) (v2 : Int32) : nt_F ρ D F h0 u v (nk_N h) nt_q (f_X11_cut h t0 v1 v2) (f_X11_cut yh yt0 v1 v2) := by
  unfold f_X11_cut
  refine nt_dt (by omega) (n_X11_mustBeTwoKiosks Rh _ _) (fun h1 yh1 x2 Rh1 Lh1 => ?_)
  refine nt_gP Rh1 (nt_vS At0) (fun x3 yx3 Vx3 => ?_)
  refine nt_rcv Rh1 Vx3 (fun a4 ya4 Aa4 => ?_)
  refine nt_doE (n_X6_areLinked Rh1 (nt_am Aa4 (by omega)) _ _) (fun h5 yh5 x6 Rh5 Lh5 => ?_)
  refine nt_ite ?_ ?_
  · exact nt_ret (nt_alR Rh5 0 0 6) rfl (by rw [nk_N_al]; omega)
  · refine nt_gP Rh5 (nt_vS At0) (fun x7 yx7 Vx7 => ?_)
    refine nt_rcv Rh5 Vx7 (fun a8 ya8 Aa8 => ?_)
    refine nt_doE (n_X6_turn Rh5 (nt_am Aa8 (by omega)) _ _) (fun h9 yh9 x10 Rh9 Lh9 => ?_)
    refine nt_gP Rh9 (nt_vS At0) (fun x11 yx11 Vx11 => ?_)
    refine nt_rcv Rh9 Vx11 (fun a12 ya12 Aa12 => ?_)
    refine nt_doE (n_X6_degree Rh9 (nt_am Aa12 (by omega)) _) (fun h13 yh13 x14 Rh13 Lh13 => ?_)
    exact nt_ret Rh13 rfl (by omega)
theorem n_X11_mustBeWithin_c10 {ρ : Nat → Nat} {D F : Nat → Prop} {h0 : nk_H} {u v : Nat}   {h yh : nk_H} (Rh : nt_R ρ D F h0 u v yh h) : nt_F ρ D F h0 u v (nk_N h) nt_q (f_X11_mustBeWithin_c10 h) (f_X11_mustBeWithin_c10 yh) := by
  unfold f_X11_mustBeWithin_c10
  exact nt_ret (nt_alR Rh 0 0 6) rfl (by rw [nk_N_al]; omega)
theorem n_X11_mustBeWithin {ρ : Nat → Nat} {D F : Nat → Prop} {h0 : nk_H} {u v : Nat}   {h yh : nk_H} (Rh : nt_R ρ D F h0 u v yh h) (v0 : Int32) (v1 : Int32) (v2 : Int32) : nt_F ρ D F h0 u v (nk_N h) nt_q (f_X11_mustBeWithin h v0 v1 v2) (f_X11_mustBeWithin yh v0 v1 v2) := by
  unfold f_X11_mustBeWithin
  refine nt_ite ?_ ?_
  · exact nt_fk (n_X11_mustBeWithin_c10 Rh) (by omega)
  · refine nt_ite ?_ ?_
    · exact nt_ret Rh rfl (by omega)
    · exact nt_fk (n_X11_mustBeWithin_c10 Rh) (by omega)
theorem n_X11_pass_c33 {ρ : Nat → Nat} {D F : Nat → Prop} {h0 : nk_H} {u v : Nat} {r33 r33' : nk_H → Nat → Int32 → Int32 → Int32 → Option (nk_H × (Int32 ⊕ String))} (hr33 : ∀ (g h : nk_H) (a1 b1 : Nat) (i2 : Int32) (i3 : Int32) (i4 : Int32), nt_R ρ D F h0 u v h g → nt_A ρ D (nk_N g) a1 b1 → nt_F ρ D F h0 u v (nk_N g) nt_q (r33 g a1 i2 i3 i4) (r33' h b1 i2 i3 i4)) {h yh : nk_H} (Rh : nt_R ρ D F h0 u v yh h) {t0 yt0 : Nat} (At0 : nt_A ρ D (nk_N h) t0 yt0) (v1 : Int32) (v2 : Int32) (v3 : Int32) : nt_F ρ D F h0 u v (nk_N h) nt_q (f_X11_pass_c33 r33 h t0 v1 v2 v3) (f_X11_pass_c33 r33' yh yt0 v1 v2 v3) := by
  unfold f_X11_pass_c33
  refine nt_ite ?_ ?_
  · exact nt_ret Rh rfl (by omega)
  · refine nt_gI Rh (nt_vS At0) (fun x1 => ?_)
    refine nt_pI Rh (nt_vS At0) (fun h2 yh2 Rh2 Lh2 => ?_)
    refine nt_gP Rh2 (nt_vS At0) (fun x3 yx3 Vx3 => ?_)
    refine nt_gI Rh2 (nt_vS At0) (fun x4 => ?_)
    refine nt_rcv Rh2 Vx3 (fun a5 ya5 Aa5 => ?_)
    refine nt_doE (n_X6_keep Rh2 (nt_am Aa5 (by omega)) _) (fun h6 yh6 x7 Rh6 Lh6 => ?_)
    refine nt_gP Rh6 (nt_vS At0) (fun x8 yx8 Vx8 => ?_)
    refine nt_gP Rh6 (nt_vS At0) (fun x9 yx9 Vx9 => ?_)
    refine nt_gI Rh6 (nt_vS At0) (fun x10 => ?_)
    refine nt_rcv Rh6 Vx8 (fun a11 ya11 Aa11 => ?_)
    refine nt_doE (n_X7_spread Rh6 (nt_am Aa11 (by omega)) (nt_vm Vx9 (by omega)) _) (fun h12 yh12 x13 Rh12 Lh12 => ?_)
    exact nt_fk (hr33 _ _ _ _ _ _ _ Rh12 (nt_am At0 (by omega))) (by omega)
theorem n_X11_pass_b33 {ρ : Nat → Nat} {D F : Nat → Prop} {h0 : nk_H} {u v : Nat}   : ∀ (n : Nat) {g h : nk_H} (R : nt_R ρ D F h0 u v h g) {a1 b1 : Nat} (A1 : nt_A ρ D (nk_N g) a1 b1) (i2 : Int32) (i3 : Int32) (i4 : Int32), nt_F ρ D F h0 u v (nk_N g) nt_q (f_X11_pass_b33 n g a1 i2 i3 i4) (f_X11_pass_b33 n h b1 i2 i3 i4)
  | 0, _, _, _, _, _, _, _, _, _ => nt_none
  | n + 1, _, _, R, _, _, A1, i2, i3, i4 => n_X11_pass_c33 (fun g h a1 b1 i2 i3 i4 R A1 => n_X11_pass_b33 n R A1 i2 i3 i4) R A1 i2 i3 i4
theorem n_X11_pass {ρ : Nat → Nat} {D F : Nat → Prop} {h0 : nk_H} {u v : Nat}   {h yh : nk_H} (Rh : nt_R ρ D F h0 u v yh h) {t0 yt0 : Nat} (At0 : nt_A ρ D (nk_N h) t0 yt0) (v1 : Int32) : nt_F ρ D F h0 u v (nk_N h) nt_q (f_X11_pass h t0 v1) (f_X11_pass yh yt0 v1) := by
  unfold f_X11_pass
  refine nt_dt (by omega) (n_X11_mustBeWithin Rh _ _ _) (fun h14 yh14 x15 Rh14 Lh14 => ?_)
  refine nt_gI Rh14 (nt_vS At0) (fun x16 => ?_)
  refine nt_ite ?_ ?_
  · exact nt_fk (n_X11_pass_b33 _ Rh14 (nt_am At0 (by omega)) _ _ _) (by omega)
  · exact nt_ret (nt_alR Rh14 0 0 6) rfl (by rw [nk_N_al]; omega)
theorem n_X11_read {ρ : Nat → Nat} {D F : Nat → Prop} {h0 : nk_H} {u v : Nat}   {h yh : nk_H} (Rh : nt_R ρ D F h0 u v yh h) {t0 yt0 : Nat} (At0 : nt_A ρ D (nk_N h) t0 yt0) (v1 : Int32) : nt_F ρ D F h0 u v (nk_N h) nt_q (f_X11_read h t0 v1) (f_X11_read yh yt0 v1) := by
  unfold f_X11_read
  refine nt_dt (by omega) (n_X11_mustBeKiosk Rh _) (fun h1 yh1 x2 Rh1 Lh1 => ?_)
  refine nt_gP Rh1 (nt_vS At0) (fun x3 yx3 Vx3 => ?_)
  refine nt_rcv Rh1 Vx3 (fun a4 ya4 Aa4 => ?_)
  refine nt_doE (n_X7_readMail Rh1 (nt_am Aa4 (by omega)) _) (fun h5 yh5 x6 Rh5 Lh5 => ?_)
  exact nt_ret Rh5 rfl (by omega)
theorem n_X11_draft {ρ : Nat → Nat} {D F : Nat → Prop} {h0 : nk_H} {u v : Nat}   {h yh : nk_H} (Rh : nt_R ρ D F h0 u v yh h) {t0 yt0 : Nat} (At0 : nt_A ρ D (nk_N h) t0 yt0) (v1 : Int32) (v2 : Int32) (v3 : Int32) (v4 : Int32) (v5 : Int32) : nt_F ρ D F h0 u v (nk_N h) nt_q (f_X11_draft h t0 v1 v2 v3 v4 v5) (f_X11_draft yh yt0 v1 v2 v3 v4 v5) := by
  unfold f_X11_draft
  refine nt_dt (by omega) (n_X11_mustBeWithin Rh _ _ _) (fun h1 yh1 x2 Rh1 Lh1 => ?_)
  refine nt_dt (by omega) (n_X11_mustBeWithin Rh1 _ _ _) (fun h3 yh3 x4 Rh3 Lh3 => ?_)
  refine nt_dt (by omega) (n_X11_mustBeWithin Rh3 _ _ _) (fun h5 yh5 x6 Rh5 Lh5 => ?_)
  refine nt_dt (by omega) (n_X11_mustBeWithin Rh5 _ _ _) (fun h7 yh7 x8 Rh7 Lh7 => ?_)
  refine nt_dt (by omega) (n_X11_mustBeWithin Rh7 _ _ _) (fun h9 yh9 x10 Rh9 Lh9 => ?_)
  refine nt_al Rh9 (fun h11 yh11 Rh11 Lh11 => ?_)
  refine nt_doE (n_X5_init Rh11 (nt_aN Rh9 (by omega)) _ _ _ _ _) (fun h12 yh12 x13 Rh12 Lh12 => ?_)
  refine nt_pP Rh12 (nt_vS At0) (nt_vN Rh9 (by omega)) (fun h14 yh14 Rh14 Lh14 => ?_)
  exact nt_ret Rh14 rfl (by omega)
theorem n_X11_mustBePerson_c10 {ρ : Nat → Nat} {D F : Nat → Prop} {h0 : nk_H} {u v : Nat}   {h yh : nk_H} (Rh : nt_R ρ D F h0 u v yh h) : nt_F ρ D F h0 u v (nk_N h) nt_q (f_X11_mustBePerson_c10 h) (f_X11_mustBePerson_c10 yh) := by
  unfold f_X11_mustBePerson_c10
  exact nt_ret (nt_alR Rh 0 0 6) rfl (by rw [nk_N_al]; omega)
theorem n_X11_mustBePerson {ρ : Nat → Nat} {D F : Nat → Prop} {h0 : nk_H} {u v : Nat}   {h yh : nk_H} (Rh : nt_R ρ D F h0 u v yh h) (v0 : Int32) : nt_F ρ D F h0 u v (nk_N h) nt_q (f_X11_mustBePerson h v0) (f_X11_mustBePerson yh v0) := by
  unfold f_X11_mustBePerson
  refine nt_ite ?_ ?_
  · exact nt_fk (n_X11_mustBePerson_c10 Rh) (by omega)
  · refine nt_ite ?_ ?_
    · exact nt_ret Rh rfl (by omega)
    · exact nt_fk (n_X11_mustBePerson_c10 Rh) (by omega)
theorem n_X11_mustBeOtherPerson {ρ : Nat → Nat} {D F : Nat → Prop} {h0 : nk_H} {u v : Nat}   {h yh : nk_H} (Rh : nt_R ρ D F h0 u v yh h) (v0 : Int32) (v1 : Int32) : nt_F ρ D F h0 u v (nk_N h) nt_q (f_X11_mustBeOtherPerson h v0 v1) (f_X11_mustBeOtherPerson yh v0 v1) := by
  unfold f_X11_mustBeOtherPerson
  refine nt_ite ?_ ?_
  · exact nt_ret (nt_alR Rh 0 0 6) rfl (by rw [nk_N_al]; omega)
  · exact nt_ret Rh rfl (by omega)
theorem n_X11_mustHaveRoomForNews {ρ : Nat → Nat} {D F : Nat → Prop} {h0 : nk_H} {u v : Nat}   {h yh : nk_H} (Rh : nt_R ρ D F h0 u v yh h) {t0 yt0 : Nat} (At0 : nt_A ρ D (nk_N h) t0 yt0) : nt_F ρ D F h0 u v (nk_N h) nt_q (f_X11_mustHaveRoomForNews h t0) (f_X11_mustHaveRoomForNews yh yt0) := by
  unfold f_X11_mustHaveRoomForNews
  refine nt_gP Rh (nt_vS At0) (fun x1 yx1 Vx1 => ?_)
  refine nt_rcv Rh Vx1 (fun a2 ya2 Aa2 => ?_)
  refine nt_doE (n_X7_count Rh (nt_am Aa2 (by omega))) (fun h3 yh3 x4 Rh3 Lh3 => ?_)
  refine nt_ite ?_ ?_
  · exact nt_ret Rh3 rfl (by omega)
  · exact nt_ret (nt_alR Rh3 0 0 6) rfl (by rw [nk_N_al]; omega)
theorem n_X11_mustHaveRoomForPower {ρ : Nat → Nat} {D F : Nat → Prop} {h0 : nk_H} {u v : Nat}   {h yh : nk_H} (Rh : nt_R ρ D F h0 u v yh h) {t0 yt0 : Nat} (At0 : nt_A ρ D (nk_N h) t0 yt0) : nt_F ρ D F h0 u v (nk_N h) nt_q (f_X11_mustHaveRoomForPower h t0) (f_X11_mustHaveRoomForPower yh yt0) := by
  unfold f_X11_mustHaveRoomForPower
  refine nt_gP Rh (nt_vS At0) (fun x1 yx1 Vx1 => ?_)
  refine nt_rcv Rh Vx1 (fun a2 ya2 Aa2 => ?_)
  refine nt_doE (n_Jx4a65c_size_8abf5 Rh (nt_am Aa2 (by omega))) (fun h3 yh3 x4 Rh3 Lh3 => ?_)
  refine nt_ite ?_ ?_
  · refine nt_rcv Rh3 (nt_vS At0) (fun a5 ya5 Aa5 => ?_)
    refine nt_dt (by omega) (n_X11_mustHaveRoomForNews Rh3 (nt_am Aa5 (by omega))) (fun h6 yh6 x7 Rh6 Lh6 => ?_)
    exact nt_ret Rh6 rfl (by omega)
  · exact nt_ret (nt_alR Rh3 0 0 6) rfl (by rw [nk_N_al]; omega)
theorem n_X11_makePower {ρ : Nat → Nat} {D F : Nat → Prop} {h0 : nk_H} {u v : Nat}   {h yh : nk_H} (Rh : nt_R ρ D F h0 u v yh h) {t0 yt0 : Nat} (At0 : nt_A ρ D (nk_N h) t0 yt0) (v1 : Int32) {v2 yv2 : Option Nat} (Vv2 : nt_V ρ D (nk_N h) v2 yv2) (v3 : Int32) (v4 : Int32) : nt_F ρ D F h0 u v (nk_N h) nt_q (f_X11_makePower h t0 v1 v2 v3 v4) (f_X11_makePower yh yt0 v1 yv2 v3 v4) := by
  unfold f_X11_makePower
  refine nt_al Rh (fun h1 yh1 Rh1 Lh1 => ?_)
  refine nt_gP Rh1 (nt_vS At0) (fun x2 yx2 Vx2 => ?_)
  refine nt_rcv Rh1 Vx2 (fun a3 ya3 Aa3 => ?_)
  refine nt_doE (n_Jx4a65c_size_8abf5 Rh1 (nt_am Aa3 (by omega))) (fun h4 yh4 x5 Rh4 Lh4 => ?_)
  refine nt_gP Rh4 (nt_vS At0) (fun x6 yx6 Vx6 => ?_)
  refine nt_gI Rh4 (nt_vS At0) (fun x7 => ?_)
  refine nt_doE (n_X9_init Rh4 (nt_aN Rh (by omega)) _ (nt_vm Vv2 (by omega)) _ _ (nt_vm Vx6 (by omega)) _) (fun h8 yh8 x9 Rh8 Lh8 => ?_)
  refine nt_gP Rh8 (nt_vS At0) (fun x10 yx10 Vx10 => ?_)
  refine nt_rcv Rh8 Vx10 (fun a11 ya11 Aa11 => ?_)
  refine nt_doE (n_Jx4a65c_add_9ea2d Rh8 (nt_am Aa11 (by omega)) (nt_vN Rh (by omega))) (fun h12 yh12 x13 Rh12 Lh12 => ?_)
  refine nt_gP Rh12 (nt_vS At0) (fun x14 yx14 Vx14 => ?_)
  refine nt_gI Rh12 (nt_vS At0) (fun x15 => ?_)
  refine nt_rcv Rh12 Vx14 (fun a16 ya16 Aa16 => ?_)
  refine nt_doE (n_X7_publish Rh12 (nt_am Aa16 (by omega)) (nt_vN Rh (by omega)) _ _) (fun h17 yh17 x18 Rh17 Lh17 => ?_)
  refine nt_gI Rh17 (nt_vN Rh (Nat.lt_succ_self _)) (fun x19 => ?_)
  exact nt_ret Rh17 rfl (by omega)
theorem n_X11_grant {ρ : Nat → Nat} {D F : Nat → Prop} {h0 : nk_H} {u v : Nat}   {h yh : nk_H} (Rh : nt_R ρ D F h0 u v yh h) {t0 yt0 : Nat} (At0 : nt_A ρ D (nk_N h) t0 yt0) (v1 : Int32) (v2 : Int32) (v3 : Int32) : nt_F ρ D F h0 u v (nk_N h) nt_q (f_X11_grant h t0 v1 v2 v3) (f_X11_grant yh yt0 v1 v2 v3) := by
  unfold f_X11_grant
  refine nt_dt (by omega) (n_X11_mustBeKiosk Rh _) (fun h1 yh1 x2 Rh1 Lh1 => ?_)
  refine nt_dt (by omega) (n_X11_mustBePerson Rh1 _) (fun h3 yh3 x4 Rh3 Lh3 => ?_)
  refine nt_dt (by omega) (n_X11_mustBePerson Rh3 _) (fun h5 yh5 x6 Rh5 Lh5 => ?_)
  refine nt_dt (by omega) (n_X11_mustBeOtherPerson Rh5 _ _) (fun h7 yh7 x8 Rh7 Lh7 => ?_)
  refine nt_rcv Rh7 (nt_vS At0) (fun a9 ya9 Aa9 => ?_)
  refine nt_dt (by omega) (n_X11_mustHaveRoomForPower Rh7 (nt_am Aa9 (by omega))) (fun h10 yh10 x11 Rh10 Lh10 => ?_)
  refine nt_rcv Rh10 (nt_vS At0) (fun a12 ya12 Aa12 => ?_)
  refine nt_doE (n_X11_makePower Rh10 (nt_am Aa12 (by omega)) _ nt_vn _ _) (fun h13 yh13 x14 Rh13 Lh13 => ?_)
  exact nt_ret Rh13 rfl (by omega)
theorem n_X11_mustBePower_c15 {ρ : Nat → Nat} {D F : Nat → Prop} {h0 : nk_H} {u v : Nat}   {h yh : nk_H} (Rh : nt_R ρ D F h0 u v yh h) : nt_F ρ D F h0 u v (nk_N h) nt_q (f_X11_mustBePower_c15 h) (f_X11_mustBePower_c15 yh) := by
  unfold f_X11_mustBePower_c15
  exact nt_ret (nt_alR Rh 0 0 6) rfl (by rw [nk_N_al]; omega)
theorem n_X11_mustBePower {ρ : Nat → Nat} {D F : Nat → Prop} {h0 : nk_H} {u v : Nat}   {h yh : nk_H} (Rh : nt_R ρ D F h0 u v yh h) {t0 yt0 : Nat} (At0 : nt_A ρ D (nk_N h) t0 yt0) (v1 : Int32) : nt_F ρ D F h0 u v (nk_N h) nt_q (f_X11_mustBePower h t0 v1) (f_X11_mustBePower yh yt0 v1) := by
  unfold f_X11_mustBePower
  refine nt_ite ?_ ?_
  · exact nt_fk (n_X11_mustBePower_c15 Rh) (by omega)
  · refine nt_gP Rh (nt_vS At0) (fun x1 yx1 Vx1 => ?_)
    refine nt_rcv Rh Vx1 (fun a2 ya2 Aa2 => ?_)
    refine nt_doE (n_Jx4a65c_size_8abf5 Rh (nt_am Aa2 (by omega))) (fun h3 yh3 x4 Rh3 Lh3 => ?_)
    refine nt_ite ?_ ?_
    · exact nt_ret Rh3 rfl (by omega)
    · exact nt_fk (n_X11_mustBePower_c15 Rh3) (by omega)
theorem n_X11_isGoodAt_c46 {ρ : Nat → Nat} {D F : Nat → Prop} {h0 : nk_H} {u v : Nat}   {h yh : nk_H} (Rh : nt_R ρ D F h0 u v yh h) (s0 : Int32) : nt_F ρ D F h0 u v (nk_N h) nt_q (f_X11_isGoodAt_c46 h s0) (f_X11_isGoodAt_c46 yh s0) := by
  unfold f_X11_isGoodAt_c46
  exact nt_zr Rh _ rfl (by omega)
theorem n_X11_isGoodAt_c45 {ρ : Nat → Nat} {D F : Nat → Prop} {h0 : nk_H} {u v : Nat}   {h yh : nk_H} (Rh : nt_R ρ D F h0 u v yh h) : nt_F ρ D F h0 u v (nk_N h) nt_q (f_X11_isGoodAt_c45 h) (f_X11_isGoodAt_c45 yh) := by
  unfold f_X11_isGoodAt_c45
  exact nt_fk (n_X11_isGoodAt_c46 Rh _) (by omega)
theorem n_X11_isGoodAt {ρ : Nat → Nat} {D F : Nat → Prop} {h0 : nk_H} {u v : Nat}   {h yh : nk_H} (Rh : nt_R ρ D F h0 u v yh h) {t0 yt0 : Nat} (At0 : nt_A ρ D (nk_N h) t0 yt0) (v1 : Int32) {v2 yv2 : Option Nat} (Vv2 : nt_V ρ D (nk_N h) v2 yv2) : nt_F ρ D F h0 u v (nk_N h) nt_q (f_X11_isGoodAt h t0 v1 v2) (f_X11_isGoodAt yh yt0 v1 yv2) := by
  unfold f_X11_isGoodAt
  refine nt_gP Rh (nt_vS At0) (fun x1 yx1 Vx1 => ?_)
  refine nt_rcv Rh Vx1 (fun a2 ya2 Aa2 => ?_)
  refine nt_doE (n_X7_lookAtRead Rh (nt_am Aa2 (by omega)) _) (fun h3 yh3 x4 Rh3 Lh3 => ?_)
  refine nt_gP Rh3 (nt_vS At0) (fun x5 yx5 Vx5 => ?_)
  refine nt_rcv Rh3 Vx5 (fun a6 ya6 Aa6 => ?_)
  refine nt_doE (n_X7_knows Rh3 (nt_am Aa6 (by omega)) (nt_vm Vv2 (by omega))) (fun h7 yh7 x8 Rh7 Lh7 => ?_)
  refine nt_ite ?_ ?_
  · exact nt_fk (n_X11_isGoodAt_c45 Rh7) (by omega)
  · refine nt_gP Rh7 (nt_vS At0) (fun x9 yx9 Vx9 => ?_)
    refine nt_rcv Rh7 Vx9 (fun a10 ya10 Aa10 => ?_)
    refine nt_doE (n_X7_revokes Rh7 (nt_am Aa10 (by omega)) (nt_vm Vv2 (by omega))) (fun h11 yh11 x12 Rh11 Lh11 => ?_)
    refine nt_ite ?_ ?_
    · refine nt_gI Rh11 (nt_vS At0) (fun x13 => ?_)
      refine nt_rcv Rh11 Vv2 (fun a14 ya14 Aa14 => ?_)
      refine nt_doE (n_X9_isOver Rh11 (nt_am Aa14 (by omega)) _) (fun h15 yh15 x16 Rh15 Lh15 => ?_)
      refine nt_ite ?_ ?_
      · exact nt_fk (n_X11_isGoodAt_c46 Rh15 _) (by omega)
      · exact nt_fk (n_X11_isGoodAt_c45 Rh15) (by omega)
    · exact nt_fk (n_X11_isGoodAt_c45 Rh11) (by omega)
theorem n_X11_passOn {ρ : Nat → Nat} {D F : Nat → Prop} {h0 : nk_H} {u v : Nat}   {h yh : nk_H} (Rh : nt_R ρ D F h0 u v yh h) {t0 yt0 : Nat} (At0 : nt_A ρ D (nk_N h) t0 yt0) (v1 : Int32) (v2 : Int32) (v3 : Int32) : nt_F ρ D F h0 u v (nk_N h) nt_q (f_X11_passOn h t0 v1 v2 v3) (f_X11_passOn yh yt0 v1 v2 v3) := by
  unfold f_X11_passOn
  refine nt_dt (by omega) (n_X11_mustBeKiosk Rh _) (fun h1 yh1 x2 Rh1 Lh1 => ?_)
  refine nt_rcv Rh1 (nt_vS At0) (fun a3 ya3 Aa3 => ?_)
  refine nt_dt (by omega) (n_X11_mustBePower Rh1 (nt_am Aa3 (by omega)) _) (fun h4 yh4 x5 Rh4 Lh4 => ?_)
  refine nt_dt (by omega) (n_X11_mustBePerson Rh4 _) (fun h6 yh6 x7 Rh6 Lh6 => ?_)
  refine nt_gP Rh6 (nt_vS At0) (fun x8 yx8 Vx8 => ?_)
  refine nt_rcv Rh6 Vx8 (fun a9 ya9 Aa9 => ?_)
  refine nt_doV (n_Jx4a65c_get_915e3 Rh6 (nt_am Aa9 (by omega)) _) (fun h10 yh10 x11 yx11 Rh10 Vx11 Lh10 => ?_)
  refine nt_cc Rh10 Vx11 ?_
  refine nt_gI Rh10 Vx11 (fun x13 => ?_)
  refine nt_dt (by omega) (n_X11_mustBeOtherPerson Rh10 _ _) (fun h14 yh14 x15 Rh14 Lh14 => ?_)
  refine nt_gP Rh14 (nt_vS At0) (fun x16 yx16 Vx16 => ?_)
  refine nt_gI Rh14 (nt_vS At0) (fun x17 => ?_)
  refine nt_rcv Rh14 Vx11 (fun a18 ya18 Aa18 => ?_)
  refine nt_doE (n_X9_covers Rh14 (nt_am Aa18 (by omega)) (nt_vm Vx16 (by omega)) _) (fun h19 yh19 x20 Rh19 Lh19 => ?_)
  refine nt_ite ?_ ?_
  · exact nt_ret (nt_alR Rh19 0 0 6) rfl (by rw [nk_N_al]; omega)
  · refine nt_rcv Rh19 (nt_vS At0) (fun a21 ya21 Aa21 => ?_)
    refine nt_dt (by omega) (n_X11_mustHaveRoomForPower Rh19 (nt_am Aa21 (by omega))) (fun h22 yh22 x23 Rh22 Lh22 => ?_)
    refine nt_rcv Rh22 (nt_vS At0) (fun a24 ya24 Aa24 => ?_)
    refine nt_doE (n_X11_isGoodAt Rh22 (nt_am Aa24 (by omega)) _ (nt_vm Vx11 (by omega))) (fun h25 yh25 x26 Rh25 Lh25 => ?_)
    refine nt_ite ?_ ?_
    · exact nt_ret (nt_alR Rh25 0 0 6) rfl (by rw [nk_N_al]; omega)
    · refine nt_gI Rh25 Vx11 (fun x27 => ?_)
      refine nt_rcv Rh25 (nt_vS At0) (fun a28 ya28 Aa28 => ?_)
      refine nt_doE (n_X11_makePower Rh25 (nt_am Aa28 (by omega)) _ (nt_vm Vx11 (by omega)) _ _) (fun h29 yh29 x30 Rh29 Lh29 => ?_)
      exact nt_ret Rh29 rfl (by omega)
theorem n_X11_revoke_c81 {ρ : Nat → Nat} {D F : Nat → Prop} {h0 : nk_H} {u v : Nat}   {h yh : nk_H} (Rh : nt_R ρ D F h0 u v yh h) : nt_F ρ D F h0 u v (nk_N h) nt_q (f_X11_revoke_c81 h) (f_X11_revoke_c81 yh) := by
  unfold f_X11_revoke_c81
  exact nt_ret (nt_alR Rh 0 0 6) rfl (by rw [nk_N_al]; omega)
theorem n_X11_revoke {ρ : Nat → Nat} {D F : Nat → Prop} {h0 : nk_H} {u v : Nat}   {h yh : nk_H} (Rh : nt_R ρ D F h0 u v yh h) {t0 yt0 : Nat} (At0 : nt_A ρ D (nk_N h) t0 yt0) (v1 : Int32) (v2 : Int32) (v3 : Int32) : nt_F ρ D F h0 u v (nk_N h) nt_q (f_X11_revoke h t0 v1 v2 v3) (f_X11_revoke yh yt0 v1 v2 v3) := by
  unfold f_X11_revoke
  refine nt_dt (by omega) (n_X11_mustBeKiosk Rh _) (fun h1 yh1 x2 Rh1 Lh1 => ?_)
  refine nt_dt (by omega) (n_X11_mustBePerson Rh1 _) (fun h3 yh3 x4 Rh3 Lh3 => ?_)
  refine nt_rcv Rh3 (nt_vS At0) (fun a5 ya5 Aa5 => ?_)
  refine nt_dt (by omega) (n_X11_mustBePower Rh3 (nt_am Aa5 (by omega)) _) (fun h6 yh6 x7 Rh6 Lh6 => ?_)
  refine nt_gP Rh6 (nt_vS At0) (fun x8 yx8 Vx8 => ?_)
  refine nt_rcv Rh6 Vx8 (fun a9 ya9 Aa9 => ?_)
  refine nt_doV (n_Jx4a65c_get_915e3 Rh6 (nt_am Aa9 (by omega)) _) (fun h10 yh10 x11 yx11 Rh10 Vx11 Lh10 => ?_)
  refine nt_cc Rh10 Vx11 ?_
  refine nt_rcv Rh10 Vx11 (fun a13 ya13 Aa13 => ?_)
  refine nt_doE (n_X9_hasGiver Rh10 (nt_am Aa13 (by omega)) _) (fun h14 yh14 x15 Rh14 Lh14 => ?_)
  refine nt_ite ?_ ?_
  · exact nt_ret (nt_alR Rh14 0 0 6) rfl (by rw [nk_N_al]; omega)
  · refine nt_rcv Rh14 (nt_vS At0) (fun a16 ya16 Aa16 => ?_)
    refine nt_dt (by omega) (n_X11_mustHaveRoomForNews Rh14 (nt_am Aa16 (by omega))) (fun h17 yh17 x18 Rh17 Lh17 => ?_)
    refine nt_gP Rh17 (nt_vS At0) (fun x19 yx19 Vx19 => ?_)
    refine nt_rcv Rh17 Vx19 (fun a20 ya20 Aa20 => ?_)
    refine nt_doE (n_X7_lookAtRead Rh17 (nt_am Aa20 (by omega)) _) (fun h21 yh21 x22 Rh21 Lh21 => ?_)
    refine nt_gP Rh21 (nt_vS At0) (fun x23 yx23 Vx23 => ?_)
    refine nt_rcv Rh21 Vx23 (fun a24 ya24 Aa24 => ?_)
    refine nt_doE (n_X7_knows Rh21 (nt_am Aa24 (by omega)) (nt_vm Vx11 (by omega))) (fun h25 yh25 x26 Rh25 Lh25 => ?_)
    refine nt_ite ?_ ?_
    · exact nt_fk (n_X11_revoke_c81 Rh25) (by omega)
    · refine nt_gP Rh25 (nt_vS At0) (fun x27 yx27 Vx27 => ?_)
      refine nt_rcv Rh25 Vx27 (fun a28 ya28 Aa28 => ?_)
      refine nt_doE (n_X7_revokes Rh25 (nt_am Aa28 (by omega)) (nt_vm Vx11 (by omega))) (fun h29 yh29 x30 Rh29 Lh29 => ?_)
      refine nt_ite ?_ ?_
      · refine nt_gP Rh29 (nt_vS At0) (fun x31 yx31 Vx31 => ?_)
        refine nt_al Rh29 (fun h32 yh32 Rh32 Lh32 => ?_)
        refine nt_doE (n_X10_init Rh32 (nt_aN Rh29 (by omega)) (nt_vm Vx11 (by omega))) (fun h33 yh33 x34 Rh33 Lh33 => ?_)
        refine nt_gI Rh33 (nt_vS At0) (fun x35 => ?_)
        refine nt_rcv Rh33 Vx31 (fun a36 ya36 Aa36 => ?_)
        refine nt_doE (n_X7_publish Rh33 (nt_am Aa36 (by omega)) (nt_vN Rh29 (by omega)) _ _) (fun h37 yh37 x38 Rh37 Lh37 => ?_)
        exact nt_ret Rh37 rfl (by omega)
      · exact nt_fk (n_X11_revoke_c81 Rh29) (by omega)
theorem n_X11_depute {ρ : Nat → Nat} {D F : Nat → Prop} {h0 : nk_H} {u v : Nat}   {h yh : nk_H} (Rh : nt_R ρ D F h0 u v yh h) {t0 yt0 : Nat} (At0 : nt_A ρ D (nk_N h) t0 yt0) (v1 : Int32) (v2 : Int32) (v3 : Int32) : nt_F ρ D F h0 u v (nk_N h) nt_q (f_X11_depute h t0 v1 v2 v3) (f_X11_depute yh yt0 v1 v2 v3) := by
  unfold f_X11_depute
  refine nt_dt (by omega) (n_X11_mustBeKiosk Rh _) (fun h1 yh1 x2 Rh1 Lh1 => ?_)
  refine nt_dt (by omega) (n_X11_mustBeWithin Rh1 _ _ _) (fun h3 yh3 x4 Rh3 Lh3 => ?_)
  refine nt_dt (by omega) (n_X11_mustBeWithin Rh3 _ _ _) (fun h5 yh5 x6 Rh5 Lh5 => ?_)
  refine nt_rcv Rh5 (nt_vS At0) (fun a7 ya7 Aa7 => ?_)
  refine nt_dt (by omega) (n_X11_mustHaveRoomForNews Rh5 (nt_am Aa7 (by omega))) (fun h8 yh8 x9 Rh8 Lh8 => ?_)
  refine nt_gI Rh8 (nt_vS At0) (fun x10 => ?_)
  refine nt_gP Rh8 (nt_vS At0) (fun x11 yx11 Vx11 => ?_)
  refine nt_rcv Rh8 Vx11 (fun a12 ya12 Aa12 => ?_)
  refine nt_doE (n_X7_lookAtAll Rh8 (nt_am Aa12 (by omega))) (fun h13 yh13 x14 Rh13 Lh13 => ?_)
  refine nt_gP Rh13 (nt_vS At0) (fun x15 yx15 Vx15 => ?_)
  refine nt_rcv Rh13 Vx15 (fun a16 ya16 Aa16 => ?_)
  refine nt_doE (n_X7_deputes Rh13 (nt_am Aa16 (by omega)) _ _ _) (fun h17 yh17 x18 Rh17 Lh17 => ?_)
  refine nt_ite ?_ ?_
  · refine nt_gP Rh17 (nt_vS At0) (fun x19 yx19 Vx19 => ?_)
    refine nt_al Rh17 (fun h20 yh20 Rh20 Lh20 => ?_)
    refine nt_doE (n_X4_init Rh20 (nt_aN Rh17 (by omega)) _ _ _) (fun h21 yh21 x22 Rh21 Lh21 => ?_)
    refine nt_gI Rh21 (nt_vS At0) (fun x23 => ?_)
    refine nt_rcv Rh21 Vx19 (fun a24 ya24 Aa24 => ?_)
    refine nt_doE (n_X7_publish Rh21 (nt_am Aa24 (by omega)) (nt_vN Rh17 (by omega)) _ _) (fun h25 yh25 x26 Rh25 Lh25 => ?_)
    exact nt_ret Rh25 rfl (by omega)
  · exact nt_ret (nt_alR Rh17 0 0 6) rfl (by rw [nk_N_al]; omega)
theorem n_X11_prepare {ρ : Nat → Nat} {D F : Nat → Prop} {h0 : nk_H} {u v : Nat}   {h yh : nk_H} (Rh : nt_R ρ D F h0 u v yh h) {t0 yt0 : Nat} (At0 : nt_A ρ D (nk_N h) t0 yt0) (v1 : Int32) (v2 : Int32) : nt_F ρ D F h0 u v (nk_N h) nt_q (f_X11_prepare h t0 v1 v2) (f_X11_prepare yh yt0 v1 v2) := by
  unfold f_X11_prepare
  refine nt_dt (by omega) (n_X11_mustBeWithin Rh _ _ _) (fun h1 yh1 x2 Rh1 Lh1 => ?_)
  refine nt_dt (by omega) (n_X11_mustBeWithin Rh1 _ _ _) (fun h3 yh3 x4 Rh3 Lh3 => ?_)
  refine nt_pI Rh3 (nt_vS At0) (fun h5 yh5 Rh5 Lh5 => ?_)
  refine nt_pI Rh5 (nt_vS At0) (fun h6 yh6 Rh6 Lh6 => ?_)
  exact nt_ret Rh6 rfl (by omega)
theorem n_X11_deedNow {ρ : Nat → Nat} {D F : Nat → Prop} {h0 : nk_H} {u v : Nat}   {h yh : nk_H} (Rh : nt_R ρ D F h0 u v yh h) {t0 yt0 : Nat} (At0 : nt_A ρ D (nk_N h) t0 yt0) (v1 : Int32) (v2 : Int32) (v3 : Int32) : nt_F ρ D F h0 u v (nk_N h) (nt_V ρ D) (f_X11_deedNow h t0 v1 v2 v3) (f_X11_deedNow yh yt0 v1 v2 v3) := by
  unfold f_X11_deedNow
  refine nt_al Rh (fun h1 yh1 Rh1 Lh1 => ?_)
  refine nt_gI Rh1 (nt_vS At0) (fun x2 => ?_)
  refine nt_gI Rh1 (nt_vS At0) (fun x3 => ?_)
  refine nt_gI Rh1 (nt_vS At0) (fun x4 => ?_)
  refine nt_doE (n_X3_init Rh1 (nt_aN Rh (by omega)) _ _ _ _ _ _) (fun h5 yh5 x6 Rh5 Lh5 => ?_)
  exact nt_ret Rh5 (nt_vN Rh (by omega)) (by omega)
theorem n_X11_reasonByMail {ρ : Nat → Nat} {D F : Nat → Prop} {h0 : nk_H} {u v : Nat}   {h yh : nk_H} (Rh : nt_R ρ D F h0 u v yh h) {t0 yt0 : Nat} (At0 : nt_A ρ D (nk_N h) t0 yt0) {v1 yv1 : Option Nat} (Vv1 : nt_V ρ D (nk_N h) v1 yv1) : nt_F ρ D F h0 u v (nk_N h) nt_q (f_X11_reasonByMail h t0 v1) (f_X11_reasonByMail yh yt0 yv1) := by
  unfold f_X11_reasonByMail
  refine nt_gP Rh (nt_vS At0) (fun x1 yx1 Vx1 => ?_)
  refine nt_rcv Rh Vx1 (fun a2 ya2 Aa2 => ?_)
  refine nt_doE (n_X7_lookAtReadable Rh (nt_am Aa2 (by omega)) (nt_vm Vv1 (by omega))) (fun h3 yh3 x4 Rh3 Lh3 => ?_)
  refine nt_gP Rh3 (nt_vS At0) (fun x5 yx5 Vx5 => ?_)
  refine nt_gP Rh3 Vv1 (fun x6 yx6 Vx6 => ?_)
  refine nt_gP Rh3 Vv1 (fun x7 yx7 Vx7 => ?_)
  refine nt_rcv Rh3 Vx5 (fun a8 ya8 Aa8 => ?_)
  refine nt_doE (n_X7_reasonAgainst Rh3 (nt_am Aa8 (by omega)) (nt_vm Vx6 (by omega)) (nt_vm Vx7 (by omega))) (fun h9 yh9 x10 Rh9 Lh9 => ?_)
  exact nt_ret Rh9 rfl (by omega)
theorem n_X11_act_c125 {ρ : Nat → Nat} {D F : Nat → Prop} {h0 : nk_H} {u v : Nat}   {h yh : nk_H} (Rh : nt_R ρ D F h0 u v yh h) {t0 yt0 : Nat} (At0 : nt_A ρ D (nk_N h) t0 yt0) (v1 : Int32) {v7 yv7 : Option Nat} (Vv7 : nt_V ρ D (nk_N h) v7 yv7) (s0 : Int32) {s1 ys1 : Option Nat} (Vs1 : nt_V ρ D (nk_N h) s1 ys1) : nt_F ρ D F h0 u v (nk_N h) nt_q (f_X11_act_c125 h t0 v1 v7 s0 s1) (f_X11_act_c125 yh yt0 v1 yv7 s0 ys1) := by
  unfold f_X11_act_c125
  refine nt_pZ Rh Vs1 (fun h1 yh1 Rh1 Lh1 => ?_)
  refine nt_gP Rh1 (nt_vS At0) (fun x2 yx2 Vx2 => ?_)
  refine nt_aP Rh1 Vx2 (fun x3 yx3 Vx3 => ?_)
  refine nt_rcv Rh1 Vx3 (fun a4 ya4 Aa4 => ?_)
  refine nt_doE (n_X1_enter Rh1 (nt_am Aa4 (by omega)) (nt_vm Vv7 (by omega))) (fun h5 yh5 x6 Rh5 Lh5 => ?_)
  exact nt_ret Rh5 rfl (by omega)
theorem n_X11_act {ρ : Nat → Nat} {D F : Nat → Prop} {h0 : nk_H} {u v : Nat}   {h yh : nk_H} (Rh : nt_R ρ D F h0 u v yh h) {t0 yt0 : Nat} (At0 : nt_A ρ D (nk_N h) t0 yt0) (v1 : Int32) (v2 : Int32) (v3 : Int32) (v4 : Int32) : nt_F ρ D F h0 u v (nk_N h) nt_q (f_X11_act h t0 v1 v2 v3 v4) (f_X11_act yh yt0 v1 v2 v3 v4) := by
  unfold f_X11_act
  refine nt_dt (by omega) (n_X11_mustBeKiosk Rh _) (fun h7 yh7 x8 Rh7 Lh7 => ?_)
  refine nt_dt (by omega) (n_X11_mustBePerson Rh7 _) (fun h9 yh9 x10 Rh9 Lh9 => ?_)
  refine nt_rcv Rh9 (nt_vS At0) (fun a11 ya11 Aa11 => ?_)
  refine nt_dt (by omega) (n_X11_mustBePower Rh9 (nt_am Aa11 (by omega)) _) (fun h12 yh12 x13 Rh12 Lh12 => ?_)
  refine nt_dt (by omega) (n_X11_mustBeWithin Rh12 _ _ _) (fun h14 yh14 x15 Rh14 Lh14 => ?_)
  refine nt_rcv Rh14 (nt_vS At0) (fun a16 ya16 Aa16 => ?_)
  refine nt_dt (by omega) (n_X11_mustHaveRoomForNews Rh14 (nt_am Aa16 (by omega))) (fun h17 yh17 x18 Rh17 Lh17 => ?_)
  refine nt_gP Rh17 (nt_vS At0) (fun x19 yx19 Vx19 => ?_)
  refine nt_rcv Rh17 Vx19 (fun a20 ya20 Aa20 => ?_)
  refine nt_doV (n_Jx4a65c_get_915e3 Rh17 (nt_am Aa20 (by omega)) _) (fun h21 yh21 x22 yx22 Rh21 Vx22 Lh21 => ?_)
  refine nt_cc Rh21 Vx22 ?_
  refine nt_rcv Rh21 (nt_vS At0) (fun a24 ya24 Aa24 => ?_)
  refine nt_doV (n_X11_deedNow Rh21 (nt_am Aa24 (by omega)) _ _ _) (fun h25 yh25 x26 yx26 Rh25 Vx26 Lh25 => ?_)
  refine nt_gP Rh25 (nt_vS At0) (fun x27 yx27 Vx27 => ?_)
  refine nt_rcv Rh25 Vx27 (fun a28 ya28 Aa28 => ?_)
  refine nt_doE (n_X7_lookAtRead Rh25 (nt_am Aa28 (by omega)) _) (fun h29 yh29 x30 Rh29 Lh29 => ?_)
  refine nt_gP Rh29 (nt_vS At0) (fun x31 yx31 Vx31 => ?_)
  refine nt_rcv Rh29 Vx31 (fun a32 ya32 Aa32 => ?_)
  refine nt_doE (n_X7_reasonAgainst Rh29 (nt_am Aa32 (by omega)) (nt_vm Vx22 (by omega)) (nt_vm Vx26 (by omega))) (fun h33 yh33 x34 Rh33 Lh33 => ?_)
  refine nt_ite ?_ ?_
  · refine nt_al Rh33 (fun h35 yh35 Rh35 Lh35 => ?_)
    refine nt_doE (n_X0_init Rh35 (nt_aN Rh33 (by omega)) (nt_vm Vx22 (by omega)) (nt_vm Vx26 (by omega))) (fun h36 yh36 x37 Rh36 Lh36 => ?_)
    refine nt_gP Rh36 (nt_vS At0) (fun x38 yx38 Vx38 => ?_)
    refine nt_gI Rh36 (nt_vS At0) (fun x39 => ?_)
    refine nt_rcv Rh36 Vx38 (fun a40 ya40 Aa40 => ?_)
    refine nt_doE (n_X7_publish Rh36 (nt_am Aa40 (by omega)) (nt_vN Rh33 (by omega)) _ _) (fun h41 yh41 x42 Rh41 Lh41 => ?_)
    refine nt_rcv Rh41 (nt_vS At0) (fun a43 ya43 Aa43 => ?_)
    refine nt_doE (n_X11_reasonByMail Rh41 (nt_am Aa43 (by omega)) (nt_vN Rh33 (by omega))) (fun h44 yh44 x45 Rh44 Lh44 => ?_)
    refine nt_ite ?_ ?_
    · exact nt_fk (n_X11_act_c125 Rh44 (nt_am At0 (by omega)) _ (nt_vN Rh33 (by omega)) _ (nt_vN Rh33 (by omega))) (by omega)
    · exact nt_fk (n_X11_act_c125 Rh44 (nt_am At0 (by omega)) _ (nt_vN Rh33 (by omega)) _ (nt_vN Rh33 (by omega))) (by omega)
  · exact nt_ret (nt_alR Rh33 0 0 6) rfl (by rw [nk_N_al]; omega)
theorem n_X11_mustBeRecord_c21 {ρ : Nat → Nat} {D F : Nat → Prop} {h0 : nk_H} {u v : Nat}   {h yh : nk_H} (Rh : nt_R ρ D F h0 u v yh h) : nt_F ρ D F h0 u v (nk_N h) nt_q (f_X11_mustBeRecord_c21 h) (f_X11_mustBeRecord_c21 yh) := by
  unfold f_X11_mustBeRecord_c21
  exact nt_ret (nt_alR Rh 0 0 6) rfl (by rw [nk_N_al]; omega)
theorem n_X11_mustBeRecord {ρ : Nat → Nat} {D F : Nat → Prop} {h0 : nk_H} {u v : Nat}   {h yh : nk_H} (Rh : nt_R ρ D F h0 u v yh h) {t0 yt0 : Nat} (At0 : nt_A ρ D (nk_N h) t0 yt0) (v1 : Int32) (v2 : Int32) : nt_F ρ D F h0 u v (nk_N h) nt_q (f_X11_mustBeRecord h t0 v1 v2) (f_X11_mustBeRecord yh yt0 v1 v2) := by
  unfold f_X11_mustBeRecord
  refine nt_dt (by omega) (n_X11_mustBeKiosk Rh _) (fun h1 yh1 x2 Rh1 Lh1 => ?_)
  refine nt_ite ?_ ?_
  · exact nt_fk (n_X11_mustBeRecord_c21 Rh1) (by omega)
  · refine nt_gP Rh1 (nt_vS At0) (fun x3 yx3 Vx3 => ?_)
    refine nt_aP Rh1 Vx3 (fun x4 yx4 Vx4 => ?_)
    refine nt_rcv Rh1 Vx4 (fun a5 ya5 Aa5 => ?_)
    refine nt_doE (n_X1_count Rh1 (nt_am Aa5 (by omega))) (fun h6 yh6 x7 Rh6 Lh6 => ?_)
    refine nt_ite ?_ ?_
    · exact nt_ret Rh6 rfl (by omega)
    · exact nt_fk (n_X11_mustBeRecord_c21 Rh6) (by omega)
theorem n_X11_tamper {ρ : Nat → Nat} {D F : Nat → Prop} {h0 : nk_H} {u v : Nat}   {h yh : nk_H} (Rh : nt_R ρ D F h0 u v yh h) {t0 yt0 : Nat} (At0 : nt_A ρ D (nk_N h) t0 yt0) (v1 : Int32) (v2 : Int32) (v3 : Int32) : nt_F ρ D F h0 u v (nk_N h) nt_q (f_X11_tamper h t0 v1 v2 v3) (f_X11_tamper yh yt0 v1 v2 v3) := by
  unfold f_X11_tamper
  refine nt_rcv Rh (nt_vS At0) (fun a1 ya1 Aa1 => ?_)
  refine nt_dt (by omega) (n_X11_mustBeRecord Rh (nt_am Aa1 (by omega)) _ _) (fun h2 yh2 x3 Rh2 Lh2 => ?_)
  refine nt_dt (by omega) (n_X11_mustBeWithin Rh2 _ _ _) (fun h4 yh4 x5 Rh4 Lh4 => ?_)
  refine nt_gP Rh4 (nt_vS At0) (fun x6 yx6 Vx6 => ?_)
  refine nt_aP Rh4 Vx6 (fun x7 yx7 Vx7 => ?_)
  refine nt_rcv Rh4 Vx7 (fun a8 ya8 Aa8 => ?_)
  refine nt_doV (n_X1_actOf Rh4 (nt_am Aa8 (by omega)) _) (fun h9 yh9 x10 yx10 Rh9 Vx10 Lh9 => ?_)
  refine nt_gP Rh9 Vx10 (fun x11 yx11 Vx11 => ?_)
  refine nt_aI Rh9 Vx11 (fun x12 => ?_)
  refine nt_gP Rh9 Vx10 (fun x13 yx13 Vx13 => ?_)
  refine nt_wI Rh9 Vx13 (fun h14 yh14 Rh14 Lh14 => ?_)
  exact nt_ret Rh14 rfl (by omega)
theorem n_X11_copy {ρ : Nat → Nat} {D F : Nat → Prop} {h0 : nk_H} {u v : Nat}   {h yh : nk_H} (Rh : nt_R ρ D F h0 u v yh h) {t0 yt0 : Nat} (At0 : nt_A ρ D (nk_N h) t0 yt0) (v1 : Int32) (v2 : Int32) (v3 : Int32) (v4 : Int32) : nt_F ρ D F h0 u v (nk_N h) nt_q (f_X11_copy h t0 v1 v2 v3 v4) (f_X11_copy yh yt0 v1 v2 v3 v4) := by
  unfold f_X11_copy
  refine nt_rcv Rh (nt_vS At0) (fun a1 ya1 Aa1 => ?_)
  refine nt_dt (by omega) (n_X11_mustBeRecord Rh (nt_am Aa1 (by omega)) _ _) (fun h2 yh2 x3 Rh2 Lh2 => ?_)
  refine nt_rcv Rh2 (nt_vS At0) (fun a4 ya4 Aa4 => ?_)
  refine nt_dt (by omega) (n_X11_mustBeRecord Rh2 (nt_am Aa4 (by omega)) _ _) (fun h5 yh5 x6 Rh5 Lh5 => ?_)
  refine nt_dt (by omega) (n_X11_mustBeWithin Rh5 _ _ _) (fun h7 yh7 x8 Rh7 Lh7 => ?_)
  refine nt_ite ?_ ?_
  · refine nt_gP Rh7 (nt_vS At0) (fun x9 yx9 Vx9 => ?_)
    refine nt_rcv Rh7 Vx9 (fun a10 ya10 Aa10 => ?_)
    refine nt_doE (n_Jx4a65c_size_8abf5 Rh7 (nt_am Aa10 (by omega))) (fun h11 yh11 x12 Rh11 Lh11 => ?_)
    refine nt_ite ?_ ?_
    · refine nt_al Rh11 (fun h13 yh13 Rh13 Lh13 => ?_)
      refine nt_doE (n_X2_init Rh13 (nt_aN Rh11 (by omega)) _ _ _ _) (fun h14 yh14 x15 Rh14 Lh14 => ?_)
      refine nt_gP Rh14 (nt_vS At0) (fun x16 yx16 Vx16 => ?_)
      refine nt_aP Rh14 Vx16 (fun x17 yx17 Vx17 => ?_)
      refine nt_rcv Rh14 (nt_vN Rh11 (Nat.lt_succ_self _)) (fun a18 ya18 Aa18 => ?_)
      refine nt_doE (n_X2_takeFrom Rh14 (nt_am Aa18 (by omega)) (nt_vm Vx17 (by omega))) (fun h19 yh19 x20 Rh19 Lh19 => ?_)
      refine nt_gP Rh19 (nt_vS At0) (fun x21 yx21 Vx21 => ?_)
      refine nt_rcv Rh19 Vx21 (fun a22 ya22 Aa22 => ?_)
      refine nt_doE (n_Jx4a65c_add_9ea2d Rh19 (nt_am Aa22 (by omega)) (nt_vN Rh11 (by omega))) (fun h23 yh23 x24 Rh23 Lh23 => ?_)
      refine nt_gP Rh23 (nt_vS At0) (fun x25 yx25 Vx25 => ?_)
      refine nt_rcv Rh23 Vx25 (fun a26 ya26 Aa26 => ?_)
      refine nt_doE (n_Jx4a65c_size_8abf5 Rh23 (nt_am Aa26 (by omega))) (fun h27 yh27 x28 Rh27 Lh27 => ?_)
      exact nt_ret Rh27 rfl (by omega)
    · exact nt_ret (nt_alR Rh11 0 0 6) rfl (by rw [nk_N_al]; omega)
  · exact nt_ret (nt_alR Rh7 0 0 6) rfl (by rw [nk_N_al]; omega)
theorem n_X11_mustBeCopy_c15 {ρ : Nat → Nat} {D F : Nat → Prop} {h0 : nk_H} {u v : Nat}   {h yh : nk_H} (Rh : nt_R ρ D F h0 u v yh h) : nt_F ρ D F h0 u v (nk_N h) nt_q (f_X11_mustBeCopy_c15 h) (f_X11_mustBeCopy_c15 yh) := by
  unfold f_X11_mustBeCopy_c15
  exact nt_ret (nt_alR Rh 0 0 6) rfl (by rw [nk_N_al]; omega)
theorem n_X11_mustBeCopy {ρ : Nat → Nat} {D F : Nat → Prop} {h0 : nk_H} {u v : Nat}   {h yh : nk_H} (Rh : nt_R ρ D F h0 u v yh h) {t0 yt0 : Nat} (At0 : nt_A ρ D (nk_N h) t0 yt0) (v1 : Int32) : nt_F ρ D F h0 u v (nk_N h) nt_q (f_X11_mustBeCopy h t0 v1) (f_X11_mustBeCopy yh yt0 v1) := by
  unfold f_X11_mustBeCopy
  refine nt_ite ?_ ?_
  · exact nt_fk (n_X11_mustBeCopy_c15 Rh) (by omega)
  · refine nt_gP Rh (nt_vS At0) (fun x1 yx1 Vx1 => ?_)
    refine nt_rcv Rh Vx1 (fun a2 ya2 Aa2 => ?_)
    refine nt_doE (n_Jx4a65c_size_8abf5 Rh (nt_am Aa2 (by omega))) (fun h3 yh3 x4 Rh3 Lh3 => ?_)
    refine nt_ite ?_ ?_
    · exact nt_ret Rh3 rfl (by omega)
    · exact nt_fk (n_X11_mustBeCopy_c15 Rh3) (by omega)
theorem n_X11_mustBePlace_c27 {ρ : Nat → Nat} {D F : Nat → Prop} {h0 : nk_H} {u v : Nat}   {h yh : nk_H} (Rh : nt_R ρ D F h0 u v yh h) : nt_F ρ D F h0 u v (nk_N h) nt_q (f_X11_mustBePlace_c27 h) (f_X11_mustBePlace_c27 yh) := by
  unfold f_X11_mustBePlace_c27
  exact nt_ret (nt_alR Rh 0 0 6) rfl (by rw [nk_N_al]; omega)
theorem n_X11_mustBePlace {ρ : Nat → Nat} {D F : Nat → Prop} {h0 : nk_H} {u v : Nat}   {h yh : nk_H} (Rh : nt_R ρ D F h0 u v yh h) {t0 yt0 : Nat} (At0 : nt_A ρ D (nk_N h) t0 yt0) (v1 : Int32) (v2 : Int32) : nt_F ρ D F h0 u v (nk_N h) nt_q (f_X11_mustBePlace h t0 v1 v2) (f_X11_mustBePlace yh yt0 v1 v2) := by
  unfold f_X11_mustBePlace
  refine nt_rcv Rh (nt_vS At0) (fun a1 ya1 Aa1 => ?_)
  refine nt_dt (by omega) (n_X11_mustBeCopy Rh (nt_am Aa1 (by omega)) _) (fun h2 yh2 x3 Rh2 Lh2 => ?_)
  refine nt_ite ?_ ?_
  · exact nt_fk (n_X11_mustBePlace_c27 Rh2) (by omega)
  · refine nt_gP Rh2 (nt_vS At0) (fun x4 yx4 Vx4 => ?_)
    refine nt_rcv Rh2 Vx4 (fun a5 ya5 Aa5 => ?_)
    refine nt_doV (n_Jx4a65c_get_915e3 Rh2 (nt_am Aa5 (by omega)) _) (fun h6 yh6 x7 yx7 Rh6 Vx7 Lh6 => ?_)
    refine nt_cc Rh6 Vx7 ?_
    refine nt_gI Rh6 Vx7 (fun x9 => ?_)
    refine nt_ite ?_ ?_
    · exact nt_ret Rh6 rfl (by omega)
    · exact nt_fk (n_X11_mustBePlace_c27 Rh6) (by omega)
theorem n_X11_mustBePart_c10 {ρ : Nat → Nat} {D F : Nat → Prop} {h0 : nk_H} {u v : Nat}   {h yh : nk_H} (Rh : nt_R ρ D F h0 u v yh h) : nt_F ρ D F h0 u v (nk_N h) nt_q (f_X11_mustBePart_c10 h) (f_X11_mustBePart_c10 yh) := by
  unfold f_X11_mustBePart_c10
  exact nt_ret (nt_alR Rh 0 0 6) rfl (by rw [nk_N_al]; omega)
theorem n_X11_mustBePart {ρ : Nat → Nat} {D F : Nat → Prop} {h0 : nk_H} {u v : Nat}   {h yh : nk_H} (Rh : nt_R ρ D F h0 u v yh h) (v0 : Int32) : nt_F ρ D F h0 u v (nk_N h) nt_q (f_X11_mustBePart h v0) (f_X11_mustBePart yh v0) := by
  unfold f_X11_mustBePart
  refine nt_ite ?_ ?_
  · exact nt_fk (n_X11_mustBePart_c10 Rh) (by omega)
  · refine nt_ite ?_ ?_
    · exact nt_ret Rh rfl (by omega)
    · exact nt_fk (n_X11_mustBePart_c10 Rh) (by omega)
theorem n_X11_forge {ρ : Nat → Nat} {D F : Nat → Prop} {h0 : nk_H} {u v : Nat}   {h yh : nk_H} (Rh : nt_R ρ D F h0 u v yh h) {t0 yt0 : Nat} (At0 : nt_A ρ D (nk_N h) t0 yt0) (v1 : Int32) (v2 : Int32) (v3 : Int32) (v4 : Int32) : nt_F ρ D F h0 u v (nk_N h) nt_q (f_X11_forge h t0 v1 v2 v3 v4) (f_X11_forge yh yt0 v1 v2 v3 v4) := by
  unfold f_X11_forge
  refine nt_rcv Rh (nt_vS At0) (fun a1 ya1 Aa1 => ?_)
  refine nt_dt (by omega) (n_X11_mustBePlace Rh (nt_am Aa1 (by omega)) _ _) (fun h2 yh2 x3 Rh2 Lh2 => ?_)
  refine nt_dt (by omega) (n_X11_mustBePart Rh2 _) (fun h4 yh4 x5 Rh4 Lh4 => ?_)
  refine nt_dt (by omega) (n_X11_mustBeWithin Rh4 _ _ _) (fun h6 yh6 x7 Rh6 Lh6 => ?_)
  refine nt_gP Rh6 (nt_vS At0) (fun x8 yx8 Vx8 => ?_)
  refine nt_rcv Rh6 Vx8 (fun a9 ya9 Aa9 => ?_)
  refine nt_doV (n_Jx4a65c_get_915e3 Rh6 (nt_am Aa9 (by omega)) _) (fun h10 yh10 x11 yx11 Rh10 Vx11 Lh10 => ?_)
  refine nt_cc Rh10 Vx11 ?_
  refine nt_rcv Rh10 Vx11 (fun a13 ya13 Aa13 => ?_)
  refine nt_doE (n_X2_leavesOut Rh10 (nt_am Aa13 (by omega)) _) (fun h14 yh14 x15 Rh14 Lh14 => ?_)
  refine nt_ite ?_ ?_
  · refine nt_gP Rh14 Vx11 (fun x16 yx16 Vx16 => ?_)
    refine nt_aP Rh14 Vx16 (fun x17 yx17 Vx17 => ?_)
    refine nt_aI Rh14 Vx17 (fun x18 => ?_)
    refine nt_gP Rh14 Vx11 (fun x19 yx19 Vx19 => ?_)
    refine nt_aP Rh14 Vx19 (fun x20 yx20 Vx20 => ?_)
    refine nt_wI Rh14 Vx20 (fun h21 yh21 Rh21 Lh21 => ?_)
    exact nt_ret Rh21 rfl (by omega)
  · exact nt_ret (nt_alR Rh14 0 0 6) rfl (by rw [nk_N_al]; omega)
theorem n_X11_hour {ρ : Nat → Nat} {D F : Nat → Prop} {h0 : nk_H} {u v : Nat}   {h yh : nk_H} (Rh : nt_R ρ D F h0 u v yh h) {t0 yt0 : Nat} (At0 : nt_A ρ D (nk_N h) t0 yt0) : nt_F ρ D F h0 u v (nk_N h) nt_q (f_X11_hour h t0) (f_X11_hour yh yt0) := by
  unfold f_X11_hour
  refine nt_gI Rh (nt_vS At0) (fun x1 => ?_)
  exact nt_ret Rh rfl (by omega)
theorem n_X11_news {ρ : Nat → Nat} {D F : Nat → Prop} {h0 : nk_H} {u v : Nat}   {h yh : nk_H} (Rh : nt_R ρ D F h0 u v yh h) {t0 yt0 : Nat} (At0 : nt_A ρ D (nk_N h) t0 yt0) : nt_F ρ D F h0 u v (nk_N h) nt_q (f_X11_news h t0) (f_X11_news yh yt0) := by
  unfold f_X11_news
  refine nt_gP Rh (nt_vS At0) (fun x1 yx1 Vx1 => ?_)
  refine nt_rcv Rh Vx1 (fun a2 ya2 Aa2 => ?_)
  refine nt_doE (n_X7_count Rh (nt_am Aa2 (by omega))) (fun h3 yh3 x4 Rh3 Lh3 => ?_)
  exact nt_ret Rh3 rfl (by omega)
theorem n_X11_powers {ρ : Nat → Nat} {D F : Nat → Prop} {h0 : nk_H} {u v : Nat}   {h yh : nk_H} (Rh : nt_R ρ D F h0 u v yh h) {t0 yt0 : Nat} (At0 : nt_A ρ D (nk_N h) t0 yt0) : nt_F ρ D F h0 u v (nk_N h) nt_q (f_X11_powers h t0) (f_X11_powers yh yt0) := by
  unfold f_X11_powers
  refine nt_gP Rh (nt_vS At0) (fun x1 yx1 Vx1 => ?_)
  refine nt_rcv Rh Vx1 (fun a2 ya2 Aa2 => ?_)
  refine nt_doE (n_Jx4a65c_size_8abf5 Rh (nt_am Aa2 (by omega))) (fun h3 yh3 x4 Rh3 Lh3 => ?_)
  exact nt_ret Rh3 rfl (by omega)
theorem n_X11_records {ρ : Nat → Nat} {D F : Nat → Prop} {h0 : nk_H} {u v : Nat}   {h yh : nk_H} (Rh : nt_R ρ D F h0 u v yh h) {t0 yt0 : Nat} (At0 : nt_A ρ D (nk_N h) t0 yt0) (v1 : Int32) : nt_F ρ D F h0 u v (nk_N h) nt_q (f_X11_records h t0 v1) (f_X11_records yh yt0 v1) := by
  unfold f_X11_records
  refine nt_dt (by omega) (n_X11_mustBeKiosk Rh _) (fun h1 yh1 x2 Rh1 Lh1 => ?_)
  refine nt_gP Rh1 (nt_vS At0) (fun x3 yx3 Vx3 => ?_)
  refine nt_aP Rh1 Vx3 (fun x4 yx4 Vx4 => ?_)
  refine nt_rcv Rh1 Vx4 (fun a5 ya5 Aa5 => ?_)
  refine nt_doE (n_X1_count Rh1 (nt_am Aa5 (by omega))) (fun h6 yh6 x7 Rh6 Lh6 => ?_)
  exact nt_ret Rh6 rfl (by omega)
theorem n_X11_areJoined {ρ : Nat → Nat} {D F : Nat → Prop} {h0 : nk_H} {u v : Nat}   {h yh : nk_H} (Rh : nt_R ρ D F h0 u v yh h) {t0 yt0 : Nat} (At0 : nt_A ρ D (nk_N h) t0 yt0) (v1 : Int32) (v2 : Int32) : nt_F ρ D F h0 u v (nk_N h) nt_q (f_X11_areJoined h t0 v1 v2) (f_X11_areJoined yh yt0 v1 v2) := by
  unfold f_X11_areJoined
  refine nt_dt (by omega) (n_X11_mustBeKiosk Rh _) (fun h1 yh1 x2 Rh1 Lh1 => ?_)
  refine nt_dt (by omega) (n_X11_mustBeKiosk Rh1 _) (fun h3 yh3 x4 Rh3 Lh3 => ?_)
  refine nt_gP Rh3 (nt_vS At0) (fun x5 yx5 Vx5 => ?_)
  refine nt_rcv Rh3 Vx5 (fun a6 ya6 Aa6 => ?_)
  refine nt_doE (n_X6_areLinked Rh3 (nt_am Aa6 (by omega)) _ _) (fun h7 yh7 x8 Rh7 Lh7 => ?_)
  exact nt_zr Rh7 _ rfl (by omega)
theorem n_X11_mustBePiece_c15 {ρ : Nat → Nat} {D F : Nat → Prop} {h0 : nk_H} {u v : Nat}   {h yh : nk_H} (Rh : nt_R ρ D F h0 u v yh h) : nt_F ρ D F h0 u v (nk_N h) nt_q (f_X11_mustBePiece_c15 h) (f_X11_mustBePiece_c15 yh) := by
  unfold f_X11_mustBePiece_c15
  exact nt_ret (nt_alR Rh 0 0 6) rfl (by rw [nk_N_al]; omega)
theorem n_X11_mustBePiece {ρ : Nat → Nat} {D F : Nat → Prop} {h0 : nk_H} {u v : Nat}   {h yh : nk_H} (Rh : nt_R ρ D F h0 u v yh h) {t0 yt0 : Nat} (At0 : nt_A ρ D (nk_N h) t0 yt0) (v1 : Int32) : nt_F ρ D F h0 u v (nk_N h) nt_q (f_X11_mustBePiece h t0 v1) (f_X11_mustBePiece yh yt0 v1) := by
  unfold f_X11_mustBePiece
  refine nt_ite ?_ ?_
  · exact nt_fk (n_X11_mustBePiece_c15 Rh) (by omega)
  · refine nt_gP Rh (nt_vS At0) (fun x1 yx1 Vx1 => ?_)
    refine nt_rcv Rh Vx1 (fun a2 ya2 Aa2 => ?_)
    refine nt_doE (n_X7_count Rh (nt_am Aa2 (by omega))) (fun h3 yh3 x4 Rh3 Lh3 => ?_)
    refine nt_ite ?_ ?_
    · exact nt_ret Rh3 rfl (by omega)
    · exact nt_fk (n_X11_mustBePiece_c15 Rh3) (by omega)
theorem n_X11_came {ρ : Nat → Nat} {D F : Nat → Prop} {h0 : nk_H} {u v : Nat}   {h yh : nk_H} (Rh : nt_R ρ D F h0 u v yh h) {t0 yt0 : Nat} (At0 : nt_A ρ D (nk_N h) t0 yt0) (v1 : Int32) (v2 : Int32) : nt_F ρ D F h0 u v (nk_N h) nt_q (f_X11_came h t0 v1 v2) (f_X11_came yh yt0 v1 v2) := by
  unfold f_X11_came
  refine nt_dt (by omega) (n_X11_mustBeKiosk Rh _) (fun h1 yh1 x2 Rh1 Lh1 => ?_)
  refine nt_rcv Rh1 (nt_vS At0) (fun a3 ya3 Aa3 => ?_)
  refine nt_dt (by omega) (n_X11_mustBePiece Rh1 (nt_am Aa3 (by omega)) _) (fun h4 yh4 x5 Rh4 Lh4 => ?_)
  refine nt_gP Rh4 (nt_vS At0) (fun x6 yx6 Vx6 => ?_)
  refine nt_rcv Rh4 Vx6 (fun a7 ya7 Aa7 => ?_)
  refine nt_doV (n_X7_pieceAt Rh4 (nt_am Aa7 (by omega)) _) (fun h8 yh8 x9 yx9 Rh8 Vx9 Lh8 => ?_)
  refine nt_gP Rh8 Vx9 (fun x10 yx10 Vx10 => ?_)
  refine nt_aI Rh8 Vx10 (fun x11 => ?_)
  exact nt_ret Rh8 rfl (by omega)
theorem n_X11_cameByLinks_c49 {ρ : Nat → Nat} {D F : Nat → Prop} {h0 : nk_H} {u v : Nat} {r49 r49' : nk_H → Nat → Int32 → Int32 → Int32 → Option (nk_H × (Int32 ⊕ String))} (hr49 : ∀ (g h : nk_H) (a1 b1 : Nat) (i2 : Int32) (i3 : Int32) (i4 : Int32), nt_R ρ D F h0 u v h g → nt_A ρ D (nk_N g) a1 b1 → nt_F ρ D F h0 u v (nk_N g) nt_q (r49 g a1 i2 i3 i4) (r49' h b1 i2 i3 i4)) {h yh : nk_H} (Rh : nt_R ρ D F h0 u v yh h) {t0 yt0 : Nat} (At0 : nt_A ρ D (nk_N h) t0 yt0) (v1 : Int32) (v4 : Int32) (v5 : Int32) : nt_F ρ D F h0 u v (nk_N h) nt_q (f_X11_cameByLinks_c49 r49 h t0 v1 v4 v5) (f_X11_cameByLinks_c49 r49' yh yt0 v1 v4 v5) := by
  unfold f_X11_cameByLinks_c49
  refine nt_gI Rh (nt_vS At0) (fun x1 => ?_)
  refine nt_ite ?_ ?_
  · exact nt_ret Rh rfl (by omega)
  · refine nt_gP Rh (nt_vS At0) (fun x2 yx2 Vx2 => ?_)
    refine nt_rcv Rh Vx2 (fun a3 ya3 Aa3 => ?_)
    refine nt_doE (n_X6_reach Rh (nt_am Aa3 (by omega)) _ _) (fun h4 yh4 x5 Rh4 Lh4 => ?_)
    refine nt_doE (n_X11_hasBit Rh4 _ _) (fun h6 yh6 x7 Rh6 Lh6 => ?_)
    refine nt_ite ?_ ?_
    · exact nt_fk (hr49 _ _ _ _ _ _ _ Rh6 (nt_am At0 (by omega))) (by omega)
    · exact nt_ret Rh6 rfl (by omega)
theorem n_X11_cameByLinks_b49 {ρ : Nat → Nat} {D F : Nat → Prop} {h0 : nk_H} {u v : Nat}   : ∀ (n : Nat) {g h : nk_H} (R : nt_R ρ D F h0 u v h g) {a1 b1 : Nat} (A1 : nt_A ρ D (nk_N g) a1 b1) (i2 : Int32) (i3 : Int32) (i4 : Int32), nt_F ρ D F h0 u v (nk_N g) nt_q (f_X11_cameByLinks_b49 n g a1 i2 i3 i4) (f_X11_cameByLinks_b49 n h b1 i2 i3 i4)
  | 0, _, _, _, _, _, _, _, _, _ => nt_none
  | n + 1, _, _, R, _, _, A1, i2, i3, i4 => n_X11_cameByLinks_c49 (fun g h a1 b1 i2 i3 i4 R A1 => n_X11_cameByLinks_b49 n R A1 i2 i3 i4) R A1 i2 i3 i4
theorem n_X11_cameByLinks {ρ : Nat → Nat} {D F : Nat → Prop} {h0 : nk_H} {u v : Nat}   {h yh : nk_H} (Rh : nt_R ρ D F h0 u v yh h) {t0 yt0 : Nat} (At0 : nt_A ρ D (nk_N h) t0 yt0) (v1 : Int32) (v2 : Int32) : nt_F ρ D F h0 u v (nk_N h) nt_q (f_X11_cameByLinks h t0 v1 v2) (f_X11_cameByLinks yh yt0 v1 v2) := by
  unfold f_X11_cameByLinks
  refine nt_dt (by omega) (n_X11_mustBeKiosk Rh _) (fun h8 yh8 x9 Rh8 Lh8 => ?_)
  refine nt_rcv Rh8 (nt_vS At0) (fun a10 ya10 Aa10 => ?_)
  refine nt_dt (by omega) (n_X11_mustBePiece Rh8 (nt_am Aa10 (by omega)) _) (fun h11 yh11 x12 Rh11 Lh11 => ?_)
  refine nt_gP Rh11 (nt_vS At0) (fun x13 yx13 Vx13 => ?_)
  refine nt_rcv Rh11 Vx13 (fun a14 ya14 Aa14 => ?_)
  refine nt_doV (n_X7_pieceAt Rh11 (nt_am Aa14 (by omega)) _) (fun h15 yh15 x16 yx16 Rh15 Vx16 Lh15 => ?_)
  refine nt_gI Rh15 Vx16 (fun x17 => ?_)
  refine nt_doE (n_X11_bit Rh15 _) (fun h18 yh18 x19 Rh18 Lh18 => ?_)
  refine nt_doE (n_X11_hasBit Rh18 _ _) (fun h20 yh20 x21 Rh20 Lh20 => ?_)
  refine nt_ite ?_ ?_
  · refine nt_gI Rh20 Vx16 (fun x22 => ?_)
    exact nt_fk (n_X11_cameByLinks_b49 _ Rh20 (nt_am At0 (by omega)) _ _ _) (by omega)
  · refine nt_gI Rh20 Vx16 (fun x23 => ?_)
    exact nt_ret Rh20 rfl (by omega)
theorem n_X11_isRead {ρ : Nat → Nat} {D F : Nat → Prop} {h0 : nk_H} {u v : Nat}   {h yh : nk_H} (Rh : nt_R ρ D F h0 u v yh h) {t0 yt0 : Nat} (At0 : nt_A ρ D (nk_N h) t0 yt0) (v1 : Int32) (v2 : Int32) : nt_F ρ D F h0 u v (nk_N h) nt_q (f_X11_isRead h t0 v1 v2) (f_X11_isRead yh yt0 v1 v2) := by
  unfold f_X11_isRead
  refine nt_dt (by omega) (n_X11_mustBeKiosk Rh _) (fun h1 yh1 x2 Rh1 Lh1 => ?_)
  refine nt_rcv Rh1 (nt_vS At0) (fun a3 ya3 Aa3 => ?_)
  refine nt_dt (by omega) (n_X11_mustBePiece Rh1 (nt_am Aa3 (by omega)) _) (fun h4 yh4 x5 Rh4 Lh4 => ?_)
  refine nt_gP Rh4 (nt_vS At0) (fun x6 yx6 Vx6 => ?_)
  refine nt_rcv Rh4 Vx6 (fun a7 ya7 Aa7 => ?_)
  refine nt_doV (n_X7_pieceAt Rh4 (nt_am Aa7 (by omega)) _) (fun h8 yh8 x9 yx9 Rh8 Vx9 Lh8 => ?_)
  refine nt_gI Rh8 Vx9 (fun x10 => ?_)
  refine nt_doE (n_X11_hasBit Rh8 _ _) (fun h11 yh11 x12 Rh11 Lh11 => ?_)
  exact nt_zr Rh11 _ rfl (by omega)
theorem n_X11_mail {ρ : Nat → Nat} {D F : Nat → Prop} {h0 : nk_H} {u v : Nat}   {h yh : nk_H} (Rh : nt_R ρ D F h0 u v yh h) {t0 yt0 : Nat} (At0 : nt_A ρ D (nk_N h) t0 yt0) (v1 : Int32) : nt_F ρ D F h0 u v (nk_N h) nt_q (f_X11_mail h t0 v1) (f_X11_mail yh yt0 v1) := by
  unfold f_X11_mail
  refine nt_dt (by omega) (n_X11_mustBeKiosk Rh _) (fun h1 yh1 x2 Rh1 Lh1 => ?_)
  refine nt_gP Rh1 (nt_vS At0) (fun x3 yx3 Vx3 => ?_)
  refine nt_rcv Rh1 Vx3 (fun a4 ya4 Aa4 => ?_)
  refine nt_doE (n_X7_unread Rh1 (nt_am Aa4 (by omega)) _) (fun h5 yh5 x6 Rh5 Lh5 => ?_)
  exact nt_ret Rh5 rfl (by omega)
theorem n_X11_source_c32 {ρ : Nat → Nat} {D F : Nat → Prop} {h0 : nk_H} {u v : Nat}   {h yh : nk_H} (Rh : nt_R ρ D F h0 u v yh h) (s0 : Int32) : nt_F ρ D F h0 u v (nk_N h) nt_q (f_X11_source_c32 h s0) (f_X11_source_c32 yh s0) := by
  unfold f_X11_source_c32
  exact nt_ret Rh rfl (by omega)
theorem n_X11_source {ρ : Nat → Nat} {D F : Nat → Prop} {h0 : nk_H} {u v : Nat}   {h yh : nk_H} (Rh : nt_R ρ D F h0 u v yh h) {t0 yt0 : Nat} (At0 : nt_A ρ D (nk_N h) t0 yt0) (v1 : Int32) : nt_F ρ D F h0 u v (nk_N h) nt_q (f_X11_source h t0 v1) (f_X11_source yh yt0 v1) := by
  unfold f_X11_source
  refine nt_rcv Rh (nt_vS At0) (fun a1 ya1 Aa1 => ?_)
  refine nt_dt (by omega) (n_X11_mustBePower Rh (nt_am Aa1 (by omega)) _) (fun h2 yh2 x3 Rh2 Lh2 => ?_)
  refine nt_gP Rh2 (nt_vS At0) (fun x4 yx4 Vx4 => ?_)
  refine nt_rcv Rh2 Vx4 (fun a5 ya5 Aa5 => ?_)
  refine nt_doV (n_Jx4a65c_get_915e3 Rh2 (nt_am Aa5 (by omega)) _) (fun h6 yh6 x7 yx7 Rh6 Vx7 Lh6 => ?_)
  refine nt_cc Rh6 Vx7 ?_
  refine nt_gP Rh6 Vx7 (fun x9 yx9 Vx9 => ?_)
  refine nt_iteP (nt_eq Rh6 Vx9 (nt_vn (n := 0))) ?_ ?_
  · exact nt_fk (n_X11_source_c32 Rh6 _) (by omega)
  · refine nt_gI Rh6 Vx9 (fun x10 => ?_)
    exact nt_fk (n_X11_source_c32 Rh6 _) (by omega)
theorem n_X11_holder {ρ : Nat → Nat} {D F : Nat → Prop} {h0 : nk_H} {u v : Nat}   {h yh : nk_H} (Rh : nt_R ρ D F h0 u v yh h) {t0 yt0 : Nat} (At0 : nt_A ρ D (nk_N h) t0 yt0) (v1 : Int32) : nt_F ρ D F h0 u v (nk_N h) nt_q (f_X11_holder h t0 v1) (f_X11_holder yh yt0 v1) := by
  unfold f_X11_holder
  refine nt_rcv Rh (nt_vS At0) (fun a1 ya1 Aa1 => ?_)
  refine nt_dt (by omega) (n_X11_mustBePower Rh (nt_am Aa1 (by omega)) _) (fun h2 yh2 x3 Rh2 Lh2 => ?_)
  refine nt_gP Rh2 (nt_vS At0) (fun x4 yx4 Vx4 => ?_)
  refine nt_rcv Rh2 Vx4 (fun a5 ya5 Aa5 => ?_)
  refine nt_doV (n_Jx4a65c_get_915e3 Rh2 (nt_am Aa5 (by omega)) _) (fun h6 yh6 x7 yx7 Rh6 Vx7 Lh6 => ?_)
  refine nt_cc Rh6 Vx7 ?_
  refine nt_gI Rh6 Vx7 (fun x9 => ?_)
  exact nt_ret Rh6 rfl (by omega)
theorem n_X11_isGood {ρ : Nat → Nat} {D F : Nat → Prop} {h0 : nk_H} {u v : Nat}   {h yh : nk_H} (Rh : nt_R ρ D F h0 u v yh h) {t0 yt0 : Nat} (At0 : nt_A ρ D (nk_N h) t0 yt0) (v1 : Int32) (v2 : Int32) : nt_F ρ D F h0 u v (nk_N h) nt_q (f_X11_isGood h t0 v1 v2) (f_X11_isGood yh yt0 v1 v2) := by
  unfold f_X11_isGood
  refine nt_dt (by omega) (n_X11_mustBeKiosk Rh _) (fun h1 yh1 x2 Rh1 Lh1 => ?_)
  refine nt_rcv Rh1 (nt_vS At0) (fun a3 ya3 Aa3 => ?_)
  refine nt_dt (by omega) (n_X11_mustBePower Rh1 (nt_am Aa3 (by omega)) _) (fun h4 yh4 x5 Rh4 Lh4 => ?_)
  refine nt_gP Rh4 (nt_vS At0) (fun x6 yx6 Vx6 => ?_)
  refine nt_rcv Rh4 Vx6 (fun a7 ya7 Aa7 => ?_)
  refine nt_doV (n_Jx4a65c_get_915e3 Rh4 (nt_am Aa7 (by omega)) _) (fun h8 yh8 x9 yx9 Rh8 Vx9 Lh8 => ?_)
  refine nt_cc Rh8 Vx9 ?_
  refine nt_rcv Rh8 (nt_vS At0) (fun a11 ya11 Aa11 => ?_)
  refine nt_doE (n_X11_isGoodAt Rh8 (nt_am Aa11 (by omega)) _ (nt_vm Vx9 (by omega))) (fun h12 yh12 x13 Rh12 Lh12 => ?_)
  exact nt_zr Rh12 _ rfl (by omega)
theorem n_X11_done {ρ : Nat → Nat} {D F : Nat → Prop} {h0 : nk_H} {u v : Nat}   {h yh : nk_H} (Rh : nt_R ρ D F h0 u v yh h) {t0 yt0 : Nat} (At0 : nt_A ρ D (nk_N h) t0 yt0) (v1 : Int32) (v2 : Int32) : nt_F ρ D F h0 u v (nk_N h) nt_q (f_X11_done h t0 v1 v2) (f_X11_done yh yt0 v1 v2) := by
  unfold f_X11_done
  refine nt_dt (by omega) (n_X11_mustBeKiosk Rh _) (fun h1 yh1 x2 Rh1 Lh1 => ?_)
  refine nt_rcv Rh1 (nt_vS At0) (fun a3 ya3 Aa3 => ?_)
  refine nt_dt (by omega) (n_X11_mustBePower Rh1 (nt_am Aa3 (by omega)) _) (fun h4 yh4 x5 Rh4 Lh4 => ?_)
  refine nt_gP Rh4 (nt_vS At0) (fun x6 yx6 Vx6 => ?_)
  refine nt_rcv Rh4 Vx6 (fun a7 ya7 Aa7 => ?_)
  refine nt_doE (n_X7_lookAtRead Rh4 (nt_am Aa7 (by omega)) _) (fun h8 yh8 x9 Rh8 Lh8 => ?_)
  refine nt_gP Rh8 (nt_vS At0) (fun x10 yx10 Vx10 => ?_)
  refine nt_gP Rh8 (nt_vS At0) (fun x11 yx11 Vx11 => ?_)
  refine nt_rcv Rh8 Vx11 (fun a12 ya12 Aa12 => ?_)
  refine nt_doV (n_Jx4a65c_get_915e3 Rh8 (nt_am Aa12 (by omega)) _) (fun h13 yh13 x14 yx14 Rh13 Vx14 Lh13 => ?_)
  refine nt_cc Rh13 Vx14 ?_
  refine nt_rcv Rh13 Vx10 (fun a16 ya16 Aa16 => ?_)
  refine nt_doE (n_X7_doneWith Rh13 (nt_am Aa16 (by omega)) (nt_vm Vx14 (by omega))) (fun h17 yh17 x18 Rh17 Lh17 => ?_)
  exact nt_ret Rh17 rfl (by omega)
theorem n_X11_against {ρ : Nat → Nat} {D F : Nat → Prop} {h0 : nk_H} {u v : Nat}   {h yh : nk_H} (Rh : nt_R ρ D F h0 u v yh h) {t0 yt0 : Nat} (At0 : nt_A ρ D (nk_N h) t0 yt0) (v1 : Int32) (v2 : Int32) (v3 : Int32) (v4 : Int32) : nt_F ρ D F h0 u v (nk_N h) nt_q (f_X11_against h t0 v1 v2 v3 v4) (f_X11_against yh yt0 v1 v2 v3 v4) := by
  unfold f_X11_against
  refine nt_dt (by omega) (n_X11_mustBeKiosk Rh _) (fun h1 yh1 x2 Rh1 Lh1 => ?_)
  refine nt_dt (by omega) (n_X11_mustBePerson Rh1 _) (fun h3 yh3 x4 Rh3 Lh3 => ?_)
  refine nt_rcv Rh3 (nt_vS At0) (fun a5 ya5 Aa5 => ?_)
  refine nt_dt (by omega) (n_X11_mustBePower Rh3 (nt_am Aa5 (by omega)) _) (fun h6 yh6 x7 Rh6 Lh6 => ?_)
  refine nt_dt (by omega) (n_X11_mustBeWithin Rh6 _ _ _) (fun h8 yh8 x9 Rh8 Lh8 => ?_)
  refine nt_gP Rh8 (nt_vS At0) (fun x10 yx10 Vx10 => ?_)
  refine nt_rcv Rh8 Vx10 (fun a11 ya11 Aa11 => ?_)
  refine nt_doE (n_X7_lookAtRead Rh8 (nt_am Aa11 (by omega)) _) (fun h12 yh12 x13 Rh12 Lh12 => ?_)
  refine nt_gP Rh12 (nt_vS At0) (fun x14 yx14 Vx14 => ?_)
  refine nt_gP Rh12 (nt_vS At0) (fun x15 yx15 Vx15 => ?_)
  refine nt_rcv Rh12 Vx15 (fun a16 ya16 Aa16 => ?_)
  refine nt_doV (n_Jx4a65c_get_915e3 Rh12 (nt_am Aa16 (by omega)) _) (fun h17 yh17 x18 yx18 Rh17 Vx18 Lh17 => ?_)
  refine nt_cc Rh17 Vx18 ?_
  refine nt_rcv Rh17 (nt_vS At0) (fun a20 ya20 Aa20 => ?_)
  refine nt_doV (n_X11_deedNow Rh17 (nt_am Aa20 (by omega)) _ _ _) (fun h21 yh21 x22 yx22 Rh21 Vx22 Lh21 => ?_)
  refine nt_rcv Rh21 Vx14 (fun a23 ya23 Aa23 => ?_)
  refine nt_doE (n_X7_reasonAgainst Rh21 (nt_am Aa23 (by omega)) (nt_vm Vx18 (by omega)) (nt_vm Vx22 (by omega))) (fun h24 yh24 x25 Rh24 Lh24 => ?_)
  exact nt_ret Rh24 rfl (by omega)
theorem n_X11_choices_c78 {ρ : Nat → Nat} {D F : Nat → Prop} {h0 : nk_H} {u v : Nat} {r39 r39' : nk_H → Nat → Option Nat → Int32 → Int32 → Option (nk_H × (Int32 ⊕ String))} (hr39 : ∀ (g h : nk_H) (a1 b1 : Nat) (p2 q2 : Option Nat) (i3 : Int32) (i4 : Int32), nt_R ρ D F h0 u v h g → nt_A ρ D (nk_N g) a1 b1 → nt_V ρ D (nk_N g) p2 q2 → nt_F ρ D F h0 u v (nk_N g) nt_q (r39 g a1 p2 i3 i4) (r39' h b1 q2 i3 i4)) {h yh : nk_H} (Rh : nt_R ρ D F h0 u v yh h) {t0 yt0 : Nat} (At0 : nt_A ρ D (nk_N h) t0 yt0) {v4 yv4 : Option Nat} (Vv4 : nt_V ρ D (nk_N h) v4 yv4) (v5 : Int32) (v6 : Int32) : nt_F ρ D F h0 u v (nk_N h) nt_q (f_X11_choices_c78 r39 h t0 v4 v5 v6) (f_X11_choices_c78 r39' yh yt0 yv4 v5 v6) := by
  unfold f_X11_choices_c78
  exact nt_fk (hr39 _ _ _ _ _ _ _ _ Rh (nt_am At0 (by omega)) (nt_vm Vv4 (by omega))) (by omega)
theorem n_X11_choices_c39 {ρ : Nat → Nat} {D F : Nat → Prop} {h0 : nk_H} {u v : Nat} {r39 r39' : nk_H → Nat → Option Nat → Int32 → Int32 → Option (nk_H × (Int32 ⊕ String))} (hr39 : ∀ (g h : nk_H) (a1 b1 : Nat) (p2 q2 : Option Nat) (i3 : Int32) (i4 : Int32), nt_R ρ D F h0 u v h g → nt_A ρ D (nk_N g) a1 b1 → nt_V ρ D (nk_N g) p2 q2 → nt_F ρ D F h0 u v (nk_N g) nt_q (r39 g a1 p2 i3 i4) (r39' h b1 q2 i3 i4)) {h yh : nk_H} (Rh : nt_R ρ D F h0 u v yh h) {t0 yt0 : Nat} (At0 : nt_A ρ D (nk_N h) t0 yt0) {v4 yv4 : Option Nat} (Vv4 : nt_V ρ D (nk_N h) v4 yv4) (v5 : Int32) (v6 : Int32) : nt_F ρ D F h0 u v (nk_N h) nt_q (f_X11_choices_c39 r39 h t0 v4 v5 v6) (f_X11_choices_c39 r39' yh yt0 yv4 v5 v6) := by
  unfold f_X11_choices_c39
  refine nt_gP Rh (nt_vS At0) (fun x1 yx1 Vx1 => ?_)
  refine nt_rcv Rh Vx1 (fun a2 ya2 Aa2 => ?_)
  refine nt_doE (n_Jx4a65c_size_8abf5 Rh (nt_am Aa2 (by omega))) (fun h3 yh3 x4 Rh3 Lh3 => ?_)
  refine nt_ite ?_ ?_
  · exact nt_ret Rh3 rfl (by omega)
  · refine nt_gP Rh3 (nt_vS At0) (fun x5 yx5 Vx5 => ?_)
    refine nt_gP Rh3 (nt_vS At0) (fun x6 yx6 Vx6 => ?_)
    refine nt_rcv Rh3 Vx6 (fun a7 ya7 Aa7 => ?_)
    refine nt_doV (n_Jx4a65c_get_915e3 Rh3 (nt_am Aa7 (by omega)) _) (fun h8 yh8 x9 yx9 Rh8 Vx9 Lh8 => ?_)
    refine nt_cc Rh8 Vx9 ?_
    refine nt_rcv Rh8 Vx5 (fun a11 ya11 Aa11 => ?_)
    refine nt_doE (n_X7_reasonAgainst Rh8 (nt_am Aa11 (by omega)) (nt_vm Vx9 (by omega)) (nt_vm Vv4 (by omega))) (fun h12 yh12 x13 Rh12 Lh12 => ?_)
    refine nt_ite ?_ ?_
    · exact nt_fk (n_X11_choices_c78 hr39 Rh12 (nt_am At0 (by omega)) (nt_vm Vv4 (by omega)) _ _) (by omega)
    · exact nt_fk (n_X11_choices_c78 hr39 Rh12 (nt_am At0 (by omega)) (nt_vm Vv4 (by omega)) _ _) (by omega)
theorem n_X11_choices_b39 {ρ : Nat → Nat} {D F : Nat → Prop} {h0 : nk_H} {u v : Nat}   : ∀ (n : Nat) {g h : nk_H} (R : nt_R ρ D F h0 u v h g) {a1 b1 : Nat} (A1 : nt_A ρ D (nk_N g) a1 b1) {p2 q2 : Option Nat} (V2 : nt_V ρ D (nk_N g) p2 q2) (i3 : Int32) (i4 : Int32), nt_F ρ D F h0 u v (nk_N g) nt_q (f_X11_choices_b39 n g a1 p2 i3 i4) (f_X11_choices_b39 n h b1 q2 i3 i4)
  | 0, _, _, _, _, _, _, _, _, _, _, _ => nt_none
  | n + 1, _, _, R, _, _, A1, _, _, V2, i3, i4 => n_X11_choices_c39 (fun g h a1 b1 p2 q2 i3 i4 R A1 V2 => n_X11_choices_b39 n R A1 V2 i3 i4) R A1 V2 i3 i4
theorem n_X11_choices {ρ : Nat → Nat} {D F : Nat → Prop} {h0 : nk_H} {u v : Nat}   {h yh : nk_H} (Rh : nt_R ρ D F h0 u v yh h) {t0 yt0 : Nat} (At0 : nt_A ρ D (nk_N h) t0 yt0) (v1 : Int32) (v2 : Int32) (v3 : Int32) : nt_F ρ D F h0 u v (nk_N h) nt_q (f_X11_choices h t0 v1 v2 v3) (f_X11_choices yh yt0 v1 v2 v3) := by
  unfold f_X11_choices
  refine nt_dt (by omega) (n_X11_mustBeKiosk Rh _) (fun h14 yh14 x15 Rh14 Lh14 => ?_)
  refine nt_dt (by omega) (n_X11_mustBePerson Rh14 _) (fun h16 yh16 x17 Rh16 Lh16 => ?_)
  refine nt_dt (by omega) (n_X11_mustBeWithin Rh16 _ _ _) (fun h18 yh18 x19 Rh18 Lh18 => ?_)
  refine nt_rcv Rh18 (nt_vS At0) (fun a20 ya20 Aa20 => ?_)
  refine nt_doV (n_X11_deedNow Rh18 (nt_am Aa20 (by omega)) _ _ _) (fun h21 yh21 x22 yx22 Rh21 Vx22 Lh21 => ?_)
  refine nt_gP Rh21 (nt_vS At0) (fun x23 yx23 Vx23 => ?_)
  refine nt_rcv Rh21 Vx23 (fun a24 ya24 Aa24 => ?_)
  refine nt_doE (n_X7_lookAtRead Rh21 (nt_am Aa24 (by omega)) _) (fun h25 yh25 x26 Rh25 Lh25 => ?_)
  exact nt_fk (n_X11_choices_b39 _ Rh25 (nt_am At0 (by omega)) (nt_vm Vx22 (by omega)) _ _) (by omega)
theorem n_X11_stands {ρ : Nat → Nat} {D F : Nat → Prop} {h0 : nk_H} {u v : Nat}   {h yh : nk_H} (Rh : nt_R ρ D F h0 u v yh h) {t0 yt0 : Nat} (At0 : nt_A ρ D (nk_N h) t0 yt0) (v1 : Int32) (v2 : Int32) : nt_F ρ D F h0 u v (nk_N h) nt_q (f_X11_stands h t0 v1 v2) (f_X11_stands yh yt0 v1 v2) := by
  unfold f_X11_stands
  refine nt_rcv Rh (nt_vS At0) (fun a1 ya1 Aa1 => ?_)
  refine nt_dt (by omega) (n_X11_mustBeRecord Rh (nt_am Aa1 (by omega)) _ _) (fun h2 yh2 x3 Rh2 Lh2 => ?_)
  refine nt_gP Rh2 (nt_vS At0) (fun x4 yx4 Vx4 => ?_)
  refine nt_aP Rh2 Vx4 (fun x5 yx5 Vx5 => ?_)
  refine nt_rcv Rh2 Vx5 (fun a6 ya6 Aa6 => ?_)
  refine nt_doV (n_X1_actOf Rh2 (nt_am Aa6 (by omega)) _) (fun h7 yh7 x8 yx8 Rh7 Vx8 Lh7 => ?_)
  refine nt_gI Rh7 Vx8 (fun x9 => ?_)
  exact nt_zr Rh7 _ rfl (by omega)
theorem n_X11_fault {ρ : Nat → Nat} {D F : Nat → Prop} {h0 : nk_H} {u v : Nat}   {h yh : nk_H} (Rh : nt_R ρ D F h0 u v yh h) {t0 yt0 : Nat} (At0 : nt_A ρ D (nk_N h) t0 yt0) (v1 : Int32) (v2 : Int32) : nt_F ρ D F h0 u v (nk_N h) nt_q (f_X11_fault h t0 v1 v2) (f_X11_fault yh yt0 v1 v2) := by
  unfold f_X11_fault
  refine nt_rcv Rh (nt_vS At0) (fun a1 ya1 Aa1 => ?_)
  refine nt_dt (by omega) (n_X11_mustBeRecord Rh (nt_am Aa1 (by omega)) _ _) (fun h2 yh2 x3 Rh2 Lh2 => ?_)
  refine nt_gP Rh2 (nt_vS At0) (fun x4 yx4 Vx4 => ?_)
  refine nt_aP Rh2 Vx4 (fun x5 yx5 Vx5 => ?_)
  refine nt_rcv Rh2 Vx5 (fun a6 ya6 Aa6 => ?_)
  refine nt_doV (n_X1_actOf Rh2 (nt_am Aa6 (by omega)) _) (fun h7 yh7 x8 yx8 Rh7 Vx8 Lh7 => ?_)
  refine nt_rcv Rh7 (nt_vS At0) (fun a9 ya9 Aa9 => ?_)
  refine nt_doE (n_X11_reasonByMail Rh7 (nt_am Aa9 (by omega)) (nt_vm Vx8 (by omega))) (fun h10 yh10 x11 Rh10 Lh10 => ?_)
  exact nt_ret Rh10 rfl (by omega)
theorem n_X11_standing_c4 {ρ : Nat → Nat} {D F : Nat → Prop} {h0 : nk_H} {u v : Nat} {r4 r4' : nk_H → Nat → Int32 → Int32 → Option (nk_H × Int32)} (hr4 : ∀ (g h : nk_H) (a1 b1 : Nat) (i2 : Int32) (i3 : Int32), nt_R ρ D F h0 u v h g → nt_A ρ D (nk_N g) a1 b1 → nt_F ρ D F h0 u v (nk_N g) nt_q (r4 g a1 i2 i3) (r4' h b1 i2 i3)) {h yh : nk_H} (Rh : nt_R ρ D F h0 u v yh h) {t0 yt0 : Nat} (At0 : nt_A ρ D (nk_N h) t0 yt0) (v1 : Int32) (v2 : Int32) : nt_F ρ D F h0 u v (nk_N h) nt_q (f_X11_standing_c4 r4 h t0 v1 v2) (f_X11_standing_c4 r4' yh yt0 v1 v2) := by
  unfold f_X11_standing_c4
  refine nt_ite ?_ ?_
  · exact nt_ret Rh rfl (by omega)
  · refine nt_gP Rh (nt_vS At0) (fun x1 yx1 Vx1 => ?_)
    refine nt_aP Rh Vx1 (fun x2 yx2 Vx2 => ?_)
    refine nt_rcv Rh Vx2 (fun a3 ya3 Aa3 => ?_)
    refine nt_doE (n_X1_countStanding Rh (nt_am Aa3 (by omega))) (fun h4 yh4 x5 Rh4 Lh4 => ?_)
    exact nt_fk (hr4 _ _ _ _ _ _ Rh4 (nt_am At0 (by omega))) (by omega)
theorem n_X11_standing_b4 {ρ : Nat → Nat} {D F : Nat → Prop} {h0 : nk_H} {u v : Nat}   : ∀ (n : Nat) {g h : nk_H} (R : nt_R ρ D F h0 u v h g) {a1 b1 : Nat} (A1 : nt_A ρ D (nk_N g) a1 b1) (i2 : Int32) (i3 : Int32), nt_F ρ D F h0 u v (nk_N g) nt_q (f_X11_standing_b4 n g a1 i2 i3) (f_X11_standing_b4 n h b1 i2 i3)
  | 0, _, _, _, _, _, _, _, _ => nt_none
  | n + 1, _, _, R, _, _, A1, i2, i3 => n_X11_standing_c4 (fun g h a1 b1 i2 i3 R A1 => n_X11_standing_b4 n R A1 i2 i3) R A1 i2 i3
theorem n_X11_standing {ρ : Nat → Nat} {D F : Nat → Prop} {h0 : nk_H} {u v : Nat}   {h yh : nk_H} (Rh : nt_R ρ D F h0 u v yh h) {t0 yt0 : Nat} (At0 : nt_A ρ D (nk_N h) t0 yt0) : nt_F ρ D F h0 u v (nk_N h) nt_q (f_X11_standing h t0) (f_X11_standing yh yt0) := by
  unfold f_X11_standing
  exact nt_fk (n_X11_standing_b4 _ Rh (nt_am At0 (by omega)) _ _) (by omega)
theorem n_X11_pieceOf {ρ : Nat → Nat} {D F : Nat → Prop} {h0 : nk_H} {u v : Nat}   {h yh : nk_H} (Rh : nt_R ρ D F h0 u v yh h) {t0 yt0 : Nat} (At0 : nt_A ρ D (nk_N h) t0 yt0) (v1 : Int32) (v2 : Int32) : nt_F ρ D F h0 u v (nk_N h) nt_q (f_X11_pieceOf h t0 v1 v2) (f_X11_pieceOf yh yt0 v1 v2) := by
  unfold f_X11_pieceOf
  refine nt_rcv Rh (nt_vS At0) (fun a1 ya1 Aa1 => ?_)
  refine nt_dt (by omega) (n_X11_mustBeRecord Rh (nt_am Aa1 (by omega)) _ _) (fun h2 yh2 x3 Rh2 Lh2 => ?_)
  refine nt_gP Rh2 (nt_vS At0) (fun x4 yx4 Vx4 => ?_)
  refine nt_aP Rh2 Vx4 (fun x5 yx5 Vx5 => ?_)
  refine nt_rcv Rh2 Vx5 (fun a6 ya6 Aa6 => ?_)
  refine nt_doV (n_X1_actOf Rh2 (nt_am Aa6 (by omega)) _) (fun h7 yh7 x8 yx8 Rh7 Vx8 Lh7 => ?_)
  refine nt_gI Rh7 Vx8 (fun x9 => ?_)
  exact nt_ret Rh7 rfl (by omega)
theorem n_X11_part {ρ : Nat → Nat} {D F : Nat → Prop} {h0 : nk_H} {u v : Nat}   {h yh : nk_H} (Rh : nt_R ρ D F h0 u v yh h) {t0 yt0 : Nat} (At0 : nt_A ρ D (nk_N h) t0 yt0) (v1 : Int32) (v2 : Int32) (v3 : Int32) : nt_F ρ D F h0 u v (nk_N h) nt_q (f_X11_part h t0 v1 v2 v3) (f_X11_part yh yt0 v1 v2 v3) := by
  unfold f_X11_part
  refine nt_rcv Rh (nt_vS At0) (fun a1 ya1 Aa1 => ?_)
  refine nt_dt (by omega) (n_X11_mustBeRecord Rh (nt_am Aa1 (by omega)) _ _) (fun h2 yh2 x3 Rh2 Lh2 => ?_)
  refine nt_dt (by omega) (n_X11_mustBePart Rh2 _) (fun h4 yh4 x5 Rh4 Lh4 => ?_)
  refine nt_gP Rh4 (nt_vS At0) (fun x6 yx6 Vx6 => ?_)
  refine nt_aP Rh4 Vx6 (fun x7 yx7 Vx7 => ?_)
  refine nt_rcv Rh4 Vx7 (fun a8 ya8 Aa8 => ?_)
  refine nt_doV (n_X1_actOf Rh4 (nt_am Aa8 (by omega)) _) (fun h9 yh9 x10 yx10 Rh9 Vx10 Lh9 => ?_)
  refine nt_gP Rh9 Vx10 (fun x11 yx11 Vx11 => ?_)
  refine nt_aI Rh9 Vx11 (fun x12 => ?_)
  exact nt_ret Rh9 rfl (by omega)
theorem n_X11_seal {ρ : Nat → Nat} {D F : Nat → Prop} {h0 : nk_H} {u v : Nat}   {h yh : nk_H} (Rh : nt_R ρ D F h0 u v yh h) {t0 yt0 : Nat} (At0 : nt_A ρ D (nk_N h) t0 yt0) (v1 : Int32) (v2 : Int32) : nt_F ρ D F h0 u v (nk_N h) nt_q (f_X11_seal h t0 v1 v2) (f_X11_seal yh yt0 v1 v2) := by
  unfold f_X11_seal
  refine nt_rcv Rh (nt_vS At0) (fun a1 ya1 Aa1 => ?_)
  refine nt_dt (by omega) (n_X11_mustBeRecord Rh (nt_am Aa1 (by omega)) _ _) (fun h2 yh2 x3 Rh2 Lh2 => ?_)
  refine nt_gP Rh2 (nt_vS At0) (fun x4 yx4 Vx4 => ?_)
  refine nt_aP Rh2 Vx4 (fun x5 yx5 Vx5 => ?_)
  refine nt_rcv Rh2 Vx5 (fun a6 ya6 Aa6 => ?_)
  refine nt_doV (n_X1_actOf Rh2 (nt_am Aa6 (by omega)) _) (fun h7 yh7 x8 yx8 Rh7 Vx8 Lh7 => ?_)
  refine nt_gI Rh7 Vx8 (fun x9 => ?_)
  exact nt_ret Rh7 rfl (by omega)
theorem n_X11_broken {ρ : Nat → Nat} {D F : Nat → Prop} {h0 : nk_H} {u v : Nat}   {h yh : nk_H} (Rh : nt_R ρ D F h0 u v yh h) {t0 yt0 : Nat} (At0 : nt_A ρ D (nk_N h) t0 yt0) (v1 : Int32) : nt_F ρ D F h0 u v (nk_N h) nt_q (f_X11_broken h t0 v1) (f_X11_broken yh yt0 v1) := by
  unfold f_X11_broken
  refine nt_dt (by omega) (n_X11_mustBeKiosk Rh _) (fun h1 yh1 x2 Rh1 Lh1 => ?_)
  refine nt_gP Rh1 (nt_vS At0) (fun x3 yx3 Vx3 => ?_)
  refine nt_aP Rh1 Vx3 (fun x4 yx4 Vx4 => ?_)
  refine nt_rcv Rh1 Vx4 (fun a5 ya5 Aa5 => ?_)
  refine nt_doE (n_X1_firstBroken Rh1 (nt_am Aa5 (by omega))) (fun h6 yh6 x7 Rh6 Lh6 => ?_)
  exact nt_ret Rh6 rfl (by omega)
theorem n_X11_size {ρ : Nat → Nat} {D F : Nat → Prop} {h0 : nk_H} {u v : Nat}   {h yh : nk_H} (Rh : nt_R ρ D F h0 u v yh h) {t0 yt0 : Nat} (At0 : nt_A ρ D (nk_N h) t0 yt0) (v1 : Int32) : nt_F ρ D F h0 u v (nk_N h) nt_q (f_X11_size h t0 v1) (f_X11_size yh yt0 v1) := by
  unfold f_X11_size
  refine nt_rcv Rh (nt_vS At0) (fun a1 ya1 Aa1 => ?_)
  refine nt_dt (by omega) (n_X11_mustBeCopy Rh (nt_am Aa1 (by omega)) _) (fun h2 yh2 x3 Rh2 Lh2 => ?_)
  refine nt_gP Rh2 (nt_vS At0) (fun x4 yx4 Vx4 => ?_)
  refine nt_rcv Rh2 Vx4 (fun a5 ya5 Aa5 => ?_)
  refine nt_doV (n_Jx4a65c_get_915e3 Rh2 (nt_am Aa5 (by omega)) _) (fun h6 yh6 x7 yx7 Rh6 Vx7 Lh6 => ?_)
  refine nt_cc Rh6 Vx7 ?_
  refine nt_gI Rh6 Vx7 (fun x9 => ?_)
  exact nt_ret Rh6 rfl (by omega)
theorem n_X11_copied_c45 {ρ : Nat → Nat} {D F : Nat → Prop} {h0 : nk_H} {u v : Nat}   {h yh : nk_H} (Rh : nt_R ρ D F h0 u v yh h) (s0 : Int32) : nt_F ρ D F h0 u v (nk_N h) nt_q (f_X11_copied_c45 h s0) (f_X11_copied_c45 yh s0) := by
  unfold f_X11_copied_c45
  exact nt_ret Rh rfl (by omega)
theorem n_X11_copied {ρ : Nat → Nat} {D F : Nat → Prop} {h0 : nk_H} {u v : Nat}   {h yh : nk_H} (Rh : nt_R ρ D F h0 u v yh h) {t0 yt0 : Nat} (At0 : nt_A ρ D (nk_N h) t0 yt0) (v1 : Int32) (v2 : Int32) (v3 : Int32) : nt_F ρ D F h0 u v (nk_N h) nt_q (f_X11_copied h t0 v1 v2 v3) (f_X11_copied yh yt0 v1 v2 v3) := by
  unfold f_X11_copied
  refine nt_rcv Rh (nt_vS At0) (fun a1 ya1 Aa1 => ?_)
  refine nt_dt (by omega) (n_X11_mustBePlace Rh (nt_am Aa1 (by omega)) _ _) (fun h2 yh2 x3 Rh2 Lh2 => ?_)
  refine nt_dt (by omega) (n_X11_mustBePart Rh2 _) (fun h4 yh4 x5 Rh4 Lh4 => ?_)
  refine nt_gP Rh4 (nt_vS At0) (fun x6 yx6 Vx6 => ?_)
  refine nt_rcv Rh4 Vx6 (fun a7 ya7 Aa7 => ?_)
  refine nt_doV (n_Jx4a65c_get_915e3 Rh4 (nt_am Aa7 (by omega)) _) (fun h8 yh8 x9 yx9 Rh8 Vx9 Lh8 => ?_)
  refine nt_cc Rh8 Vx9 ?_
  refine nt_rcv Rh8 Vx9 (fun a11 ya11 Aa11 => ?_)
  refine nt_doE (n_X2_leavesOut Rh8 (nt_am Aa11 (by omega)) _) (fun h12 yh12 x13 Rh12 Lh12 => ?_)
  refine nt_ite ?_ ?_
  · refine nt_gP Rh12 Vx9 (fun x14 yx14 Vx14 => ?_)
    refine nt_aP Rh12 Vx14 (fun x15 yx15 Vx15 => ?_)
    refine nt_aI Rh12 Vx15 (fun x16 => ?_)
    exact nt_fk (n_X11_copied_c45 Rh12 _) (by omega)
  · exact nt_fk (n_X11_copied_c45 Rh12 _) (by omega)
theorem n_X11_brokenCopy {ρ : Nat → Nat} {D F : Nat → Prop} {h0 : nk_H} {u v : Nat}   {h yh : nk_H} (Rh : nt_R ρ D F h0 u v yh h) {t0 yt0 : Nat} (At0 : nt_A ρ D (nk_N h) t0 yt0) (v1 : Int32) : nt_F ρ D F h0 u v (nk_N h) nt_q (f_X11_brokenCopy h t0 v1) (f_X11_brokenCopy yh yt0 v1) := by
  unfold f_X11_brokenCopy
  refine nt_rcv Rh (nt_vS At0) (fun a1 ya1 Aa1 => ?_)
  refine nt_dt (by omega) (n_X11_mustBeCopy Rh (nt_am Aa1 (by omega)) _) (fun h2 yh2 x3 Rh2 Lh2 => ?_)
  refine nt_gP Rh2 (nt_vS At0) (fun x4 yx4 Vx4 => ?_)
  refine nt_rcv Rh2 Vx4 (fun a5 ya5 Aa5 => ?_)
  refine nt_doV (n_Jx4a65c_get_915e3 Rh2 (nt_am Aa5 (by omega)) _) (fun h6 yh6 x7 yx7 Rh6 Vx7 Lh6 => ?_)
  refine nt_cc Rh6 Vx7 ?_
  refine nt_rcv Rh6 Vx7 (fun a9 ya9 Aa9 => ?_)
  refine nt_doE (n_X2_firstBroken Rh6 (nt_am Aa9 (by omega))) (fun h10 yh10 x11 Rh10 Lh10 => ?_)
  exact nt_ret Rh10 rfl (by omega)
theorem n_X11_isTrue {ρ : Nat → Nat} {D F : Nat → Prop} {h0 : nk_H} {u v : Nat}   {h yh : nk_H} (Rh : nt_R ρ D F h0 u v yh h) {t0 yt0 : Nat} (At0 : nt_A ρ D (nk_N h) t0 yt0) (v1 : Int32) : nt_F ρ D F h0 u v (nk_N h) nt_q (f_X11_isTrue h t0 v1) (f_X11_isTrue yh yt0 v1) := by
  unfold f_X11_isTrue
  refine nt_rcv Rh (nt_vS At0) (fun a1 ya1 Aa1 => ?_)
  refine nt_dt (by omega) (n_X11_mustBeCopy Rh (nt_am Aa1 (by omega)) _) (fun h2 yh2 x3 Rh2 Lh2 => ?_)
  refine nt_gP Rh2 (nt_vS At0) (fun x4 yx4 Vx4 => ?_)
  refine nt_rcv Rh2 Vx4 (fun a5 ya5 Aa5 => ?_)
  refine nt_doV (n_Jx4a65c_get_915e3 Rh2 (nt_am Aa5 (by omega)) _) (fun h6 yh6 x7 yx7 Rh6 Vx7 Lh6 => ?_)
  refine nt_cc Rh6 Vx7 ?_
  refine nt_gP Rh6 (nt_vS At0) (fun x9 yx9 Vx9 => ?_)
  refine nt_gI Rh6 Vx7 (fun x10 => ?_)
  refine nt_aP Rh6 Vx9 (fun x11 yx11 Vx11 => ?_)
  refine nt_rcv Rh6 Vx7 (fun a12 ya12 Aa12 => ?_)
  refine nt_doE (n_X2_tellsAs Rh6 (nt_am Aa12 (by omega)) (nt_vm Vx11 (by omega))) (fun h13 yh13 x14 Rh13 Lh13 => ?_)
  exact nt_zr Rh13 _ rfl (by omega)
