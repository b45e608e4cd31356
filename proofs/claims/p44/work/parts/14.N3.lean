/-! ===== naturality, function by function (by program: wip/p44/gen/gen_nat.py) ===== -/
theorem n_X7_knows_c2 {ρ : Nat → Nat} {D F : Nat → Prop} {h0 : nk_H} {u v : Nat} {r2 r2' : nk_H → Nat → Option Nat → Option (nk_H × Int32)} (hr2 : ∀ (g h : nk_H) (a1 b1 : Nat) (p2 q2 : Option Nat), nt_R ρ D F h0 u v h g → nt_A ρ D a1 b1 → nt_V ρ D p2 q2 → nt_F ρ D F h0 u v Eq (r2 g a1 p2) (r2' h b1 q2)) {h yh : nk_H} (Rh : nt_R ρ D F h0 u v yh h) {t0 yt0 : Nat} (At0 : nt_A ρ D t0 yt0) {v2 yv2 : Option Nat} (Vv2 : nt_V ρ D v2 yv2) : nt_F ρ D F h0 u v Eq (f_X7_knows_c2 r2 h t0 v2) (f_X7_knows_c2 r2' yh yt0 yv2) := by
  unfold f_X7_knows_c2
  refine nt_iteP (nt_eq Rh Vv2 nt_vn) ?_ ?_
  · exact nt_zr Rh _ rfl
  · refine nt_gI Rh Vv2 (fun x1 => ?_)
    refine nt_rcv Rh (nt_vS At0) (fun a2 ya2 Aa2 => ?_)
    refine nt_doE (n_X7_sees Rh Aa2 _) (fun h3 yh3 x4 Rh3 => ?_)
    refine nt_ite ?_ ?_
    · exact nt_zr Rh3 _ rfl
    · refine nt_gP Rh3 Vv2 (fun x5 yx5 Vx5 => ?_)
      exact (hr2 _ _ _ _ _ _ Rh3 At0 Vx5)
theorem n_X7_knows_b2 {ρ : Nat → Nat} {D F : Nat → Prop} {h0 : nk_H} {u v : Nat}   : ∀ (n : Nat) {g h : nk_H} (R : nt_R ρ D F h0 u v h g) {a1 b1 : Nat} (A1 : nt_A ρ D a1 b1) {p2 q2 : Option Nat} (V2 : nt_V ρ D p2 q2), nt_F ρ D F h0 u v Eq (f_X7_knows_b2 n g a1 p2) (f_X7_knows_b2 n h b1 q2)
  | 0, _, _, _, _, _, _, _, _, _ => nt_none
  | n + 1, _, _, R, _, _, A1, _, _, V2 => n_X7_knows_c2 (fun g h a1 b1 p2 q2 R A1 V2 => n_X7_knows_b2 n R A1 V2) R A1 V2
theorem n_X7_knows {ρ : Nat → Nat} {D F : Nat → Prop} {h0 : nk_H} {u v : Nat}   {h yh : nk_H} (Rh : nt_R ρ D F h0 u v yh h) {t0 yt0 : Nat} (At0 : nt_A ρ D t0 yt0) {v1 yv1 : Option Nat} (Vv1 : nt_V ρ D v1 yv1) : nt_F ρ D F h0 u v Eq (f_X7_knows h t0 v1) (f_X7_knows yh yt0 yv1) := by
  unfold f_X7_knows
  exact (n_X7_knows_b2 _ Rh At0 Vv1)
theorem n_X8_isRevocationOf {ρ : Nat → Nat} {D F : Nat → Prop} {h0 : nk_H} {u v : Nat}   {h yh : nk_H} (Rh : nt_R ρ D F h0 u v yh h) {t0 yt0 : Nat} (At0 : nt_A ρ D t0 yt0) {v1 yv1 : Option Nat} (Vv1 : nt_V ρ D v1 yv1) : nt_F ρ D F h0 u v Eq (f_X8_isRevocationOf h t0 v1) (f_X8_isRevocationOf yh yt0 yv1) := by
  unfold f_X8_isRevocationOf
  exact nt_zr Rh _ rfl
theorem n_X10_isRevocationOf_c13 {ρ : Nat → Nat} {D F : Nat → Prop} {h0 : nk_H} {u v : Nat}   {h yh : nk_H} (Rh : nt_R ρ D F h0 u v yh h) (s0 : Int32) : nt_F ρ D F h0 u v Eq (f_X10_isRevocationOf_c13 h s0) (f_X10_isRevocationOf_c13 yh s0) := by
  unfold f_X10_isRevocationOf_c13
  exact nt_zr Rh _ rfl
theorem n_X10_isRevocationOf {ρ : Nat → Nat} {D F : Nat → Prop} {h0 : nk_H} {u v : Nat}   {h yh : nk_H} (Rh : nt_R ρ D F h0 u v yh h) {t0 yt0 : Nat} (At0 : nt_A ρ D t0 yt0) {v1 yv1 : Option Nat} (Vv1 : nt_V ρ D v1 yv1) : nt_F ρ D F h0 u v Eq (f_X10_isRevocationOf h t0 v1) (f_X10_isRevocationOf yh yt0 yv1) := by
  unfold f_X10_isRevocationOf
  refine nt_gP Rh (nt_vS At0) (fun x1 yx1 Vx1 => ?_)
  refine nt_iteP (nt_eq Rh Vx1 Vv1) ?_ ?_
  · exact (n_X10_isRevocationOf_c13 Rh _)
  · exact (n_X10_isRevocationOf_c13 Rh _)
theorem n_X7_revokesAlone_c41 {ρ : Nat → Nat} {D F : Nat → Prop} {h0 : nk_H} {u v : Nat} {r2 r2' : nk_H → Nat → Option Nat → Int32 → Option (nk_H × Int32)} (hr2 : ∀ (g h : nk_H) (a1 b1 : Nat) (p2 q2 : Option Nat) (i3 : Int32), nt_R ρ D F h0 u v h g → nt_A ρ D a1 b1 → nt_V ρ D p2 q2 → nt_F ρ D F h0 u v Eq (r2 g a1 p2 i3) (r2' h b1 q2 i3)) {h yh : nk_H} (Rh : nt_R ρ D F h0 u v yh h) {t0 yt0 : Nat} (At0 : nt_A ρ D t0 yt0) {v1 yv1 : Option Nat} (Vv1 : nt_V ρ D v1 yv1) (v2 : Int32) : nt_F ρ D F h0 u v Eq (f_X7_revokesAlone_c41 r2 h t0 v1 v2) (f_X7_revokesAlone_c41 r2' yh yt0 yv1 v2) := by
  unfold f_X7_revokesAlone_c41
  exact (hr2 _ _ _ _ _ _ _ Rh At0 Vv1)
theorem n_X7_revokesAlone_c2 {ρ : Nat → Nat} {D F : Nat → Prop} {h0 : nk_H} {u v : Nat} {r2 r2' : nk_H → Nat → Option Nat → Int32 → Option (nk_H × Int32)} (hr2 : ∀ (g h : nk_H) (a1 b1 : Nat) (p2 q2 : Option Nat) (i3 : Int32), nt_R ρ D F h0 u v h g → nt_A ρ D a1 b1 → nt_V ρ D p2 q2 → nt_F ρ D F h0 u v Eq (r2 g a1 p2 i3) (r2' h b1 q2 i3)) {h yh : nk_H} (Rh : nt_R ρ D F h0 u v yh h) {t0 yt0 : Nat} (At0 : nt_A ρ D t0 yt0) {v1 yv1 : Option Nat} (Vv1 : nt_V ρ D v1 yv1) (v2 : Int32) : nt_F ρ D F h0 u v Eq (f_X7_revokesAlone_c2 r2 h t0 v1 v2) (f_X7_revokesAlone_c2 r2' yh yt0 yv1 v2) := by
  unfold f_X7_revokesAlone_c2
  refine nt_gP Rh (nt_vS At0) (fun x1 yx1 Vx1 => ?_)
  refine nt_rcv Rh Vx1 (fun a2 ya2 Aa2 => ?_)
  refine nt_doE (n_Jx4a65c_size_8abf5 Rh Aa2) (fun h3 yh3 x4 Rh3 => ?_)
  refine nt_ite ?_ ?_
  · exact nt_zr Rh3 _ rfl
  · refine nt_rcv Rh3 (nt_vS At0) (fun a5 ya5 Aa5 => ?_)
    refine nt_doE (n_X7_sees Rh3 Aa5 _) (fun h6 yh6 x7 Rh6 => ?_)
    refine nt_ite ?_ ?_
    · exact (n_X7_revokesAlone_c41 hr2 Rh6 At0 Vv1 _)
    · refine nt_gP Rh6 (nt_vS At0) (fun x8 yx8 Vx8 => ?_)
      refine nt_rcv Rh6 Vx8 (fun a9 ya9 Aa9 => ?_)
      refine nt_doV (n_Jx4a65c_get_915e3 Rh6 Aa9 _) (fun h10 yh10 x11 yx11 Rh10 Vx11 => ?_)
      refine nt_cc Rh10 Vx11 ?_
      refine nt_rcv Rh10 Vx11 (fun a13 ya13 Aa13 => ?_)
      refine nt_doE ?_ (fun h14 yh14 x15 Rh14 => ?_)
      · refine nt_iteP (nt_k Rh10 Aa13 8) ?_ ?_
        · exact (n_X8_isRevocationOf Rh10 Aa13 Vv1)
        · refine nt_iteP (nt_k Rh10 Aa13 12) ?_ ?_
          · exact (n_X8_isRevocationOf Rh10 Aa13 Vv1)
          · refine nt_iteP (nt_k Rh10 Aa13 16) ?_ ?_
            · exact (n_X8_isRevocationOf Rh10 Aa13 Vv1)
            · exact (n_X10_isRevocationOf Rh10 Aa13 Vv1)
      · refine nt_ite ?_ ?_
        · exact (n_X7_revokesAlone_c41 hr2 Rh14 At0 Vv1 _)
        · exact nt_zr Rh14 _ rfl
theorem n_X7_revokesAlone_b2 {ρ : Nat → Nat} {D F : Nat → Prop} {h0 : nk_H} {u v : Nat}   : ∀ (n : Nat) {g h : nk_H} (R : nt_R ρ D F h0 u v h g) {a1 b1 : Nat} (A1 : nt_A ρ D a1 b1) {p2 q2 : Option Nat} (V2 : nt_V ρ D p2 q2) (i3 : Int32), nt_F ρ D F h0 u v Eq (f_X7_revokesAlone_b2 n g a1 p2 i3) (f_X7_revokesAlone_b2 n h b1 q2 i3)
  | 0, _, _, _, _, _, _, _, _, _, _ => nt_none
  | n + 1, _, _, R, _, _, A1, _, _, V2, i3 => n_X7_revokesAlone_c2 (fun g h a1 b1 p2 q2 i3 R A1 V2 => n_X7_revokesAlone_b2 n R A1 V2 i3) R A1 V2 i3
theorem n_X7_revokesAlone {ρ : Nat → Nat} {D F : Nat → Prop} {h0 : nk_H} {u v : Nat}   {h yh : nk_H} (Rh : nt_R ρ D F h0 u v yh h) {t0 yt0 : Nat} (At0 : nt_A ρ D t0 yt0) {v1 yv1 : Option Nat} (Vv1 : nt_V ρ D v1 yv1) : nt_F ρ D F h0 u v Eq (f_X7_revokesAlone h t0 v1) (f_X7_revokesAlone yh yt0 yv1) := by
  unfold f_X7_revokesAlone
  exact (n_X7_revokesAlone_b2 _ Rh At0 Vv1 _)
theorem n_X7_revokes_c2 {ρ : Nat → Nat} {D F : Nat → Prop} {h0 : nk_H} {u v : Nat} {r2 r2' : nk_H → Nat → Option Nat → Option (nk_H × Int32)} (hr2 : ∀ (g h : nk_H) (a1 b1 : Nat) (p2 q2 : Option Nat), nt_R ρ D F h0 u v h g → nt_A ρ D a1 b1 → nt_V ρ D p2 q2 → nt_F ρ D F h0 u v Eq (r2 g a1 p2) (r2' h b1 q2)) {h yh : nk_H} (Rh : nt_R ρ D F h0 u v yh h) {t0 yt0 : Nat} (At0 : nt_A ρ D t0 yt0) {v2 yv2 : Option Nat} (Vv2 : nt_V ρ D v2 yv2) : nt_F ρ D F h0 u v Eq (f_X7_revokes_c2 r2 h t0 v2) (f_X7_revokes_c2 r2' yh yt0 yv2) := by
  unfold f_X7_revokes_c2
  refine nt_iteP (nt_eq Rh Vv2 nt_vn) ?_ ?_
  · exact nt_zr Rh _ rfl
  · refine nt_rcv Rh (nt_vS At0) (fun a1 ya1 Aa1 => ?_)
    refine nt_doE (n_X7_revokesAlone Rh Aa1 Vv2) (fun h2 yh2 x3 Rh2 => ?_)
    refine nt_ite ?_ ?_
    · refine nt_gP Rh2 Vv2 (fun x4 yx4 Vx4 => ?_)
      exact (hr2 _ _ _ _ _ _ Rh2 At0 Vx4)
    · exact nt_zr Rh2 _ rfl
theorem n_X7_revokes_b2 {ρ : Nat → Nat} {D F : Nat → Prop} {h0 : nk_H} {u v : Nat}   : ∀ (n : Nat) {g h : nk_H} (R : nt_R ρ D F h0 u v h g) {a1 b1 : Nat} (A1 : nt_A ρ D a1 b1) {p2 q2 : Option Nat} (V2 : nt_V ρ D p2 q2), nt_F ρ D F h0 u v Eq (f_X7_revokes_b2 n g a1 p2) (f_X7_revokes_b2 n h b1 q2)
  | 0, _, _, _, _, _, _, _, _, _ => nt_none
  | n + 1, _, _, R, _, _, A1, _, _, V2 => n_X7_revokes_c2 (fun g h a1 b1 p2 q2 R A1 V2 => n_X7_revokes_b2 n R A1 V2) R A1 V2
theorem n_X7_revokes {ρ : Nat → Nat} {D F : Nat → Prop} {h0 : nk_H} {u v : Nat}   {h yh : nk_H} (Rh : nt_R ρ D F h0 u v yh h) {t0 yt0 : Nat} (At0 : nt_A ρ D t0 yt0) {v1 yv1 : Option Nat} (Vv1 : nt_V ρ D v1 yv1) : nt_F ρ D F h0 u v Eq (f_X7_revokes h t0 v1) (f_X7_revokes yh yt0 yv1) := by
  unfold f_X7_revokes
  exact (n_X7_revokes_b2 _ Rh At0 Vv1)
theorem n_X8_amountBy {ρ : Nat → Nat} {D F : Nat → Prop} {h0 : nk_H} {u v : Nat}   {h yh : nk_H} (Rh : nt_R ρ D F h0 u v yh h) {t0 yt0 : Nat} (At0 : nt_A ρ D t0 yt0) {v1 yv1 : Option Nat} (Vv1 : nt_V ρ D v1 yv1) : nt_F ρ D F h0 u v Eq (f_X8_amountBy h t0 v1) (f_X8_amountBy yh yt0 yv1) := by
  unfold f_X8_amountBy
  exact nt_ret Rh rfl
theorem n_X7_doneWith_c41 {ρ : Nat → Nat} {D F : Nat → Prop} {h0 : nk_H} {u v : Nat} {r4 r4' : nk_H → Nat → Option Nat → Int32 → Int32 → Option (nk_H × Int32)} (hr4 : ∀ (g h : nk_H) (a1 b1 : Nat) (p2 q2 : Option Nat) (i3 : Int32) (i4 : Int32), nt_R ρ D F h0 u v h g → nt_A ρ D a1 b1 → nt_V ρ D p2 q2 → nt_F ρ D F h0 u v Eq (r4 g a1 p2 i3 i4) (r4' h b1 q2 i3 i4)) {h yh : nk_H} (Rh : nt_R ρ D F h0 u v yh h) {t0 yt0 : Nat} (At0 : nt_A ρ D t0 yt0) {v1 yv1 : Option Nat} (Vv1 : nt_V ρ D v1 yv1) (v2 : Int32) (v3 : Int32) : nt_F ρ D F h0 u v Eq (f_X7_doneWith_c41 r4 h t0 v1 v2 v3) (f_X7_doneWith_c41 r4' yh yt0 yv1 v2 v3) := by
  unfold f_X7_doneWith_c41
  exact (hr4 _ _ _ _ _ _ _ _ Rh At0 Vv1)
theorem n_X7_doneWith_c4 {ρ : Nat → Nat} {D F : Nat → Prop} {h0 : nk_H} {u v : Nat} {r4 r4' : nk_H → Nat → Option Nat → Int32 → Int32 → Option (nk_H × Int32)} (hr4 : ∀ (g h : nk_H) (a1 b1 : Nat) (p2 q2 : Option Nat) (i3 : Int32) (i4 : Int32), nt_R ρ D F h0 u v h g → nt_A ρ D a1 b1 → nt_V ρ D p2 q2 → nt_F ρ D F h0 u v Eq (r4 g a1 p2 i3 i4) (r4' h b1 q2 i3 i4)) {h yh : nk_H} (Rh : nt_R ρ D F h0 u v yh h) {t0 yt0 : Nat} (At0 : nt_A ρ D t0 yt0) {v1 yv1 : Option Nat} (Vv1 : nt_V ρ D v1 yv1) (v2 : Int32) (v3 : Int32) : nt_F ρ D F h0 u v Eq (f_X7_doneWith_c4 r4 h t0 v1 v2 v3) (f_X7_doneWith_c4 r4' yh yt0 yv1 v2 v3) := by
  unfold f_X7_doneWith_c4
  refine nt_gP Rh (nt_vS At0) (fun x1 yx1 Vx1 => ?_)
  refine nt_rcv Rh Vx1 (fun a2 ya2 Aa2 => ?_)
  refine nt_doE (n_Jx4a65c_size_8abf5 Rh Aa2) (fun h3 yh3 x4 Rh3 => ?_)
  refine nt_ite ?_ ?_
  · exact nt_ret Rh3 rfl
  · refine nt_rcv Rh3 (nt_vS At0) (fun a5 ya5 Aa5 => ?_)
    refine nt_doE (n_X7_sees Rh3 Aa5 _) (fun h6 yh6 x7 Rh6 => ?_)
    refine nt_ite ?_ ?_
    · exact (n_X7_doneWith_c41 hr4 Rh6 At0 Vv1 _ _)
    · refine nt_gP Rh6 (nt_vS At0) (fun x8 yx8 Vx8 => ?_)
      refine nt_rcv Rh6 Vx8 (fun a9 ya9 Aa9 => ?_)
      refine nt_doV (n_Jx4a65c_get_915e3 Rh6 Aa9 _) (fun h10 yh10 x11 yx11 Rh10 Vx11 => ?_)
      refine nt_cc Rh10 Vx11 ?_
      refine nt_rcv Rh10 Vx11 (fun a13 ya13 Aa13 => ?_)
      refine nt_doE ?_ (fun h14 yh14 x15 Rh14 => ?_)
      · refine nt_iteP (nt_k Rh10 Aa13 8) ?_ ?_
        · exact (n_X0_amountBy Rh10 Aa13 Vv1)
        · refine nt_iteP (nt_k Rh10 Aa13 12) ?_ ?_
          · exact (n_X8_amountBy Rh10 Aa13 Vv1)
          · refine nt_iteP (nt_k Rh10 Aa13 16) ?_ ?_
            · exact (n_X8_amountBy Rh10 Aa13 Vv1)
            · exact (n_X8_amountBy Rh10 Aa13 Vv1)
      · exact (n_X7_doneWith_c41 hr4 Rh14 At0 Vv1 _ _)
theorem n_X7_doneWith_b4 {ρ : Nat → Nat} {D F : Nat → Prop} {h0 : nk_H} {u v : Nat}   : ∀ (n : Nat) {g h : nk_H} (R : nt_R ρ D F h0 u v h g) {a1 b1 : Nat} (A1 : nt_A ρ D a1 b1) {p2 q2 : Option Nat} (V2 : nt_V ρ D p2 q2) (i3 : Int32) (i4 : Int32), nt_F ρ D F h0 u v Eq (f_X7_doneWith_b4 n g a1 p2 i3 i4) (f_X7_doneWith_b4 n h b1 q2 i3 i4)
  | 0, _, _, _, _, _, _, _, _, _, _, _ => nt_none
  | n + 1, _, _, R, _, _, A1, _, _, V2, i3, i4 => n_X7_doneWith_c4 (fun g h a1 b1 p2 q2 i3 i4 R A1 V2 => n_X7_doneWith_b4 n R A1 V2 i3 i4) R A1 V2 i3 i4
theorem n_X7_doneWith {ρ : Nat → Nat} {D F : Nat → Prop} {h0 : nk_H} {u v : Nat}   {h yh : nk_H} (Rh : nt_R ρ D F h0 u v yh h) {t0 yt0 : Nat} (At0 : nt_A ρ D t0 yt0) {v1 yv1 : Option Nat} (Vv1 : nt_V ρ D v1 yv1) : nt_F ρ D F h0 u v Eq (f_X7_doneWith h t0 v1) (f_X7_doneWith yh yt0 yv1) := by
  unfold f_X7_doneWith
  exact (n_X7_doneWith_b4 _ Rh At0 Vv1 _ _)
theorem n_X7_wouldPassTotal_c2 {ρ : Nat → Nat} {D F : Nat → Prop} {h0 : nk_H} {u v : Nat} {r2 r2' : nk_H → Nat → Int32 → Option Nat → Option (nk_H × Int32)} (hr2 : ∀ (g h : nk_H) (a1 b1 : Nat) (i2 : Int32) (p3 q3 : Option Nat), nt_R ρ D F h0 u v h g → nt_A ρ D a1 b1 → nt_V ρ D p3 q3 → nt_F ρ D F h0 u v Eq (r2 g a1 i2 p3) (r2' h b1 i2 q3)) {h yh : nk_H} (Rh : nt_R ρ D F h0 u v yh h) {t0 yt0 : Nat} (At0 : nt_A ρ D t0 yt0) (v2 : Int32) {v3 yv3 : Option Nat} (Vv3 : nt_V ρ D v3 yv3) : nt_F ρ D F h0 u v Eq (f_X7_wouldPassTotal_c2 r2 h t0 v2 v3) (f_X7_wouldPassTotal_c2 r2' yh yt0 v2 yv3) := by
  unfold f_X7_wouldPassTotal_c2
  refine nt_iteP (nt_eq Rh Vv3 nt_vn) ?_ ?_
  · exact nt_zr Rh _ rfl
  · refine nt_rcv Rh (nt_vS At0) (fun a1 ya1 Aa1 => ?_)
    refine nt_doE (n_X7_doneWith Rh Aa1 Vv3) (fun h2 yh2 x3 Rh2 => ?_)
    refine nt_gI Rh2 Vv3 (fun x4 => ?_)
    refine nt_ite ?_ ?_
    · refine nt_gP Rh2 Vv3 (fun x5 yx5 Vx5 => ?_)
      exact (hr2 _ _ _ _ _ _ _ Rh2 At0 Vx5)
    · exact nt_zr Rh2 _ rfl
theorem n_X7_wouldPassTotal_b2 {ρ : Nat → Nat} {D F : Nat → Prop} {h0 : nk_H} {u v : Nat}   : ∀ (n : Nat) {g h : nk_H} (R : nt_R ρ D F h0 u v h g) {a1 b1 : Nat} (A1 : nt_A ρ D a1 b1) (i2 : Int32) {p3 q3 : Option Nat} (V3 : nt_V ρ D p3 q3), nt_F ρ D F h0 u v Eq (f_X7_wouldPassTotal_b2 n g a1 i2 p3) (f_X7_wouldPassTotal_b2 n h b1 i2 q3)
  | 0, _, _, _, _, _, _, _, _, _, _ => nt_none
  | n + 1, _, _, R, _, _, A1, i2, _, _, V3 => n_X7_wouldPassTotal_c2 (fun g h a1 b1 i2 p3 q3 R A1 V3 => n_X7_wouldPassTotal_b2 n R A1 i2 V3) R A1 i2 V3
theorem n_X7_wouldPassTotal {ρ : Nat → Nat} {D F : Nat → Prop} {h0 : nk_H} {u v : Nat}   {h yh : nk_H} (Rh : nt_R ρ D F h0 u v yh h) {t0 yt0 : Nat} (At0 : nt_A ρ D t0 yt0) {v1 yv1 : Option Nat} (Vv1 : nt_V ρ D v1 yv1) (v2 : Int32) : nt_F ρ D F h0 u v Eq (f_X7_wouldPassTotal h t0 v1 v2) (f_X7_wouldPassTotal yh yt0 yv1 v2) := by
  unfold f_X7_wouldPassTotal
  exact (n_X7_wouldPassTotal_b2 _ Rh At0 _ Vv1)
theorem n_X8_isDeputation {ρ : Nat → Nat} {D F : Nat → Prop} {h0 : nk_H} {u v : Nat}   {h yh : nk_H} (Rh : nt_R ρ D F h0 u v yh h) {t0 yt0 : Nat} (At0 : nt_A ρ D t0 yt0) (v1 : Int32) (v2 : Int32) (v3 : Int32) : nt_F ρ D F h0 u v Eq (f_X8_isDeputation h t0 v1 v2 v3) (f_X8_isDeputation yh yt0 v1 v2 v3) := by
  unfold f_X8_isDeputation
  exact nt_zr Rh _ rfl
theorem n_X7_deputes_c47 {ρ : Nat → Nat} {D F : Nat → Prop} {h0 : nk_H} {u v : Nat} {r3 r3' : nk_H → Nat → Int32 → Int32 → Int32 → Int32 → Option (nk_H × Int32)} (hr3 : ∀ (g h : nk_H) (a1 b1 : Nat) (i2 : Int32) (i3 : Int32) (i4 : Int32) (i5 : Int32), nt_R ρ D F h0 u v h g → nt_A ρ D a1 b1 → nt_F ρ D F h0 u v Eq (r3 g a1 i2 i3 i4 i5) (r3' h b1 i2 i3 i4 i5)) {h yh : nk_H} (Rh : nt_R ρ D F h0 u v yh h) {t0 yt0 : Nat} (At0 : nt_A ρ D t0 yt0) (v1 : Int32) (v2 : Int32) (v3 : Int32) (v4 : Int32) : nt_F ρ D F h0 u v Eq (f_X7_deputes_c47 r3 h t0 v1 v2 v3 v4) (f_X7_deputes_c47 r3' yh yt0 v1 v2 v3 v4) := by
  unfold f_X7_deputes_c47
  exact (hr3 _ _ _ _ _ _ _ _ Rh At0)
theorem n_X7_deputes_c3 {ρ : Nat → Nat} {D F : Nat → Prop} {h0 : nk_H} {u v : Nat} {r3 r3' : nk_H → Nat → Int32 → Int32 → Int32 → Int32 → Option (nk_H × Int32)} (hr3 : ∀ (g h : nk_H) (a1 b1 : Nat) (i2 : Int32) (i3 : Int32) (i4 : Int32) (i5 : Int32), nt_R ρ D F h0 u v h g → nt_A ρ D a1 b1 → nt_F ρ D F h0 u v Eq (r3 g a1 i2 i3 i4 i5) (r3' h b1 i2 i3 i4 i5)) {h yh : nk_H} (Rh : nt_R ρ D F h0 u v yh h) {t0 yt0 : Nat} (At0 : nt_A ρ D t0 yt0) (v1 : Int32) (v2 : Int32) (v3 : Int32) (v4 : Int32) : nt_F ρ D F h0 u v Eq (f_X7_deputes_c3 r3 h t0 v1 v2 v3 v4) (f_X7_deputes_c3 r3' yh yt0 v1 v2 v3 v4) := by
  unfold f_X7_deputes_c3
  refine nt_gP Rh (nt_vS At0) (fun x1 yx1 Vx1 => ?_)
  refine nt_rcv Rh Vx1 (fun a2 ya2 Aa2 => ?_)
  refine nt_doE (n_Jx4a65c_size_8abf5 Rh Aa2) (fun h3 yh3 x4 Rh3 => ?_)
  refine nt_ite ?_ ?_
  · exact nt_zr Rh3 _ rfl
  · refine nt_rcv Rh3 (nt_vS At0) (fun a5 ya5 Aa5 => ?_)
    refine nt_doE (n_X7_sees Rh3 Aa5 _) (fun h6 yh6 x7 Rh6 => ?_)
    refine nt_ite ?_ ?_
    · exact (n_X7_deputes_c47 hr3 Rh6 At0 _ _ _ _)
    · refine nt_gP Rh6 (nt_vS At0) (fun x8 yx8 Vx8 => ?_)
      refine nt_rcv Rh6 Vx8 (fun a9 ya9 Aa9 => ?_)
      refine nt_doV (n_Jx4a65c_get_915e3 Rh6 Aa9 _) (fun h10 yh10 x11 yx11 Rh10 Vx11 => ?_)
      refine nt_cc Rh10 Vx11 ?_
      refine nt_rcv Rh10 Vx11 (fun a13 ya13 Aa13 => ?_)
      refine nt_doE ?_ (fun h14 yh14 x15 Rh14 => ?_)
      · refine nt_iteP (nt_k Rh10 Aa13 8) ?_ ?_
        · exact (n_X8_isDeputation Rh10 Aa13 _ _ _)
        · refine nt_iteP (nt_k Rh10 Aa13 12) ?_ ?_
          · exact (n_X4_isDeputation Rh10 Aa13 _ _ _)
          · refine nt_iteP (nt_k Rh10 Aa13 16) ?_ ?_
            · exact (n_X8_isDeputation Rh10 Aa13 _ _ _)
            · exact (n_X8_isDeputation Rh10 Aa13 _ _ _)
      · refine nt_ite ?_ ?_
        · exact (n_X7_deputes_c47 hr3 Rh14 At0 _ _ _ _)
        · exact nt_zr Rh14 _ rfl
theorem n_X7_deputes_b3 {ρ : Nat → Nat} {D F : Nat → Prop} {h0 : nk_H} {u v : Nat}   : ∀ (n : Nat) {g h : nk_H} (R : nt_R ρ D F h0 u v h g) {a1 b1 : Nat} (A1 : nt_A ρ D a1 b1) (i2 : Int32) (i3 : Int32) (i4 : Int32) (i5 : Int32), nt_F ρ D F h0 u v Eq (f_X7_deputes_b3 n g a1 i2 i3 i4 i5) (f_X7_deputes_b3 n h b1 i2 i3 i4 i5)
  | 0, _, _, _, _, _, _, _, _, _, _ => nt_none
  | n + 1, _, _, R, _, _, A1, i2, i3, i4, i5 => n_X7_deputes_c3 (fun g h a1 b1 i2 i3 i4 i5 R A1 => n_X7_deputes_b3 n R A1 i2 i3 i4 i5) R A1 i2 i3 i4 i5
theorem n_X7_deputes {ρ : Nat → Nat} {D F : Nat → Prop} {h0 : nk_H} {u v : Nat}   {h yh : nk_H} (Rh : nt_R ρ D F h0 u v yh h) {t0 yt0 : Nat} (At0 : nt_A ρ D t0 yt0) (v1 : Int32) (v2 : Int32) (v3 : Int32) : nt_F ρ D F h0 u v Eq (f_X7_deputes h t0 v1 v2 v3) (f_X7_deputes yh yt0 v1 v2 v3) := by
  unfold f_X7_deputes
  exact (n_X7_deputes_b3 _ Rh At0 _ _ _ _)
theorem n_X7_officerAt_c15 {ρ : Nat → Nat} {D F : Nat → Prop} {h0 : nk_H} {u v : Nat}   {h yh : nk_H} (Rh : nt_R ρ D F h0 u v yh h) (s0 : Int32) : nt_F ρ D F h0 u v Eq (f_X7_officerAt_c15 h s0) (f_X7_officerAt_c15 yh s0) := by
  unfold f_X7_officerAt_c15
  exact nt_ret Rh rfl
theorem n_X7_officerAt {ρ : Nat → Nat} {D F : Nat → Prop} {h0 : nk_H} {u v : Nat}   {h yh : nk_H} (Rh : nt_R ρ D F h0 u v yh h) {t0 yt0 : Nat} (At0 : nt_A ρ D t0 yt0) (v1 : Int32) (v2 : Int32) : nt_F ρ D F h0 u v Eq (f_X7_officerAt h t0 v1 v2) (f_X7_officerAt yh yt0 v1 v2) := by
  unfold f_X7_officerAt
  refine nt_rcv Rh (nt_vS At0) (fun a1 ya1 Aa1 => ?_)
  refine nt_doE (n_X7_deputes Rh Aa1 _ _ _) (fun h2 yh2 x3 Rh2 => ?_)
  refine nt_ite ?_ ?_
  · exact (n_X7_officerAt_c15 Rh2 _)
  · exact (n_X7_officerAt_c15 Rh2 _)
theorem n_X9_isOver_c2 {ρ : Nat → Nat} {D F : Nat → Prop} {h0 : nk_H} {u v : Nat} {r2 r2' : nk_H → Int32 → Option Nat → Option (nk_H × Int32)} (hr2 : ∀ (g h : nk_H) (i1 : Int32) (p2 q2 : Option Nat), nt_R ρ D F h0 u v h g → nt_V ρ D p2 q2 → nt_F ρ D F h0 u v Eq (r2 g i1 p2) (r2' h i1 q2)) {h yh : nk_H} (Rh : nt_R ρ D F h0 u v yh h) (v1 : Int32) {v2 yv2 : Option Nat} (Vv2 : nt_V ρ D v2 yv2) : nt_F ρ D F h0 u v Eq (f_X9_isOver_c2 r2 h v1 v2) (f_X9_isOver_c2 r2' yh v1 yv2) := by
  unfold f_X9_isOver_c2
  refine nt_iteP (nt_eq Rh Vv2 nt_vn) ?_ ?_
  · exact nt_zr Rh _ rfl
  · refine nt_gI Rh Vv2 (fun x1 => ?_)
    refine nt_ite ?_ ?_
    · refine nt_gP Rh Vv2 (fun x2 yx2 Vx2 => ?_)
      exact (hr2 _ _ _ _ _ Rh Vx2)
    · exact nt_zr Rh _ rfl
theorem n_X9_isOver_b2 {ρ : Nat → Nat} {D F : Nat → Prop} {h0 : nk_H} {u v : Nat}   : ∀ (n : Nat) {g h : nk_H} (R : nt_R ρ D F h0 u v h g) (i1 : Int32) {p2 q2 : Option Nat} (V2 : nt_V ρ D p2 q2), nt_F ρ D F h0 u v Eq (f_X9_isOver_b2 n g i1 p2) (f_X9_isOver_b2 n h i1 q2)
  | 0, _, _, _, _, _, _, _ => nt_none
  | n + 1, _, _, R, i1, _, _, V2 => n_X9_isOver_c2 (fun g h i1 p2 q2 R V2 => n_X9_isOver_b2 n R i1 V2) R i1 V2
theorem n_X9_isOver {ρ : Nat → Nat} {D F : Nat → Prop} {h0 : nk_H} {u v : Nat}   {h yh : nk_H} (Rh : nt_R ρ D F h0 u v yh h) {t0 yt0 : Nat} (At0 : nt_A ρ D t0 yt0) (v1 : Int32) : nt_F ρ D F h0 u v Eq (f_X9_isOver h t0 v1) (f_X9_isOver yh yt0 v1) := by
  unfold f_X9_isOver
  exact (n_X9_isOver_b2 _ Rh _ (nt_vS At0))
theorem n_X9_limitsBelow_c2 {ρ : Nat → Nat} {D F : Nat → Prop} {h0 : nk_H} {u v : Nat} {r2 r2' : nk_H → Int32 → Option Nat → Option (nk_H × Int32)} (hr2 : ∀ (g h : nk_H) (i1 : Int32) (p2 q2 : Option Nat), nt_R ρ D F h0 u v h g → nt_V ρ D p2 q2 → nt_F ρ D F h0 u v Eq (r2 g i1 p2) (r2' h i1 q2)) {h yh : nk_H} (Rh : nt_R ρ D F h0 u v yh h) (v1 : Int32) {v2 yv2 : Option Nat} (Vv2 : nt_V ρ D v2 yv2) : nt_F ρ D F h0 u v Eq (f_X9_limitsBelow_c2 r2 h v1 v2) (f_X9_limitsBelow_c2 r2' yh v1 yv2) := by
  unfold f_X9_limitsBelow_c2
  refine nt_iteP (nt_eq Rh Vv2 nt_vn) ?_ ?_
  · exact nt_zr Rh _ rfl
  · refine nt_gI Rh Vv2 (fun x1 => ?_)
    refine nt_ite ?_ ?_
    · refine nt_gP Rh Vv2 (fun x2 yx2 Vx2 => ?_)
      exact (hr2 _ _ _ _ _ Rh Vx2)
    · exact nt_zr Rh _ rfl
theorem n_X9_limitsBelow_b2 {ρ : Nat → Nat} {D F : Nat → Prop} {h0 : nk_H} {u v : Nat}   : ∀ (n : Nat) {g h : nk_H} (R : nt_R ρ D F h0 u v h g) (i1 : Int32) {p2 q2 : Option Nat} (V2 : nt_V ρ D p2 q2), nt_F ρ D F h0 u v Eq (f_X9_limitsBelow_b2 n g i1 p2) (f_X9_limitsBelow_b2 n h i1 q2)
  | 0, _, _, _, _, _, _, _ => nt_none
  | n + 1, _, _, R, i1, _, _, V2 => n_X9_limitsBelow_c2 (fun g h i1 p2 q2 R V2 => n_X9_limitsBelow_b2 n R i1 V2) R i1 V2
theorem n_X9_limitsBelow {ρ : Nat → Nat} {D F : Nat → Prop} {h0 : nk_H} {u v : Nat}   {h yh : nk_H} (Rh : nt_R ρ D F h0 u v yh h) {t0 yt0 : Nat} (At0 : nt_A ρ D t0 yt0) (v1 : Int32) : nt_F ρ D F h0 u v Eq (f_X9_limitsBelow h t0 v1) (f_X9_limitsBelow yh yt0 v1) := by
  unfold f_X9_limitsBelow
  exact (n_X9_limitsBelow_b2 _ Rh _ (nt_vS At0))
theorem n_X7_reasonAgainst_c116 {ρ : Nat → Nat} {D F : Nat → Prop} {h0 : nk_H} {u v : Nat}   {h yh : nk_H} (Rh : nt_R ρ D F h0 u v yh h) (s0 : Int32) : nt_F ρ D F h0 u v Eq (f_X7_reasonAgainst_c116 h s0) (f_X7_reasonAgainst_c116 yh s0) := by
  unfold f_X7_reasonAgainst_c116
  exact nt_ret Rh rfl
theorem n_X7_reasonAgainst {ρ : Nat → Nat} {D F : Nat → Prop} {h0 : nk_H} {u v : Nat}   {h yh : nk_H} (Rh : nt_R ρ D F h0 u v yh h) {t0 yt0 : Nat} (At0 : nt_A ρ D t0 yt0) {v1 yv1 : Option Nat} (Vv1 : nt_V ρ D v1 yv1) {v2 yv2 : Option Nat} (Vv2 : nt_V ρ D v2 yv2) : nt_F ρ D F h0 u v Eq (f_X7_reasonAgainst h t0 v1 v2) (f_X7_reasonAgainst yh yt0 yv1 yv2) := by
  unfold f_X7_reasonAgainst
  refine nt_rcv Rh (nt_vS At0) (fun a1 ya1 Aa1 => ?_)
  refine nt_doE (n_X7_knows Rh Aa1 Vv1) (fun h2 yh2 x3 Rh2 => ?_)
  refine nt_ite ?_ ?_
  · exact nt_ret Rh2 rfl
  · refine nt_gI Rh2 Vv2 (fun x4 => ?_)
    refine nt_gI Rh2 Vv1 (fun x5 => ?_)
    refine nt_ite ?_ ?_
    · refine nt_rcv Rh2 (nt_vS At0) (fun a6 ya6 Aa6 => ?_)
      refine nt_doE (n_X7_revokes Rh2 Aa6 Vv1) (fun h7 yh7 x8 Rh7 => ?_)
      refine nt_ite ?_ ?_
      · refine nt_gI Rh7 Vv2 (fun x9 => ?_)
        refine nt_rcv Rh7 Vv1 (fun a10 ya10 Aa10 => ?_)
        refine nt_doE (n_X9_isOver Rh7 Aa10 _) (fun h11 yh11 x12 Rh11 => ?_)
        refine nt_ite ?_ ?_
        · refine nt_gI Rh11 Vv1 (fun x13 => ?_)
          refine nt_gI Rh11 Vv2 (fun x14 => ?_)
          refine nt_doE (n_X11_hasBit Rh11 _ _) (fun h15 yh15 x16 Rh15 => ?_)
          refine nt_ite ?_ ?_
          · exact nt_ret Rh15 rfl
          · refine nt_gI Rh15 Vv2 (fun x17 => ?_)
            refine nt_rcv Rh15 Vv1 (fun a18 ya18 Aa18 => ?_)
            refine nt_doE (n_X9_limitsBelow Rh15 Aa18 _) (fun h19 yh19 x20 Rh19 => ?_)
            refine nt_ite ?_ ?_
            · refine nt_gI Rh19 Vv2 (fun x21 => ?_)
              refine nt_rcv Rh19 (nt_vS At0) (fun a22 ya22 Aa22 => ?_)
              refine nt_doE (n_X7_wouldPassTotal Rh19 Aa22 Vv1 _) (fun h23 yh23 x24 Rh23 => ?_)
              refine nt_ite ?_ ?_
              · refine nt_gI Rh23 Vv2 (fun x25 => ?_)
                refine nt_gI Rh23 Vv2 (fun x26 => ?_)
                refine nt_gI Rh23 Vv2 (fun x27 => ?_)
                refine nt_rcv Rh23 (nt_vS At0) (fun a28 ya28 Aa28 => ?_)
                refine nt_doE (n_X7_officerAt Rh23 Aa28 _ _) (fun h29 yh29 x30 Rh29 => ?_)
                refine nt_ite ?_ ?_
                · exact (n_X7_reasonAgainst_c116 Rh29 _)
                · exact (n_X7_reasonAgainst_c116 Rh29 _)
              · exact nt_ret Rh23 rfl
            · exact nt_ret Rh19 rfl
        · exact nt_ret Rh11 rfl
      · exact nt_ret Rh7 rfl
    · exact nt_ret Rh2 rfl
theorem n_X9_init {ρ : Nat → Nat} {D F : Nat → Prop} {h0 : nk_H} {u v : Nat}   {h yh : nk_H} (Rh : nt_R ρ D F h0 u v yh h) {t0 yt0 : Nat} (At0 : nt_A ρ D t0 yt0) (v1 : Int32) {v2 yv2 : Option Nat} (Vv2 : nt_V ρ D v2 yv2) (v3 : Int32) (v4 : Int32) {v5 yv5 : Option Nat} (Vv5 : nt_V ρ D v5 yv5) (v6 : Int32) : nt_F ρ D F h0 u v Eq (f_X9_init h t0 v1 v2 v3 v4 v5 v6) (f_X9_init yh yt0 v1 yv2 v3 v4 yv5 v6) := by
  unfold f_X9_init
  refine nt_doE (n_X8_init Rh At0) (fun h1 yh1 x2 Rh1 => ?_)
  refine nt_pI Rh1 (nt_vS At0) (fun h3 yh3 Rh3 => ?_)
  refine nt_pP Rh3 (nt_vS At0) Vv2 (fun h4 yh4 Rh4 => ?_)
  refine nt_pI Rh4 (nt_vS At0) (fun h5 yh5 Rh5 => ?_)
  refine nt_pI Rh5 (nt_vS At0) (fun h6 yh6 Rh6 => ?_)
  refine nt_gI Rh6 Vv5 (fun x7 => ?_)
  refine nt_pI Rh6 (nt_vS At0) (fun h8 yh8 Rh8 => ?_)
  refine nt_gI Rh8 Vv5 (fun x9 => ?_)
  refine nt_pI Rh8 (nt_vS At0) (fun h10 yh10 Rh10 => ?_)
  refine nt_gI Rh10 Vv5 (fun x11 => ?_)
  refine nt_pI Rh10 (nt_vS At0) (fun h12 yh12 Rh12 => ?_)
  refine nt_gI Rh12 Vv5 (fun x13 => ?_)
  refine nt_pI Rh12 (nt_vS At0) (fun h14 yh14 Rh14 => ?_)
  refine nt_gI Rh14 Vv5 (fun x15 => ?_)
  refine nt_pI Rh14 (nt_vS At0) (fun h16 yh16 Rh16 => ?_)
  exact nt_ret Rh16 rfl
theorem n_X9_covers_c65 {ρ : Nat → Nat} {D F : Nat → Prop} {h0 : nk_H} {u v : Nat}   {h yh : nk_H} (Rh : nt_R ρ D F h0 u v yh h) (s0 : Int32) : nt_F ρ D F h0 u v Eq (f_X9_covers_c65 h s0) (f_X9_covers_c65 yh s0) := by
  unfold f_X9_covers_c65
  exact nt_zr Rh _ rfl
theorem n_X9_covers_c64 {ρ : Nat → Nat} {D F : Nat → Prop} {h0 : nk_H} {u v : Nat}   {h yh : nk_H} (Rh : nt_R ρ D F h0 u v yh h) : nt_F ρ D F h0 u v Eq (f_X9_covers_c64 h) (f_X9_covers_c64 yh) := by
  unfold f_X9_covers_c64
  exact (n_X9_covers_c65 Rh _)
theorem n_X9_covers {ρ : Nat → Nat} {D F : Nat → Prop} {h0 : nk_H} {u v : Nat}   {h yh : nk_H} (Rh : nt_R ρ D F h0 u v yh h) {t0 yt0 : Nat} (At0 : nt_A ρ D t0 yt0) {v1 yv1 : Option Nat} (Vv1 : nt_V ρ D v1 yv1) (v2 : Int32) : nt_F ρ D F h0 u v Eq (f_X9_covers h t0 v1 v2) (f_X9_covers yh yt0 yv1 v2) := by
  unfold f_X9_covers
  refine nt_gI Rh Vv1 (fun x1 => ?_)
  refine nt_gI Rh (nt_vS At0) (fun x2 => ?_)
  refine nt_ite ?_ ?_
  · refine nt_gI Rh Vv1 (fun x3 => ?_)
    refine nt_gI Rh (nt_vS At0) (fun x4 => ?_)
    refine nt_ite ?_ ?_
    · exact (n_X9_covers_c64 Rh)
    · refine nt_gI Rh Vv1 (fun x5 => ?_)
      refine nt_gI Rh (nt_vS At0) (fun x6 => ?_)
      refine nt_ite ?_ ?_
      · exact (n_X9_covers_c64 Rh)
      · refine nt_gI Rh Vv1 (fun x7 => ?_)
        refine nt_gI Rh (nt_vS At0) (fun x8 => ?_)
        refine nt_ite ?_ ?_
        · exact (n_X9_covers_c64 Rh)
        · refine nt_gI Rh Vv1 (fun x9 => ?_)
          refine nt_gI Rh (nt_vS At0) (fun x10 => ?_)
          refine nt_ite ?_ ?_
          · exact (n_X9_covers_c64 Rh)
          · exact (n_X9_covers_c65 Rh _)
  · exact (n_X9_covers_c64 Rh)
theorem n_X9_hasGiver_c2 {ρ : Nat → Nat} {D F : Nat → Prop} {h0 : nk_H} {u v : Nat} {r2 r2' : nk_H → Int32 → Option Nat → Option (nk_H × Int32)} (hr2 : ∀ (g h : nk_H) (i1 : Int32) (p2 q2 : Option Nat), nt_R ρ D F h0 u v h g → nt_V ρ D p2 q2 → nt_F ρ D F h0 u v Eq (r2 g i1 p2) (r2' h i1 q2)) {h yh : nk_H} (Rh : nt_R ρ D F h0 u v yh h) (v1 : Int32) {v2 yv2 : Option Nat} (Vv2 : nt_V ρ D v2 yv2) : nt_F ρ D F h0 u v Eq (f_X9_hasGiver_c2 r2 h v1 v2) (f_X9_hasGiver_c2 r2' yh v1 yv2) := by
  unfold f_X9_hasGiver_c2
  refine nt_iteP (nt_eq Rh Vv2 nt_vn) ?_ ?_
  · exact nt_zr Rh _ rfl
  · refine nt_gI Rh Vv2 (fun x1 => ?_)
    refine nt_ite ?_ ?_
    · exact nt_zr Rh _ rfl
    · refine nt_gP Rh Vv2 (fun x2 yx2 Vx2 => ?_)
      exact (hr2 _ _ _ _ _ Rh Vx2)
theorem n_X9_hasGiver_b2 {ρ : Nat → Nat} {D F : Nat → Prop} {h0 : nk_H} {u v : Nat}   : ∀ (n : Nat) {g h : nk_H} (R : nt_R ρ D F h0 u v h g) (i1 : Int32) {p2 q2 : Option Nat} (V2 : nt_V ρ D p2 q2), nt_F ρ D F h0 u v Eq (f_X9_hasGiver_b2 n g i1 p2) (f_X9_hasGiver_b2 n h i1 q2)
  | 0, _, _, _, _, _, _, _ => nt_none
  | n + 1, _, _, R, i1, _, _, V2 => n_X9_hasGiver_c2 (fun g h i1 p2 q2 R V2 => n_X9_hasGiver_b2 n R i1 V2) R i1 V2
theorem n_X9_hasGiver {ρ : Nat → Nat} {D F : Nat → Prop} {h0 : nk_H} {u v : Nat}   {h yh : nk_H} (Rh : nt_R ρ D F h0 u v yh h) {t0 yt0 : Nat} (At0 : nt_A ρ D t0 yt0) (v1 : Int32) : nt_F ρ D F h0 u v Eq (f_X9_hasGiver h t0 v1) (f_X9_hasGiver yh yt0 v1) := by
  unfold f_X9_hasGiver
  exact (n_X9_hasGiver_b2 _ Rh _ (nt_vS At0))
theorem n_X10_init {ρ : Nat → Nat} {D F : Nat → Prop} {h0 : nk_H} {u v : Nat}   {h yh : nk_H} (Rh : nt_R ρ D F h0 u v yh h) {t0 yt0 : Nat} (At0 : nt_A ρ D t0 yt0) {v1 yv1 : Option Nat} (Vv1 : nt_V ρ D v1 yv1) : nt_F ρ D F h0 u v Eq (f_X10_init h t0 v1) (f_X10_init yh yt0 yv1) := by
  unfold f_X10_init
  refine nt_doE (n_X8_init Rh At0) (fun h1 yh1 x2 Rh1 => ?_)
  refine nt_pP Rh1 (nt_vS At0) Vv1 (fun h3 yh3 Rh3 => ?_)
  exact nt_ret Rh3 rfl
theorem n_X11_init_c48 {ρ : Nat → Nat} {D F : Nat → Prop} {h0 : nk_H} {u v : Nat} {r48 r48' : nk_H → Nat → Int32 → Option (nk_H × Unit)} (hr48 : ∀ (g h : nk_H) (a1 b1 : Nat) (i2 : Int32), nt_R ρ D F h0 u v h g → nt_A ρ D a1 b1 → nt_F ρ D F h0 u v Eq (r48 g a1 i2) (r48' h b1 i2)) {h yh : nk_H} (Rh : nt_R ρ D F h0 u v yh h) {t0 yt0 : Nat} (At0 : nt_A ρ D t0 yt0) (v1 : Int32) : nt_F ρ D F h0 u v Eq (f_X11_init_c48 r48 h t0 v1) (f_X11_init_c48 r48' yh yt0 v1) := by
  unfold f_X11_init_c48
  refine nt_ite ?_ ?_
  · refine nt_al Rh (fun h1 yh1 Rh1 => ?_)
    refine nt_doE (n_Jx4a65c_init_da8c8 Rh1 (nt_aN Rh)) (fun h2 yh2 x3 Rh2 => ?_)
    refine nt_pP Rh2 (nt_vS At0) (nt_vN Rh) (fun h4 yh4 Rh4 => ?_)
    refine nt_pI Rh4 (nt_vS At0) (fun h5 yh5 Rh5 => ?_)
    refine nt_al Rh5 (fun h6 yh6 Rh6 => ?_)
    refine nt_doE (n_X5_init Rh6 (nt_aN Rh5) _ _ _ _ _) (fun h7 yh7 x8 Rh7 => ?_)
    refine nt_pP Rh7 (nt_vS At0) (nt_vN Rh5) (fun h9 yh9 Rh9 => ?_)
    refine nt_pI Rh9 (nt_vS At0) (fun h10 yh10 Rh10 => ?_)
    refine nt_pI Rh10 (nt_vS At0) (fun h11 yh11 Rh11 => ?_)
    exact nt_ret Rh11 rfl
  · refine nt_gP Rh (nt_vS At0) (fun x12 yx12 Vx12 => ?_)
    refine nt_al Rh (fun h13 yh13 Rh13 => ?_)
    refine nt_doE (n_X1_init Rh13 (nt_aN Rh) _) (fun h14 yh14 x15 Rh14 => ?_)
    refine nt_wP Rh14 Vx12 (nt_vN Rh) (fun h16 yh16 Rh16 => ?_)
    exact (hr48 _ _ _ _ _ Rh16 At0)
theorem n_X11_init_b48 {ρ : Nat → Nat} {D F : Nat → Prop} {h0 : nk_H} {u v : Nat}   : ∀ (n : Nat) {g h : nk_H} (R : nt_R ρ D F h0 u v h g) {a1 b1 : Nat} (A1 : nt_A ρ D a1 b1) (i2 : Int32), nt_F ρ D F h0 u v Eq (f_X11_init_b48 n g a1 i2) (f_X11_init_b48 n h b1 i2)
  | 0, _, _, _, _, _, _, _ => nt_none
  | n + 1, _, _, R, _, _, A1, i2 => n_X11_init_c48 (fun g h a1 b1 i2 R A1 => n_X11_init_b48 n R A1 i2) R A1 i2
theorem n_X11_init {ρ : Nat → Nat} {D F : Nat → Prop} {h0 : nk_H} {u v : Nat}   {h yh : nk_H} (Rh : nt_R ρ D F h0 u v yh h) {t0 yt0 : Nat} (At0 : nt_A ρ D t0 yt0) : nt_F ρ D F h0 u v Eq (f_X11_init h t0) (f_X11_init yh yt0) := by
  unfold f_X11_init
  refine nt_al Rh (fun h17 yh17 Rh17 => ?_)
  refine nt_doE (n_X6_init Rh17 (nt_aN Rh)) (fun h18 yh18 x19 Rh18 => ?_)
  refine nt_pP Rh18 (nt_vS At0) (nt_vN Rh) (fun h20 yh20 Rh20 => ?_)
  refine nt_al Rh20 (fun h21 yh21 Rh21 => ?_)
  refine nt_doE (n_X7_init Rh21 (nt_aN Rh20)) (fun h22 yh22 x23 Rh22 => ?_)
  refine nt_pP Rh22 (nt_vS At0) (nt_vN Rh20) (fun h24 yh24 Rh24 => ?_)
  refine nt_al Rh24 (fun h25 yh25 Rh25 => ?_)
  refine nt_doE (n_Jx4a65c_init_da8c8 Rh25 (nt_aN Rh24)) (fun h26 yh26 x27 Rh26 => ?_)
  refine nt_pP Rh26 (nt_vS At0) (nt_vN Rh24) (fun h28 yh28 Rh28 => ?_)
  refine nt_na Rh28 (fun h29 yh29 Rh29 => ?_)
  refine nt_pP Rh29 (nt_vS At0) (nt_vN Rh28) (fun h30 yh30 Rh30 => ?_)
  exact (n_X11_init_b48 _ Rh30 At0 _)
theorem n_X11_mustBeKiosk_c10 {ρ : Nat → Nat} {D F : Nat → Prop} {h0 : nk_H} {u v : Nat}   {h yh : nk_H} (Rh : nt_R ρ D F h0 u v yh h) : nt_F ρ D F h0 u v Eq (f_X11_mustBeKiosk_c10 h) (f_X11_mustBeKiosk_c10 yh) := by
  unfold f_X11_mustBeKiosk_c10
  exact nt_ret (nt_alR Rh 0 0 6) rfl
theorem n_X11_mustBeKiosk {ρ : Nat → Nat} {D F : Nat → Prop} {h0 : nk_H} {u v : Nat}   {h yh : nk_H} (Rh : nt_R ρ D F h0 u v yh h) (v0 : Int32) : nt_F ρ D F h0 u v Eq (f_X11_mustBeKiosk h v0) (f_X11_mustBeKiosk yh v0) := by
  unfold f_X11_mustBeKiosk
  refine nt_ite ?_ ?_
  · exact (n_X11_mustBeKiosk_c10 Rh)
  · refine nt_ite ?_ ?_
    · exact nt_ret Rh rfl
    · exact (n_X11_mustBeKiosk_c10 Rh)
theorem n_X11_mustBeTwoKiosks {ρ : Nat → Nat} {D F : Nat → Prop} {h0 : nk_H} {u v : Nat}   {h yh : nk_H} (Rh : nt_R ρ D F h0 u v yh h) (v0 : Int32) (v1 : Int32) : nt_F ρ D F h0 u v Eq (f_X11_mustBeTwoKiosks h v0 v1) (f_X11_mustBeTwoKiosks yh v0 v1) := by
  unfold f_X11_mustBeTwoKiosks
  refine nt_dt (n_X11_mustBeKiosk Rh _) (fun h1 yh1 x2 Rh1 => ?_)
  refine nt_dt (n_X11_mustBeKiosk Rh1 _) (fun h3 yh3 x4 Rh3 => ?_)
  refine nt_ite ?_ ?_
  · exact nt_ret (nt_alR Rh3 0 0 6) rfl
  · exact nt_ret Rh3 rfl
theorem n_X11_join {ρ : Nat → Nat} {D F : Nat → Prop} {h0 : nk_H} {u v : Nat}   {h yh : nk_H} (Rh : nt_R ρ D F h0 u v yh h) {t0 yt0 : Nat} (At0 : nt_A ρ D t0 yt0) (v1 : Int32) (v2 : Int32) : nt_F ρ D F h0 u v Eq (f_X11_join h t0 v1 v2) (f_X11_join yh yt0 v1 v2) := by
  unfold f_X11_join
  refine nt_dt (n_X11_mustBeTwoKiosks Rh _ _) (fun h1 yh1 x2 Rh1 => ?_)
  refine nt_gP Rh1 (nt_vS At0) (fun x3 yx3 Vx3 => ?_)
  refine nt_rcv Rh1 Vx3 (fun a4 ya4 Aa4 => ?_)
  refine nt_doE (n_X6_areLinked Rh1 Aa4 _ _) (fun h5 yh5 x6 Rh5 => ?_)
  refine nt_ite ?_ ?_
  · refine nt_gP Rh5 (nt_vS At0) (fun x7 yx7 Vx7 => ?_)
    refine nt_rcv Rh5 Vx7 (fun a8 ya8 Aa8 => ?_)
    refine nt_doE (n_X6_turn Rh5 Aa8 _ _) (fun h9 yh9 x10 Rh9 => ?_)
    refine nt_gP Rh9 (nt_vS At0) (fun x11 yx11 Vx11 => ?_)
    refine nt_rcv Rh9 Vx11 (fun a12 ya12 Aa12 => ?_)
    refine nt_doE (n_X6_degree Rh9 Aa12 _) (fun h13 yh13 x14 Rh13 => ?_)
    exact nt_ret Rh13 rfl
  · exact nt_ret (nt_alR Rh5 0 0 6) rfl
theorem n_X11_cut {ρ : Nat → Nat} {D F : Nat → Prop} {h0 : nk_H} {u v : Nat}   {h yh : nk_H} (Rh : nt_R ρ D F h0 u v yh h) {t0 yt0 : Nat} (At0 : nt_A ρ D t0 yt0) (v1 : Int32) (v2 : Int32) : nt_F ρ D F h0 u v Eq (f_X11_cut h t0 v1 v2) (f_X11_cut yh yt0 v1 v2) := by
  unfold f_X11_cut
  refine nt_dt (n_X11_mustBeTwoKiosks Rh _ _) (fun h1 yh1 x2 Rh1 => ?_)
  refine nt_gP Rh1 (nt_vS At0) (fun x3 yx3 Vx3 => ?_)
  refine nt_rcv Rh1 Vx3 (fun a4 ya4 Aa4 => ?_)
  refine nt_doE (n_X6_areLinked Rh1 Aa4 _ _) (fun h5 yh5 x6 Rh5 => ?_)
  refine nt_ite ?_ ?_
  · exact nt_ret (nt_alR Rh5 0 0 6) rfl
  · refine nt_gP Rh5 (nt_vS At0) (fun x7 yx7 Vx7 => ?_)
    refine nt_rcv Rh5 Vx7 (fun a8 ya8 Aa8 => ?_)
    refine nt_doE (n_X6_turn Rh5 Aa8 _ _) (fun h9 yh9 x10 Rh9 => ?_)
    refine nt_gP Rh9 (nt_vS At0) (fun x11 yx11 Vx11 => ?_)
    refine nt_rcv Rh9 Vx11 (fun a12 ya12 Aa12 => ?_)
    refine nt_doE (n_X6_degree Rh9 Aa12 _) (fun h13 yh13 x14 Rh13 => ?_)
    exact nt_ret Rh13 rfl
theorem n_X11_mustBeWithin_c10 {ρ : Nat → Nat} {D F : Nat → Prop} {h0 : nk_H} {u v : Nat}   {h yh : nk_H} (Rh : nt_R ρ D F h0 u v yh h) : nt_F ρ D F h0 u v Eq (f_X11_mustBeWithin_c10 h) (f_X11_mustBeWithin_c10 yh) := by
  unfold f_X11_mustBeWithin_c10
  exact nt_ret (nt_alR Rh 0 0 6) rfl
theorem n_X11_mustBeWithin {ρ : Nat → Nat} {D F : Nat → Prop} {h0 : nk_H} {u v : Nat}   {h yh : nk_H} (Rh : nt_R ρ D F h0 u v yh h) (v0 : Int32) (v1 : Int32) (v2 : Int32) : nt_F ρ D F h0 u v Eq (f_X11_mustBeWithin h v0 v1 v2) (f_X11_mustBeWithin yh v0 v1 v2) := by
  unfold f_X11_mustBeWithin
  refine nt_ite ?_ ?_
  · exact (n_X11_mustBeWithin_c10 Rh)
  · refine nt_ite ?_ ?_
    · exact nt_ret Rh rfl
    · exact (n_X11_mustBeWithin_c10 Rh)
theorem n_X11_pass_c33 {ρ : Nat → Nat} {D F : Nat → Prop} {h0 : nk_H} {u v : Nat} {r33 r33' : nk_H → Nat → Int32 → Int32 → Int32 → Option (nk_H × (Int32 ⊕ String))} (hr33 : ∀ (g h : nk_H) (a1 b1 : Nat) (i2 : Int32) (i3 : Int32) (i4 : Int32), nt_R ρ D F h0 u v h g → nt_A ρ D a1 b1 → nt_F ρ D F h0 u v Eq (r33 g a1 i2 i3 i4) (r33' h b1 i2 i3 i4)) {h yh : nk_H} (Rh : nt_R ρ D F h0 u v yh h) {t0 yt0 : Nat} (At0 : nt_A ρ D t0 yt0) (v1 : Int32) (v2 : Int32) (v3 : Int32) : nt_F ρ D F h0 u v Eq (f_X11_pass_c33 r33 h t0 v1 v2 v3) (f_X11_pass_c33 r33' yh yt0 v1 v2 v3) := by
  unfold f_X11_pass_c33
  refine nt_ite ?_ ?_
  · exact nt_ret Rh rfl
  · refine nt_gI Rh (nt_vS At0) (fun x1 => ?_)
    refine nt_pI Rh (nt_vS At0) (fun h2 yh2 Rh2 => ?_)
    refine nt_gP Rh2 (nt_vS At0) (fun x3 yx3 Vx3 => ?_)
    refine nt_gI Rh2 (nt_vS At0) (fun x4 => ?_)
    refine nt_rcv Rh2 Vx3 (fun a5 ya5 Aa5 => ?_)
    refine nt_doE (n_X6_keep Rh2 Aa5 _) (fun h6 yh6 x7 Rh6 => ?_)
    refine nt_gP Rh6 (nt_vS At0) (fun x8 yx8 Vx8 => ?_)
    refine nt_gP Rh6 (nt_vS At0) (fun x9 yx9 Vx9 => ?_)
    refine nt_gI Rh6 (nt_vS At0) (fun x10 => ?_)
    refine nt_rcv Rh6 Vx8 (fun a11 ya11 Aa11 => ?_)
    refine nt_doE (n_X7_spread Rh6 Aa11 Vx9 _) (fun h12 yh12 x13 Rh12 => ?_)
    exact (hr33 _ _ _ _ _ _ _ Rh12 At0)
theorem n_X11_pass_b33 {ρ : Nat → Nat} {D F : Nat → Prop} {h0 : nk_H} {u v : Nat}   : ∀ (n : Nat) {g h : nk_H} (R : nt_R ρ D F h0 u v h g) {a1 b1 : Nat} (A1 : nt_A ρ D a1 b1) (i2 : Int32) (i3 : Int32) (i4 : Int32), nt_F ρ D F h0 u v Eq (f_X11_pass_b33 n g a1 i2 i3 i4) (f_X11_pass_b33 n h b1 i2 i3 i4)
  | 0, _, _, _, _, _, _, _, _, _ => nt_none
  | n + 1, _, _, R, _, _, A1, i2, i3, i4 => n_X11_pass_c33 (fun g h a1 b1 i2 i3 i4 R A1 => n_X11_pass_b33 n R A1 i2 i3 i4) R A1 i2 i3 i4
theorem n_X11_pass {ρ : Nat → Nat} {D F : Nat → Prop} {h0 : nk_H} {u v : Nat}   {h yh : nk_H} (Rh : nt_R ρ D F h0 u v yh h) {t0 yt0 : Nat} (At0 : nt_A ρ D t0 yt0) (v1 : Int32) : nt_F ρ D F h0 u v Eq (f_X11_pass h t0 v1) (f_X11_pass yh yt0 v1) := by
  unfold f_X11_pass
  refine nt_dt (n_X11_mustBeWithin Rh _ _ _) (fun h14 yh14 x15 Rh14 => ?_)
  refine nt_gI Rh14 (nt_vS At0) (fun x16 => ?_)
  refine nt_ite ?_ ?_
  · exact (n_X11_pass_b33 _ Rh14 At0 _ _ _)
  · exact nt_ret (nt_alR Rh14 0 0 6) rfl
theorem n_X11_read {ρ : Nat → Nat} {D F : Nat → Prop} {h0 : nk_H} {u v : Nat}   {h yh : nk_H} (Rh : nt_R ρ D F h0 u v yh h) {t0 yt0 : Nat} (At0 : nt_A ρ D t0 yt0) (v1 : Int32) : nt_F ρ D F h0 u v Eq (f_X11_read h t0 v1) (f_X11_read yh yt0 v1) := by
  unfold f_X11_read
  refine nt_dt (n_X11_mustBeKiosk Rh _) (fun h1 yh1 x2 Rh1 => ?_)
  refine nt_gP Rh1 (nt_vS At0) (fun x3 yx3 Vx3 => ?_)
  refine nt_rcv Rh1 Vx3 (fun a4 ya4 Aa4 => ?_)
  refine nt_doE (n_X7_readMail Rh1 Aa4 _) (fun h5 yh5 x6 Rh5 => ?_)
  exact nt_ret Rh5 rfl
theorem n_X11_draft {ρ : Nat → Nat} {D F : Nat → Prop} {h0 : nk_H} {u v : Nat}   {h yh : nk_H} (Rh : nt_R ρ D F h0 u v yh h) {t0 yt0 : Nat} (At0 : nt_A ρ D t0 yt0) (v1 : Int32) (v2 : Int32) (v3 : Int32) (v4 : Int32) (v5 : Int32) : nt_F ρ D F h0 u v Eq (f_X11_draft h t0 v1 v2 v3 v4 v5) (f_X11_draft yh yt0 v1 v2 v3 v4 v5) := by
  unfold f_X11_draft
  refine nt_dt (n_X11_mustBeWithin Rh _ _ _) (fun h1 yh1 x2 Rh1 => ?_)
  refine nt_dt (n_X11_mustBeWithin Rh1 _ _ _) (fun h3 yh3 x4 Rh3 => ?_)
  refine nt_dt (n_X11_mustBeWithin Rh3 _ _ _) (fun h5 yh5 x6 Rh5 => ?_)
  refine nt_dt (n_X11_mustBeWithin Rh5 _ _ _) (fun h7 yh7 x8 Rh7 => ?_)
  refine nt_dt (n_X11_mustBeWithin Rh7 _ _ _) (fun h9 yh9 x10 Rh9 => ?_)
  refine nt_al Rh9 (fun h11 yh11 Rh11 => ?_)
  refine nt_doE (n_X5_init Rh11 (nt_aN Rh9) _ _ _ _ _) (fun h12 yh12 x13 Rh12 => ?_)
  refine nt_pP Rh12 (nt_vS At0) (nt_vN Rh9) (fun h14 yh14 Rh14 => ?_)
  exact nt_ret Rh14 rfl
theorem n_X11_mustBePerson_c10 {ρ : Nat → Nat} {D F : Nat → Prop} {h0 : nk_H} {u v : Nat}   {h yh : nk_H} (Rh : nt_R ρ D F h0 u v yh h) : nt_F ρ D F h0 u v Eq (f_X11_mustBePerson_c10 h) (f_X11_mustBePerson_c10 yh) := by
  unfold f_X11_mustBePerson_c10
  exact nt_ret (nt_alR Rh 0 0 6) rfl
theorem n_X11_mustBePerson {ρ : Nat → Nat} {D F : Nat → Prop} {h0 : nk_H} {u v : Nat}   {h yh : nk_H} (Rh : nt_R ρ D F h0 u v yh h) (v0 : Int32) : nt_F ρ D F h0 u v Eq (f_X11_mustBePerson h v0) (f_X11_mustBePerson yh v0) := by
  unfold f_X11_mustBePerson
  refine nt_ite ?_ ?_
  · exact (n_X11_mustBePerson_c10 Rh)
  · refine nt_ite ?_ ?_
    · exact nt_ret Rh rfl
    · exact (n_X11_mustBePerson_c10 Rh)
theorem n_X11_mustBeOtherPerson {ρ : Nat → Nat} {D F : Nat → Prop} {h0 : nk_H} {u v : Nat}   {h yh : nk_H} (Rh : nt_R ρ D F h0 u v yh h) (v0 : Int32) (v1 : Int32) : nt_F ρ D F h0 u v Eq (f_X11_mustBeOtherPerson h v0 v1) (f_X11_mustBeOtherPerson yh v0 v1) := by
  unfold f_X11_mustBeOtherPerson
  refine nt_ite ?_ ?_
  · exact nt_ret (nt_alR Rh 0 0 6) rfl
  · exact nt_ret Rh rfl
theorem n_X11_mustHaveRoomForNews {ρ : Nat → Nat} {D F : Nat → Prop} {h0 : nk_H} {u v : Nat}   {h yh : nk_H} (Rh : nt_R ρ D F h0 u v yh h) {t0 yt0 : Nat} (At0 : nt_A ρ D t0 yt0) : nt_F ρ D F h0 u v Eq (f_X11_mustHaveRoomForNews h t0) (f_X11_mustHaveRoomForNews yh yt0) := by
  unfold f_X11_mustHaveRoomForNews
  refine nt_gP Rh (nt_vS At0) (fun x1 yx1 Vx1 => ?_)
  refine nt_rcv Rh Vx1 (fun a2 ya2 Aa2 => ?_)
  refine nt_doE (n_X7_count Rh Aa2) (fun h3 yh3 x4 Rh3 => ?_)
  refine nt_ite ?_ ?_
  · exact nt_ret Rh3 rfl
  · exact nt_ret (nt_alR Rh3 0 0 6) rfl
theorem n_X11_mustHaveRoomForPower {ρ : Nat → Nat} {D F : Nat → Prop} {h0 : nk_H} {u v : Nat}   {h yh : nk_H} (Rh : nt_R ρ D F h0 u v yh h) {t0 yt0 : Nat} (At0 : nt_A ρ D t0 yt0) : nt_F ρ D F h0 u v Eq (f_X11_mustHaveRoomForPower h t0) (f_X11_mustHaveRoomForPower yh yt0) := by
  unfold f_X11_mustHaveRoomForPower
  refine nt_gP Rh (nt_vS At0) (fun x1 yx1 Vx1 => ?_)
  refine nt_rcv Rh Vx1 (fun a2 ya2 Aa2 => ?_)
  refine nt_doE (n_Jx4a65c_size_8abf5 Rh Aa2) (fun h3 yh3 x4 Rh3 => ?_)
  refine nt_ite ?_ ?_
  · refine nt_rcv Rh3 (nt_vS At0) (fun a5 ya5 Aa5 => ?_)
    refine nt_dt (n_X11_mustHaveRoomForNews Rh3 Aa5) (fun h6 yh6 x7 Rh6 => ?_)
    exact nt_ret Rh6 rfl
  · exact nt_ret (nt_alR Rh3 0 0 6) rfl
theorem n_X11_makePower {ρ : Nat → Nat} {D F : Nat → Prop} {h0 : nk_H} {u v : Nat}   {h yh : nk_H} (Rh : nt_R ρ D F h0 u v yh h) {t0 yt0 : Nat} (At0 : nt_A ρ D t0 yt0) (v1 : Int32) {v2 yv2 : Option Nat} (Vv2 : nt_V ρ D v2 yv2) (v3 : Int32) (v4 : Int32) : nt_F ρ D F h0 u v Eq (f_X11_makePower h t0 v1 v2 v3 v4) (f_X11_makePower yh yt0 v1 yv2 v3 v4) := by
  unfold f_X11_makePower
  refine nt_al Rh (fun h1 yh1 Rh1 => ?_)
  refine nt_gP Rh1 (nt_vS At0) (fun x2 yx2 Vx2 => ?_)
  refine nt_rcv Rh1 Vx2 (fun a3 ya3 Aa3 => ?_)
  refine nt_doE (n_Jx4a65c_size_8abf5 Rh1 Aa3) (fun h4 yh4 x5 Rh4 => ?_)
  refine nt_gP Rh4 (nt_vS At0) (fun x6 yx6 Vx6 => ?_)
  refine nt_gI Rh4 (nt_vS At0) (fun x7 => ?_)
  refine nt_doE (n_X9_init Rh4 (nt_aN Rh) _ Vv2 _ _ Vx6 _) (fun h8 yh8 x9 Rh8 => ?_)
  refine nt_gP Rh8 (nt_vS At0) (fun x10 yx10 Vx10 => ?_)
  refine nt_rcv Rh8 Vx10 (fun a11 ya11 Aa11 => ?_)
  refine nt_doE (n_Jx4a65c_add_9ea2d Rh8 Aa11 (nt_vN Rh)) (fun h12 yh12 x13 Rh12 => ?_)
  refine nt_gP Rh12 (nt_vS At0) (fun x14 yx14 Vx14 => ?_)
  refine nt_gI Rh12 (nt_vS At0) (fun x15 => ?_)
  refine nt_rcv Rh12 Vx14 (fun a16 ya16 Aa16 => ?_)
  refine nt_doE (n_X7_publish Rh12 Aa16 (nt_vN Rh) _ _) (fun h17 yh17 x18 Rh17 => ?_)
  refine nt_gI Rh17 (nt_vN Rh) (fun x19 => ?_)
  exact nt_ret Rh17 rfl
theorem n_X11_grant {ρ : Nat → Nat} {D F : Nat → Prop} {h0 : nk_H} {u v : Nat}   {h yh : nk_H} (Rh : nt_R ρ D F h0 u v yh h) {t0 yt0 : Nat} (At0 : nt_A ρ D t0 yt0) (v1 : Int32) (v2 : Int32) (v3 : Int32) : nt_F ρ D F h0 u v Eq (f_X11_grant h t0 v1 v2 v3) (f_X11_grant yh yt0 v1 v2 v3) := by
  unfold f_X11_grant
  refine nt_dt (n_X11_mustBeKiosk Rh _) (fun h1 yh1 x2 Rh1 => ?_)
  refine nt_dt (n_X11_mustBePerson Rh1 _) (fun h3 yh3 x4 Rh3 => ?_)
  refine nt_dt (n_X11_mustBePerson Rh3 _) (fun h5 yh5 x6 Rh5 => ?_)
  refine nt_dt (n_X11_mustBeOtherPerson Rh5 _ _) (fun h7 yh7 x8 Rh7 => ?_)
  refine nt_rcv Rh7 (nt_vS At0) (fun a9 ya9 Aa9 => ?_)
  refine nt_dt (n_X11_mustHaveRoomForPower Rh7 Aa9) (fun h10 yh10 x11 Rh10 => ?_)
  refine nt_rcv Rh10 (nt_vS At0) (fun a12 ya12 Aa12 => ?_)
  refine nt_doE (n_X11_makePower Rh10 Aa12 _ nt_vn _ _) (fun h13 yh13 x14 Rh13 => ?_)
  exact nt_ret Rh13 rfl
theorem n_X11_mustBePower_c15 {ρ : Nat → Nat} {D F : Nat → Prop} {h0 : nk_H} {u v : Nat}   {h yh : nk_H} (Rh : nt_R ρ D F h0 u v yh h) : nt_F ρ D F h0 u v Eq (f_X11_mustBePower_c15 h) (f_X11_mustBePower_c15 yh) := by
  unfold f_X11_mustBePower_c15
  exact nt_ret (nt_alR Rh 0 0 6) rfl
theorem n_X11_mustBePower {ρ : Nat → Nat} {D F : Nat → Prop} {h0 : nk_H} {u v : Nat}   {h yh : nk_H} (Rh : nt_R ρ D F h0 u v yh h) {t0 yt0 : Nat} (At0 : nt_A ρ D t0 yt0) (v1 : Int32) : nt_F ρ D F h0 u v Eq (f_X11_mustBePower h t0 v1) (f_X11_mustBePower yh yt0 v1) := by
  unfold f_X11_mustBePower
  refine nt_ite ?_ ?_
  · exact (n_X11_mustBePower_c15 Rh)
  · refine nt_gP Rh (nt_vS At0) (fun x1 yx1 Vx1 => ?_)
    refine nt_rcv Rh Vx1 (fun a2 ya2 Aa2 => ?_)
    refine nt_doE (n_Jx4a65c_size_8abf5 Rh Aa2) (fun h3 yh3 x4 Rh3 => ?_)
    refine nt_ite ?_ ?_
    · exact nt_ret Rh3 rfl
    · exact (n_X11_mustBePower_c15 Rh3)
theorem n_X11_isGoodAt_c46 {ρ : Nat → Nat} {D F : Nat → Prop} {h0 : nk_H} {u v : Nat}   {h yh : nk_H} (Rh : nt_R ρ D F h0 u v yh h) (s0 : Int32) : nt_F ρ D F h0 u v Eq (f_X11_isGoodAt_c46 h s0) (f_X11_isGoodAt_c46 yh s0) := by
  unfold f_X11_isGoodAt_c46
  exact nt_zr Rh _ rfl
theorem n_X11_isGoodAt_c45 {ρ : Nat → Nat} {D F : Nat → Prop} {h0 : nk_H} {u v : Nat}   {h yh : nk_H} (Rh : nt_R ρ D F h0 u v yh h) : nt_F ρ D F h0 u v Eq (f_X11_isGoodAt_c45 h) (f_X11_isGoodAt_c45 yh) := by
  unfold f_X11_isGoodAt_c45
  exact (n_X11_isGoodAt_c46 Rh _)
theorem n_X11_isGoodAt {ρ : Nat → Nat} {D F : Nat → Prop} {h0 : nk_H} {u v : Nat}   {h yh : nk_H} (Rh : nt_R ρ D F h0 u v yh h) {t0 yt0 : Nat} (At0 : nt_A ρ D t0 yt0) (v1 : Int32) {v2 yv2 : Option Nat} (Vv2 : nt_V ρ D v2 yv2) : nt_F ρ D F h0 u v Eq (f_X11_isGoodAt h t0 v1 v2) (f_X11_isGoodAt yh yt0 v1 yv2) := by
  unfold f_X11_isGoodAt
  refine nt_gP Rh (nt_vS At0) (fun x1 yx1 Vx1 => ?_)
  refine nt_rcv Rh Vx1 (fun a2 ya2 Aa2 => ?_)
  refine nt_doE (n_X7_lookAtRead Rh Aa2 _) (fun h3 yh3 x4 Rh3 => ?_)
  refine nt_gP Rh3 (nt_vS At0) (fun x5 yx5 Vx5 => ?_)
  refine nt_rcv Rh3 Vx5 (fun a6 ya6 Aa6 => ?_)
  refine nt_doE (n_X7_knows Rh3 Aa6 Vv2) (fun h7 yh7 x8 Rh7 => ?_)
  refine nt_ite ?_ ?_
  · exact (n_X11_isGoodAt_c45 Rh7)
  · refine nt_gP Rh7 (nt_vS At0) (fun x9 yx9 Vx9 => ?_)
    refine nt_rcv Rh7 Vx9 (fun a10 ya10 Aa10 => ?_)
    refine nt_doE (n_X7_revokes Rh7 Aa10 Vv2) (fun h11 yh11 x12 Rh11 => ?_)
    refine nt_ite ?_ ?_
    · refine nt_gI Rh11 (nt_vS At0) (fun x13 => ?_)
      refine nt_rcv Rh11 Vv2 (fun a14 ya14 Aa14 => ?_)
      refine nt_doE (n_X9_isOver Rh11 Aa14 _) (fun h15 yh15 x16 Rh15 => ?_)
      refine nt_ite ?_ ?_
      · exact (n_X11_isGoodAt_c46 Rh15 _)
      · exact (n_X11_isGoodAt_c45 Rh15)
    · exact (n_X11_isGoodAt_c45 Rh11)
theorem n_X11_passOn {ρ : Nat → Nat} {D F : Nat → Prop} {h0 : nk_H} {u v : Nat}   {h yh : nk_H} (Rh : nt_R ρ D F h0 u v yh h) {t0 yt0 : Nat} (At0 : nt_A ρ D t0 yt0) (v1 : Int32) (v2 : Int32) (v3 : Int32) : nt_F ρ D F h0 u v Eq (f_X11_passOn h t0 v1 v2 v3) (f_X11_passOn yh yt0 v1 v2 v3) := by
  unfold f_X11_passOn
  refine nt_dt (n_X11_mustBeKiosk Rh _) (fun h1 yh1 x2 Rh1 => ?_)
  refine nt_rcv Rh1 (nt_vS At0) (fun a3 ya3 Aa3 => ?_)
  refine nt_dt (n_X11_mustBePower Rh1 Aa3 _) (fun h4 yh4 x5 Rh4 => ?_)
  refine nt_dt (n_X11_mustBePerson Rh4 _) (fun h6 yh6 x7 Rh6 => ?_)
  refine nt_gP Rh6 (nt_vS At0) (fun x8 yx8 Vx8 => ?_)
  refine nt_rcv Rh6 Vx8 (fun a9 ya9 Aa9 => ?_)
  refine nt_doV (n_Jx4a65c_get_915e3 Rh6 Aa9 _) (fun h10 yh10 x11 yx11 Rh10 Vx11 => ?_)
  refine nt_cc Rh10 Vx11 ?_
  refine nt_gI Rh10 Vx11 (fun x13 => ?_)
  refine nt_dt (n_X11_mustBeOtherPerson Rh10 _ _) (fun h14 yh14 x15 Rh14 => ?_)
  refine nt_gP Rh14 (nt_vS At0) (fun x16 yx16 Vx16 => ?_)
  refine nt_gI Rh14 (nt_vS At0) (fun x17 => ?_)
  refine nt_rcv Rh14 Vx11 (fun a18 ya18 Aa18 => ?_)
  refine nt_doE (n_X9_covers Rh14 Aa18 Vx16 _) (fun h19 yh19 x20 Rh19 => ?_)
  refine nt_ite ?_ ?_
  · exact nt_ret (nt_alR Rh19 0 0 6) rfl
  · refine nt_rcv Rh19 (nt_vS At0) (fun a21 ya21 Aa21 => ?_)
    refine nt_dt (n_X11_mustHaveRoomForPower Rh19 Aa21) (fun h22 yh22 x23 Rh22 => ?_)
    refine nt_rcv Rh22 (nt_vS At0) (fun a24 ya24 Aa24 => ?_)
    refine nt_doE (n_X11_isGoodAt Rh22 Aa24 _ Vx11) (fun h25 yh25 x26 Rh25 => ?_)
    refine nt_ite ?_ ?_
    · exact nt_ret (nt_alR Rh25 0 0 6) rfl
    · refine nt_gI Rh25 Vx11 (fun x27 => ?_)
      refine nt_rcv Rh25 (nt_vS At0) (fun a28 ya28 Aa28 => ?_)
      refine nt_doE (n_X11_makePower Rh25 Aa28 _ Vx11 _ _) (fun h29 yh29 x30 Rh29 => ?_)
      exact nt_ret Rh29 rfl
theorem n_X11_revoke_c81 {ρ : Nat → Nat} {D F : Nat → Prop} {h0 : nk_H} {u v : Nat}   {h yh : nk_H} (Rh : nt_R ρ D F h0 u v yh h) : nt_F ρ D F h0 u v Eq (f_X11_revoke_c81 h) (f_X11_revoke_c81 yh) := by
  unfold f_X11_revoke_c81
  exact nt_ret (nt_alR Rh 0 0 6) rfl
theorem n_X11_revoke {ρ : Nat → Nat} {D F : Nat → Prop} {h0 : nk_H} {u v : Nat}   {h yh : nk_H} (Rh : nt_R ρ D F h0 u v yh h) {t0 yt0 : Nat} (At0 : nt_A ρ D t0 yt0) (v1 : Int32) (v2 : Int32) (v3 : Int32) : nt_F ρ D F h0 u v Eq (f_X11_revoke h t0 v1 v2 v3) (f_X11_revoke yh yt0 v1 v2 v3) := by
  unfold f_X11_revoke
  refine nt_dt (n_X11_mustBeKiosk Rh _) (fun h1 yh1 x2 Rh1 => ?_)
  refine nt_dt (n_X11_mustBePerson Rh1 _) (fun h3 yh3 x4 Rh3 => ?_)
  refine nt_rcv Rh3 (nt_vS At0) (fun a5 ya5 Aa5 => ?_)
  refine nt_dt (n_X11_mustBePower Rh3 Aa5 _) (fun h6 yh6 x7 Rh6 => ?_)
  refine nt_gP Rh6 (nt_vS At0) (fun x8 yx8 Vx8 => ?_)
  refine nt_rcv Rh6 Vx8 (fun a9 ya9 Aa9 => ?_)
  refine nt_doV (n_Jx4a65c_get_915e3 Rh6 Aa9 _) (fun h10 yh10 x11 yx11 Rh10 Vx11 => ?_)
  refine nt_cc Rh10 Vx11 ?_
  refine nt_rcv Rh10 Vx11 (fun a13 ya13 Aa13 => ?_)
  refine nt_doE (n_X9_hasGiver Rh10 Aa13 _) (fun h14 yh14 x15 Rh14 => ?_)
  refine nt_ite ?_ ?_
  · exact nt_ret (nt_alR Rh14 0 0 6) rfl
  · refine nt_rcv Rh14 (nt_vS At0) (fun a16 ya16 Aa16 => ?_)
    refine nt_dt (n_X11_mustHaveRoomForNews Rh14 Aa16) (fun h17 yh17 x18 Rh17 => ?_)
    refine nt_gP Rh17 (nt_vS At0) (fun x19 yx19 Vx19 => ?_)
    refine nt_rcv Rh17 Vx19 (fun a20 ya20 Aa20 => ?_)
    refine nt_doE (n_X7_lookAtRead Rh17 Aa20 _) (fun h21 yh21 x22 Rh21 => ?_)
    refine nt_gP Rh21 (nt_vS At0) (fun x23 yx23 Vx23 => ?_)
    refine nt_rcv Rh21 Vx23 (fun a24 ya24 Aa24 => ?_)
    refine nt_doE (n_X7_knows Rh21 Aa24 Vx11) (fun h25 yh25 x26 Rh25 => ?_)
    refine nt_ite ?_ ?_
    · exact (n_X11_revoke_c81 Rh25)
    · refine nt_gP Rh25 (nt_vS At0) (fun x27 yx27 Vx27 => ?_)
      refine nt_rcv Rh25 Vx27 (fun a28 ya28 Aa28 => ?_)
      refine nt_doE (n_X7_revokes Rh25 Aa28 Vx11) (fun h29 yh29 x30 Rh29 => ?_)
      refine nt_ite ?_ ?_
      · refine nt_gP Rh29 (nt_vS At0) (fun x31 yx31 Vx31 => ?_)
        refine nt_al Rh29 (fun h32 yh32 Rh32 => ?_)
        refine nt_doE (n_X10_init Rh32 (nt_aN Rh29) Vx11) (fun h33 yh33 x34 Rh33 => ?_)
        refine nt_gI Rh33 (nt_vS At0) (fun x35 => ?_)
        refine nt_rcv Rh33 Vx31 (fun a36 ya36 Aa36 => ?_)
        refine nt_doE (n_X7_publish Rh33 Aa36 (nt_vN Rh29) _ _) (fun h37 yh37 x38 Rh37 => ?_)
        exact nt_ret Rh37 rfl
      · exact (n_X11_revoke_c81 Rh29)
theorem n_X11_depute {ρ : Nat → Nat} {D F : Nat → Prop} {h0 : nk_H} {u v : Nat}   {h yh : nk_H} (Rh : nt_R ρ D F h0 u v yh h) {t0 yt0 : Nat} (At0 : nt_A ρ D t0 yt0) (v1 : Int32) (v2 : Int32) (v3 : Int32) : nt_F ρ D F h0 u v Eq (f_X11_depute h t0 v1 v2 v3) (f_X11_depute yh yt0 v1 v2 v3) := by
  unfold f_X11_depute
  refine nt_dt (n_X11_mustBeKiosk Rh _) (fun h1 yh1 x2 Rh1 => ?_)
  refine nt_dt (n_X11_mustBeWithin Rh1 _ _ _) (fun h3 yh3 x4 Rh3 => ?_)
  refine nt_dt (n_X11_mustBeWithin Rh3 _ _ _) (fun h5 yh5 x6 Rh5 => ?_)
  refine nt_rcv Rh5 (nt_vS At0) (fun a7 ya7 Aa7 => ?_)
  refine nt_dt (n_X11_mustHaveRoomForNews Rh5 Aa7) (fun h8 yh8 x9 Rh8 => ?_)
  refine nt_gI Rh8 (nt_vS At0) (fun x10 => ?_)
  refine nt_gP Rh8 (nt_vS At0) (fun x11 yx11 Vx11 => ?_)
  refine nt_rcv Rh8 Vx11 (fun a12 ya12 Aa12 => ?_)
  refine nt_doE (n_X7_lookAtAll Rh8 Aa12) (fun h13 yh13 x14 Rh13 => ?_)
  refine nt_gP Rh13 (nt_vS At0) (fun x15 yx15 Vx15 => ?_)
  refine nt_rcv Rh13 Vx15 (fun a16 ya16 Aa16 => ?_)
  refine nt_doE (n_X7_deputes Rh13 Aa16 _ _ _) (fun h17 yh17 x18 Rh17 => ?_)
  refine nt_ite ?_ ?_
  · refine nt_gP Rh17 (nt_vS At0) (fun x19 yx19 Vx19 => ?_)
    refine nt_al Rh17 (fun h20 yh20 Rh20 => ?_)
    refine nt_doE (n_X4_init Rh20 (nt_aN Rh17) _ _ _) (fun h21 yh21 x22 Rh21 => ?_)
    refine nt_gI Rh21 (nt_vS At0) (fun x23 => ?_)
    refine nt_rcv Rh21 Vx19 (fun a24 ya24 Aa24 => ?_)
    refine nt_doE (n_X7_publish Rh21 Aa24 (nt_vN Rh17) _ _) (fun h25 yh25 x26 Rh25 => ?_)
    exact nt_ret Rh25 rfl
  · exact nt_ret (nt_alR Rh17 0 0 6) rfl
theorem n_X11_prepare {ρ : Nat → Nat} {D F : Nat → Prop} {h0 : nk_H} {u v : Nat}   {h yh : nk_H} (Rh : nt_R ρ D F h0 u v yh h) {t0 yt0 : Nat} (At0 : nt_A ρ D t0 yt0) (v1 : Int32) (v2 : Int32) : nt_F ρ D F h0 u v Eq (f_X11_prepare h t0 v1 v2) (f_X11_prepare yh yt0 v1 v2) := by
  unfold f_X11_prepare
  refine nt_dt (n_X11_mustBeWithin Rh _ _ _) (fun h1 yh1 x2 Rh1 => ?_)
  refine nt_dt (n_X11_mustBeWithin Rh1 _ _ _) (fun h3 yh3 x4 Rh3 => ?_)
  refine nt_pI Rh3 (nt_vS At0) (fun h5 yh5 Rh5 => ?_)
  refine nt_pI Rh5 (nt_vS At0) (fun h6 yh6 Rh6 => ?_)
  exact nt_ret Rh6 rfl
theorem n_X11_deedNow {ρ : Nat → Nat} {D F : Nat → Prop} {h0 : nk_H} {u v : Nat}   {h yh : nk_H} (Rh : nt_R ρ D F h0 u v yh h) {t0 yt0 : Nat} (At0 : nt_A ρ D t0 yt0) (v1 : Int32) (v2 : Int32) (v3 : Int32) : nt_F ρ D F h0 u v (nt_V ρ D) (f_X11_deedNow h t0 v1 v2 v3) (f_X11_deedNow yh yt0 v1 v2 v3) := by
  unfold f_X11_deedNow
  refine nt_al Rh (fun h1 yh1 Rh1 => ?_)
  refine nt_gI Rh1 (nt_vS At0) (fun x2 => ?_)
  refine nt_gI Rh1 (nt_vS At0) (fun x3 => ?_)
  refine nt_gI Rh1 (nt_vS At0) (fun x4 => ?_)
  refine nt_doE (n_X3_init Rh1 (nt_aN Rh) _ _ _ _ _ _) (fun h5 yh5 x6 Rh5 => ?_)
  exact nt_ret Rh5 (nt_vN Rh)
theorem n_X11_reasonByMail {ρ : Nat → Nat} {D F : Nat → Prop} {h0 : nk_H} {u v : Nat}   {h yh : nk_H} (Rh : nt_R ρ D F h0 u v yh h) {t0 yt0 : Nat} (At0 : nt_A ρ D t0 yt0) {v1 yv1 : Option Nat} (Vv1 : nt_V ρ D v1 yv1) : nt_F ρ D F h0 u v Eq (f_X11_reasonByMail h t0 v1) (f_X11_reasonByMail yh yt0 yv1) := by
  unfold f_X11_reasonByMail
  refine nt_gP Rh (nt_vS At0) (fun x1 yx1 Vx1 => ?_)
  refine nt_rcv Rh Vx1 (fun a2 ya2 Aa2 => ?_)
  refine nt_doE (n_X7_lookAtReadable Rh Aa2 Vv1) (fun h3 yh3 x4 Rh3 => ?_)
  refine nt_gP Rh3 (nt_vS At0) (fun x5 yx5 Vx5 => ?_)
  refine nt_gP Rh3 Vv1 (fun x6 yx6 Vx6 => ?_)
  refine nt_gP Rh3 Vv1 (fun x7 yx7 Vx7 => ?_)
  refine nt_rcv Rh3 Vx5 (fun a8 ya8 Aa8 => ?_)
  refine nt_doE (n_X7_reasonAgainst Rh3 Aa8 Vx6 Vx7) (fun h9 yh9 x10 Rh9 => ?_)
  exact nt_ret Rh9 rfl
theorem n_X11_act_c125 {ρ : Nat → Nat} {D F : Nat → Prop} {h0 : nk_H} {u v : Nat}   {h yh : nk_H} (Rh : nt_R ρ D F h0 u v yh h) {t0 yt0 : Nat} (At0 : nt_A ρ D t0 yt0) (v1 : Int32) {v7 yv7 : Option Nat} (Vv7 : nt_V ρ D v7 yv7) (s0 : Int32) {s1 ys1 : Option Nat} (Vs1 : nt_V ρ D s1 ys1) : nt_F ρ D F h0 u v Eq (f_X11_act_c125 h t0 v1 v7 s0 s1) (f_X11_act_c125 yh yt0 v1 yv7 s0 ys1) := by
  unfold f_X11_act_c125
  refine nt_pZ Rh Vs1 (fun h1 yh1 Rh1 => ?_)
  refine nt_gP Rh1 (nt_vS At0) (fun x2 yx2 Vx2 => ?_)
  refine nt_aP Rh1 Vx2 (fun x3 yx3 Vx3 => ?_)
  refine nt_rcv Rh1 Vx3 (fun a4 ya4 Aa4 => ?_)
  refine nt_doE (n_X1_enter Rh1 Aa4 Vv7) (fun h5 yh5 x6 Rh5 => ?_)
  exact nt_ret Rh5 rfl
theorem n_X11_act {ρ : Nat → Nat} {D F : Nat → Prop} {h0 : nk_H} {u v : Nat}   {h yh : nk_H} (Rh : nt_R ρ D F h0 u v yh h) {t0 yt0 : Nat} (At0 : nt_A ρ D t0 yt0) (v1 : Int32) (v2 : Int32) (v3 : Int32) (v4 : Int32) : nt_F ρ D F h0 u v Eq (f_X11_act h t0 v1 v2 v3 v4) (f_X11_act yh yt0 v1 v2 v3 v4) := by
  unfold f_X11_act
  refine nt_dt (n_X11_mustBeKiosk Rh _) (fun h7 yh7 x8 Rh7 => ?_)
  refine nt_dt (n_X11_mustBePerson Rh7 _) (fun h9 yh9 x10 Rh9 => ?_)
  refine nt_rcv Rh9 (nt_vS At0) (fun a11 ya11 Aa11 => ?_)
  refine nt_dt (n_X11_mustBePower Rh9 Aa11 _) (fun h12 yh12 x13 Rh12 => ?_)
  refine nt_dt (n_X11_mustBeWithin Rh12 _ _ _) (fun h14 yh14 x15 Rh14 => ?_)
  refine nt_rcv Rh14 (nt_vS At0) (fun a16 ya16 Aa16 => ?_)
  refine nt_dt (n_X11_mustHaveRoomForNews Rh14 Aa16) (fun h17 yh17 x18 Rh17 => ?_)
  refine nt_gP Rh17 (nt_vS At0) (fun x19 yx19 Vx19 => ?_)
  refine nt_rcv Rh17 Vx19 (fun a20 ya20 Aa20 => ?_)
  refine nt_doV (n_Jx4a65c_get_915e3 Rh17 Aa20 _) (fun h21 yh21 x22 yx22 Rh21 Vx22 => ?_)
  refine nt_cc Rh21 Vx22 ?_
  refine nt_rcv Rh21 (nt_vS At0) (fun a24 ya24 Aa24 => ?_)
  refine nt_doV (n_X11_deedNow Rh21 Aa24 _ _ _) (fun h25 yh25 x26 yx26 Rh25 Vx26 => ?_)
  refine nt_gP Rh25 (nt_vS At0) (fun x27 yx27 Vx27 => ?_)
  refine nt_rcv Rh25 Vx27 (fun a28 ya28 Aa28 => ?_)
  refine nt_doE (n_X7_lookAtRead Rh25 Aa28 _) (fun h29 yh29 x30 Rh29 => ?_)
  refine nt_gP Rh29 (nt_vS At0) (fun x31 yx31 Vx31 => ?_)
  refine nt_rcv Rh29 Vx31 (fun a32 ya32 Aa32 => ?_)
  refine nt_doE (n_X7_reasonAgainst Rh29 Aa32 Vx22 Vx26) (fun h33 yh33 x34 Rh33 => ?_)
  refine nt_ite ?_ ?_
  · refine nt_al Rh33 (fun h35 yh35 Rh35 => ?_)
    refine nt_doE (n_X0_init Rh35 (nt_aN Rh33) Vx22 Vx26) (fun h36 yh36 x37 Rh36 => ?_)
    refine nt_gP Rh36 (nt_vS At0) (fun x38 yx38 Vx38 => ?_)
    refine nt_gI Rh36 (nt_vS At0) (fun x39 => ?_)
    refine nt_rcv Rh36 Vx38 (fun a40 ya40 Aa40 => ?_)
    refine nt_doE (n_X7_publish Rh36 Aa40 (nt_vN Rh33) _ _) (fun h41 yh41 x42 Rh41 => ?_)
    refine nt_rcv Rh41 (nt_vS At0) (fun a43 ya43 Aa43 => ?_)
    refine nt_doE (n_X11_reasonByMail Rh41 Aa43 (nt_vN Rh33)) (fun h44 yh44 x45 Rh44 => ?_)
    refine nt_ite ?_ ?_
    · exact (n_X11_act_c125 Rh44 At0 _ (nt_vN Rh33) _ (nt_vN Rh33))
    · exact (n_X11_act_c125 Rh44 At0 _ (nt_vN Rh33) _ (nt_vN Rh33))
  · exact nt_ret (nt_alR Rh33 0 0 6) rfl
theorem n_X11_mustBeRecord_c21 {ρ : Nat → Nat} {D F : Nat → Prop} {h0 : nk_H} {u v : Nat}   {h yh : nk_H} (Rh : nt_R ρ D F h0 u v yh h) : nt_F ρ D F h0 u v Eq (f_X11_mustBeRecord_c21 h) (f_X11_mustBeRecord_c21 yh) := by
  unfold f_X11_mustBeRecord_c21
  exact nt_ret (nt_alR Rh 0 0 6) rfl
theorem n_X11_mustBeRecord {ρ : Nat → Nat} {D F : Nat → Prop} {h0 : nk_H} {u v : Nat}   {h yh : nk_H} (Rh : nt_R ρ D F h0 u v yh h) {t0 yt0 : Nat} (At0 : nt_A ρ D t0 yt0) (v1 : Int32) (v2 : Int32) : nt_F ρ D F h0 u v Eq (f_X11_mustBeRecord h t0 v1 v2) (f_X11_mustBeRecord yh yt0 v1 v2) := by
  unfold f_X11_mustBeRecord
  refine nt_dt (n_X11_mustBeKiosk Rh _) (fun h1 yh1 x2 Rh1 => ?_)
  refine nt_ite ?_ ?_
  · exact (n_X11_mustBeRecord_c21 Rh1)
  · refine nt_gP Rh1 (nt_vS At0) (fun x3 yx3 Vx3 => ?_)
    refine nt_aP Rh1 Vx3 (fun x4 yx4 Vx4 => ?_)
    refine nt_rcv Rh1 Vx4 (fun a5 ya5 Aa5 => ?_)
    refine nt_doE (n_X1_count Rh1 Aa5) (fun h6 yh6 x7 Rh6 => ?_)
    refine nt_ite ?_ ?_
    · exact nt_ret Rh6 rfl
    · exact (n_X11_mustBeRecord_c21 Rh6)
theorem n_X11_tamper {ρ : Nat → Nat} {D F : Nat → Prop} {h0 : nk_H} {u v : Nat}   {h yh : nk_H} (Rh : nt_R ρ D F h0 u v yh h) {t0 yt0 : Nat} (At0 : nt_A ρ D t0 yt0) (v1 : Int32) (v2 : Int32) (v3 : Int32) : nt_F ρ D F h0 u v Eq (f_X11_tamper h t0 v1 v2 v3) (f_X11_tamper yh yt0 v1 v2 v3) := by
  unfold f_X11_tamper
  refine nt_rcv Rh (nt_vS At0) (fun a1 ya1 Aa1 => ?_)
  refine nt_dt (n_X11_mustBeRecord Rh Aa1 _ _) (fun h2 yh2 x3 Rh2 => ?_)
  refine nt_dt (n_X11_mustBeWithin Rh2 _ _ _) (fun h4 yh4 x5 Rh4 => ?_)
  refine nt_gP Rh4 (nt_vS At0) (fun x6 yx6 Vx6 => ?_)
  refine nt_aP Rh4 Vx6 (fun x7 yx7 Vx7 => ?_)
  refine nt_rcv Rh4 Vx7 (fun a8 ya8 Aa8 => ?_)
  refine nt_doV (n_X1_actOf Rh4 Aa8 _) (fun h9 yh9 x10 yx10 Rh9 Vx10 => ?_)
  refine nt_gP Rh9 Vx10 (fun x11 yx11 Vx11 => ?_)
  refine nt_aI Rh9 Vx11 (fun x12 => ?_)
  refine nt_gP Rh9 Vx10 (fun x13 yx13 Vx13 => ?_)
  refine nt_wI Rh9 Vx13 (fun h14 yh14 Rh14 => ?_)
  exact nt_ret Rh14 rfl
theorem n_X11_copy {ρ : Nat → Nat} {D F : Nat → Prop} {h0 : nk_H} {u v : Nat}   {h yh : nk_H} (Rh : nt_R ρ D F h0 u v yh h) {t0 yt0 : Nat} (At0 : nt_A ρ D t0 yt0) (v1 : Int32) (v2 : Int32) (v3 : Int32) (v4 : Int32) : nt_F ρ D F h0 u v Eq (f_X11_copy h t0 v1 v2 v3 v4) (f_X11_copy yh yt0 v1 v2 v3 v4) := by
  unfold f_X11_copy
  refine nt_rcv Rh (nt_vS At0) (fun a1 ya1 Aa1 => ?_)
  refine nt_dt (n_X11_mustBeRecord Rh Aa1 _ _) (fun h2 yh2 x3 Rh2 => ?_)
  refine nt_rcv Rh2 (nt_vS At0) (fun a4 ya4 Aa4 => ?_)
  refine nt_dt (n_X11_mustBeRecord Rh2 Aa4 _ _) (fun h5 yh5 x6 Rh5 => ?_)
  refine nt_dt (n_X11_mustBeWithin Rh5 _ _ _) (fun h7 yh7 x8 Rh7 => ?_)
  refine nt_ite ?_ ?_
  · refine nt_gP Rh7 (nt_vS At0) (fun x9 yx9 Vx9 => ?_)
    refine nt_rcv Rh7 Vx9 (fun a10 ya10 Aa10 => ?_)
    refine nt_doE (n_Jx4a65c_size_8abf5 Rh7 Aa10) (fun h11 yh11 x12 Rh11 => ?_)
    refine nt_ite ?_ ?_
    · refine nt_al Rh11 (fun h13 yh13 Rh13 => ?_)
      refine nt_doE (n_X2_init Rh13 (nt_aN Rh11) _ _ _ _) (fun h14 yh14 x15 Rh14 => ?_)
      refine nt_gP Rh14 (nt_vS At0) (fun x16 yx16 Vx16 => ?_)
      refine nt_aP Rh14 Vx16 (fun x17 yx17 Vx17 => ?_)
      refine nt_rcv Rh14 (nt_vN Rh11) (fun a18 ya18 Aa18 => ?_)
      refine nt_doE (n_X2_takeFrom Rh14 Aa18 Vx17) (fun h19 yh19 x20 Rh19 => ?_)
      refine nt_gP Rh19 (nt_vS At0) (fun x21 yx21 Vx21 => ?_)
      refine nt_rcv Rh19 Vx21 (fun a22 ya22 Aa22 => ?_)
      refine nt_doE (n_Jx4a65c_add_9ea2d Rh19 Aa22 (nt_vN Rh11)) (fun h23 yh23 x24 Rh23 => ?_)
      refine nt_gP Rh23 (nt_vS At0) (fun x25 yx25 Vx25 => ?_)
      refine nt_rcv Rh23 Vx25 (fun a26 ya26 Aa26 => ?_)
      refine nt_doE (n_Jx4a65c_size_8abf5 Rh23 Aa26) (fun h27 yh27 x28 Rh27 => ?_)
      exact nt_ret Rh27 rfl
    · exact nt_ret (nt_alR Rh11 0 0 6) rfl
  · exact nt_ret (nt_alR Rh7 0 0 6) rfl
theorem n_X11_mustBeCopy_c15 {ρ : Nat → Nat} {D F : Nat → Prop} {h0 : nk_H} {u v : Nat}   {h yh : nk_H} (Rh : nt_R ρ D F h0 u v yh h) : nt_F ρ D F h0 u v Eq (f_X11_mustBeCopy_c15 h) (f_X11_mustBeCopy_c15 yh) := by
  unfold f_X11_mustBeCopy_c15
  exact nt_ret (nt_alR Rh 0 0 6) rfl
theorem n_X11_mustBeCopy {ρ : Nat → Nat} {D F : Nat → Prop} {h0 : nk_H} {u v : Nat}   {h yh : nk_H} (Rh : nt_R ρ D F h0 u v yh h) {t0 yt0 : Nat} (At0 : nt_A ρ D t0 yt0) (v1 : Int32) : nt_F ρ D F h0 u v Eq (f_X11_mustBeCopy h t0 v1) (f_X11_mustBeCopy yh yt0 v1) := by
  unfold f_X11_mustBeCopy
  refine nt_ite ?_ ?_
  · exact (n_X11_mustBeCopy_c15 Rh)
  · refine nt_gP Rh (nt_vS At0) (fun x1 yx1 Vx1 => ?_)
    refine nt_rcv Rh Vx1 (fun a2 ya2 Aa2 => ?_)
    refine nt_doE (n_Jx4a65c_size_8abf5 Rh Aa2) (fun h3 yh3 x4 Rh3 => ?_)
    refine nt_ite ?_ ?_
    · exact nt_ret Rh3 rfl
    · exact (n_X11_mustBeCopy_c15 Rh3)
theorem n_X11_mustBePlace_c27 {ρ : Nat → Nat} {D F : Nat → Prop} {h0 : nk_H} {u v : Nat}   {h yh : nk_H} (Rh : nt_R ρ D F h0 u v yh h) : nt_F ρ D F h0 u v Eq (f_X11_mustBePlace_c27 h) (f_X11_mustBePlace_c27 yh) := by
  unfold f_X11_mustBePlace_c27
  exact nt_ret (nt_alR Rh 0 0 6) rfl
theorem n_X11_mustBePlace {ρ : Nat → Nat} {D F : Nat → Prop} {h0 : nk_H} {u v : Nat}   {h yh : nk_H} (Rh : nt_R ρ D F h0 u v yh h) {t0 yt0 : Nat} (At0 : nt_A ρ D t0 yt0) (v1 : Int32) (v2 : Int32) : nt_F ρ D F h0 u v Eq (f_X11_mustBePlace h t0 v1 v2) (f_X11_mustBePlace yh yt0 v1 v2) := by
  unfold f_X11_mustBePlace
  refine nt_rcv Rh (nt_vS At0) (fun a1 ya1 Aa1 => ?_)
  refine nt_dt (n_X11_mustBeCopy Rh Aa1 _) (fun h2 yh2 x3 Rh2 => ?_)
  refine nt_ite ?_ ?_
  · exact (n_X11_mustBePlace_c27 Rh2)
  · refine nt_gP Rh2 (nt_vS At0) (fun x4 yx4 Vx4 => ?_)
    refine nt_rcv Rh2 Vx4 (fun a5 ya5 Aa5 => ?_)
    refine nt_doV (n_Jx4a65c_get_915e3 Rh2 Aa5 _) (fun h6 yh6 x7 yx7 Rh6 Vx7 => ?_)
    refine nt_cc Rh6 Vx7 ?_
    refine nt_gI Rh6 Vx7 (fun x9 => ?_)
    refine nt_ite ?_ ?_
    · exact nt_ret Rh6 rfl
    · exact (n_X11_mustBePlace_c27 Rh6)
theorem n_X11_mustBePart_c10 {ρ : Nat → Nat} {D F : Nat → Prop} {h0 : nk_H} {u v : Nat}   {h yh : nk_H} (Rh : nt_R ρ D F h0 u v yh h) : nt_F ρ D F h0 u v Eq (f_X11_mustBePart_c10 h) (f_X11_mustBePart_c10 yh) := by
  unfold f_X11_mustBePart_c10
  exact nt_ret (nt_alR Rh 0 0 6) rfl
theorem n_X11_mustBePart {ρ : Nat → Nat} {D F : Nat → Prop} {h0 : nk_H} {u v : Nat}   {h yh : nk_H} (Rh : nt_R ρ D F h0 u v yh h) (v0 : Int32) : nt_F ρ D F h0 u v Eq (f_X11_mustBePart h v0) (f_X11_mustBePart yh v0) := by
  unfold f_X11_mustBePart
  refine nt_ite ?_ ?_
  · exact (n_X11_mustBePart_c10 Rh)
  · refine nt_ite ?_ ?_
    · exact nt_ret Rh rfl
    · exact (n_X11_mustBePart_c10 Rh)
theorem n_X11_forge {ρ : Nat → Nat} {D F : Nat → Prop} {h0 : nk_H} {u v : Nat}   {h yh : nk_H} (Rh : nt_R ρ D F h0 u v yh h) {t0 yt0 : Nat} (At0 : nt_A ρ D t0 yt0) (v1 : Int32) (v2 : Int32) (v3 : Int32) (v4 : Int32) : nt_F ρ D F h0 u v Eq (f_X11_forge h t0 v1 v2 v3 v4) (f_X11_forge yh yt0 v1 v2 v3 v4) := by
  unfold f_X11_forge
  refine nt_rcv Rh (nt_vS At0) (fun a1 ya1 Aa1 => ?_)
  refine nt_dt (n_X11_mustBePlace Rh Aa1 _ _) (fun h2 yh2 x3 Rh2 => ?_)
  refine nt_dt (n_X11_mustBePart Rh2 _) (fun h4 yh4 x5 Rh4 => ?_)
  refine nt_dt (n_X11_mustBeWithin Rh4 _ _ _) (fun h6 yh6 x7 Rh6 => ?_)
  refine nt_gP Rh6 (nt_vS At0) (fun x8 yx8 Vx8 => ?_)
  refine nt_rcv Rh6 Vx8 (fun a9 ya9 Aa9 => ?_)
  refine nt_doV (n_Jx4a65c_get_915e3 Rh6 Aa9 _) (fun h10 yh10 x11 yx11 Rh10 Vx11 => ?_)
  refine nt_cc Rh10 Vx11 ?_
  refine nt_rcv Rh10 Vx11 (fun a13 ya13 Aa13 => ?_)
  refine nt_doE (n_X2_leavesOut Rh10 Aa13 _) (fun h14 yh14 x15 Rh14 => ?_)
  refine nt_ite ?_ ?_
  · refine nt_gP Rh14 Vx11 (fun x16 yx16 Vx16 => ?_)
    refine nt_aP Rh14 Vx16 (fun x17 yx17 Vx17 => ?_)
    refine nt_aI Rh14 Vx17 (fun x18 => ?_)
    refine nt_gP Rh14 Vx11 (fun x19 yx19 Vx19 => ?_)
    refine nt_aP Rh14 Vx19 (fun x20 yx20 Vx20 => ?_)
    refine nt_wI Rh14 Vx20 (fun h21 yh21 Rh21 => ?_)
    exact nt_ret Rh21 rfl
  · exact nt_ret (nt_alR Rh14 0 0 6) rfl
theorem n_X11_hour {ρ : Nat → Nat} {D F : Nat → Prop} {h0 : nk_H} {u v : Nat}   {h yh : nk_H} (Rh : nt_R ρ D F h0 u v yh h) {t0 yt0 : Nat} (At0 : nt_A ρ D t0 yt0) : nt_F ρ D F h0 u v Eq (f_X11_hour h t0) (f_X11_hour yh yt0) := by
  unfold f_X11_hour
  refine nt_gI Rh (nt_vS At0) (fun x1 => ?_)
  exact nt_ret Rh rfl
theorem n_X11_news {ρ : Nat → Nat} {D F : Nat → Prop} {h0 : nk_H} {u v : Nat}   {h yh : nk_H} (Rh : nt_R ρ D F h0 u v yh h) {t0 yt0 : Nat} (At0 : nt_A ρ D t0 yt0) : nt_F ρ D F h0 u v Eq (f_X11_news h t0) (f_X11_news yh yt0) := by
  unfold f_X11_news
  refine nt_gP Rh (nt_vS At0) (fun x1 yx1 Vx1 => ?_)
  refine nt_rcv Rh Vx1 (fun a2 ya2 Aa2 => ?_)
  refine nt_doE (n_X7_count Rh Aa2) (fun h3 yh3 x4 Rh3 => ?_)
  exact nt_ret Rh3 rfl
theorem n_X11_powers {ρ : Nat → Nat} {D F : Nat → Prop} {h0 : nk_H} {u v : Nat}   {h yh : nk_H} (Rh : nt_R ρ D F h0 u v yh h) {t0 yt0 : Nat} (At0 : nt_A ρ D t0 yt0) : nt_F ρ D F h0 u v Eq (f_X11_powers h t0) (f_X11_powers yh yt0) := by
  unfold f_X11_powers
  refine nt_gP Rh (nt_vS At0) (fun x1 yx1 Vx1 => ?_)
  refine nt_rcv Rh Vx1 (fun a2 ya2 Aa2 => ?_)
  refine nt_doE (n_Jx4a65c_size_8abf5 Rh Aa2) (fun h3 yh3 x4 Rh3 => ?_)
  exact nt_ret Rh3 rfl
theorem n_X11_records {ρ : Nat → Nat} {D F : Nat → Prop} {h0 : nk_H} {u v : Nat}   {h yh : nk_H} (Rh : nt_R ρ D F h0 u v yh h) {t0 yt0 : Nat} (At0 : nt_A ρ D t0 yt0) (v1 : Int32) : nt_F ρ D F h0 u v Eq (f_X11_records h t0 v1) (f_X11_records yh yt0 v1) := by
  unfold f_X11_records
  refine nt_dt (n_X11_mustBeKiosk Rh _) (fun h1 yh1 x2 Rh1 => ?_)
  refine nt_gP Rh1 (nt_vS At0) (fun x3 yx3 Vx3 => ?_)
  refine nt_aP Rh1 Vx3 (fun x4 yx4 Vx4 => ?_)
  refine nt_rcv Rh1 Vx4 (fun a5 ya5 Aa5 => ?_)
  refine nt_doE (n_X1_count Rh1 Aa5) (fun h6 yh6 x7 Rh6 => ?_)
  exact nt_ret Rh6 rfl
theorem n_X11_areJoined {ρ : Nat → Nat} {D F : Nat → Prop} {h0 : nk_H} {u v : Nat}   {h yh : nk_H} (Rh : nt_R ρ D F h0 u v yh h) {t0 yt0 : Nat} (At0 : nt_A ρ D t0 yt0) (v1 : Int32) (v2 : Int32) : nt_F ρ D F h0 u v Eq (f_X11_areJoined h t0 v1 v2) (f_X11_areJoined yh yt0 v1 v2) := by
  unfold f_X11_areJoined
  refine nt_dt (n_X11_mustBeKiosk Rh _) (fun h1 yh1 x2 Rh1 => ?_)
  refine nt_dt (n_X11_mustBeKiosk Rh1 _) (fun h3 yh3 x4 Rh3 => ?_)
  refine nt_gP Rh3 (nt_vS At0) (fun x5 yx5 Vx5 => ?_)
  refine nt_rcv Rh3 Vx5 (fun a6 ya6 Aa6 => ?_)
  refine nt_doE (n_X6_areLinked Rh3 Aa6 _ _) (fun h7 yh7 x8 Rh7 => ?_)
  exact nt_zr Rh7 _ rfl
theorem n_X11_mustBePiece_c15 {ρ : Nat → Nat} {D F : Nat → Prop} {h0 : nk_H} {u v : Nat}   {h yh : nk_H} (Rh : nt_R ρ D F h0 u v yh h) : nt_F ρ D F h0 u v Eq (f_X11_mustBePiece_c15 h) (f_X11_mustBePiece_c15 yh) := by
  unfold f_X11_mustBePiece_c15
  exact nt_ret (nt_alR Rh 0 0 6) rfl
theorem n_X11_mustBePiece {ρ : Nat → Nat} {D F : Nat → Prop} {h0 : nk_H} {u v : Nat}   {h yh : nk_H} (Rh : nt_R ρ D F h0 u v yh h) {t0 yt0 : Nat} (At0 : nt_A ρ D t0 yt0) (v1 : Int32) : nt_F ρ D F h0 u v Eq (f_X11_mustBePiece h t0 v1) (f_X11_mustBePiece yh yt0 v1) := by
  unfold f_X11_mustBePiece
  refine nt_ite ?_ ?_
  · exact (n_X11_mustBePiece_c15 Rh)
  · refine nt_gP Rh (nt_vS At0) (fun x1 yx1 Vx1 => ?_)
    refine nt_rcv Rh Vx1 (fun a2 ya2 Aa2 => ?_)
    refine nt_doE (n_X7_count Rh Aa2) (fun h3 yh3 x4 Rh3 => ?_)
    refine nt_ite ?_ ?_
    · exact nt_ret Rh3 rfl
    · exact (n_X11_mustBePiece_c15 Rh3)
theorem n_X11_came {ρ : Nat → Nat} {D F : Nat → Prop} {h0 : nk_H} {u v : Nat}   {h yh : nk_H} (Rh : nt_R ρ D F h0 u v yh h) {t0 yt0 : Nat} (At0 : nt_A ρ D t0 yt0) (v1 : Int32) (v2 : Int32) : nt_F ρ D F h0 u v Eq (f_X11_came h t0 v1 v2) (f_X11_came yh yt0 v1 v2) := by
  unfold f_X11_came
  refine nt_dt (n_X11_mustBeKiosk Rh _) (fun h1 yh1 x2 Rh1 => ?_)
  refine nt_rcv Rh1 (nt_vS At0) (fun a3 ya3 Aa3 => ?_)
  refine nt_dt (n_X11_mustBePiece Rh1 Aa3 _) (fun h4 yh4 x5 Rh4 => ?_)
  refine nt_gP Rh4 (nt_vS At0) (fun x6 yx6 Vx6 => ?_)
  refine nt_rcv Rh4 Vx6 (fun a7 ya7 Aa7 => ?_)
  refine nt_doV (n_X7_pieceAt Rh4 Aa7 _) (fun h8 yh8 x9 yx9 Rh8 Vx9 => ?_)
  refine nt_gP Rh8 Vx9 (fun x10 yx10 Vx10 => ?_)
  refine nt_aI Rh8 Vx10 (fun x11 => ?_)
  exact nt_ret Rh8 rfl
theorem n_X11_cameByLinks_c49 {ρ : Nat → Nat} {D F : Nat → Prop} {h0 : nk_H} {u v : Nat} {r49 r49' : nk_H → Nat → Int32 → Int32 → Int32 → Option (nk_H × (Int32 ⊕ String))} (hr49 : ∀ (g h : nk_H) (a1 b1 : Nat) (i2 : Int32) (i3 : Int32) (i4 : Int32), nt_R ρ D F h0 u v h g → nt_A ρ D a1 b1 → nt_F ρ D F h0 u v Eq (r49 g a1 i2 i3 i4) (r49' h b1 i2 i3 i4)) {h yh : nk_H} (Rh : nt_R ρ D F h0 u v yh h) {t0 yt0 : Nat} (At0 : nt_A ρ D t0 yt0) (v1 : Int32) (v4 : Int32) (v5 : Int32) : nt_F ρ D F h0 u v Eq (f_X11_cameByLinks_c49 r49 h t0 v1 v4 v5) (f_X11_cameByLinks_c49 r49' yh yt0 v1 v4 v5) := by
  unfold f_X11_cameByLinks_c49
  refine nt_gI Rh (nt_vS At0) (fun x1 => ?_)
  refine nt_ite ?_ ?_
  · exact nt_ret Rh rfl
  · refine nt_gP Rh (nt_vS At0) (fun x2 yx2 Vx2 => ?_)
    refine nt_rcv Rh Vx2 (fun a3 ya3 Aa3 => ?_)
    refine nt_doE (n_X6_reach Rh Aa3 _ _) (fun h4 yh4 x5 Rh4 => ?_)
    refine nt_doE (n_X11_hasBit Rh4 _ _) (fun h6 yh6 x7 Rh6 => ?_)
    refine nt_ite ?_ ?_
    · exact (hr49 _ _ _ _ _ _ _ Rh6 At0)
    · exact nt_ret Rh6 rfl
theorem n_X11_cameByLinks_b49 {ρ : Nat → Nat} {D F : Nat → Prop} {h0 : nk_H} {u v : Nat}   : ∀ (n : Nat) {g h : nk_H} (R : nt_R ρ D F h0 u v h g) {a1 b1 : Nat} (A1 : nt_A ρ D a1 b1) (i2 : Int32) (i3 : Int32) (i4 : Int32), nt_F ρ D F h0 u v Eq (f_X11_cameByLinks_b49 n g a1 i2 i3 i4) (f_X11_cameByLinks_b49 n h b1 i2 i3 i4)
  | 0, _, _, _, _, _, _, _, _, _ => nt_none
  | n + 1, _, _, R, _, _, A1, i2, i3, i4 => n_X11_cameByLinks_c49 (fun g h a1 b1 i2 i3 i4 R A1 => n_X11_cameByLinks_b49 n R A1 i2 i3 i4) R A1 i2 i3 i4
theorem n_X11_cameByLinks {ρ : Nat → Nat} {D F : Nat → Prop} {h0 : nk_H} {u v : Nat}   {h yh : nk_H} (Rh : nt_R ρ D F h0 u v yh h) {t0 yt0 : Nat} (At0 : nt_A ρ D t0 yt0) (v1 : Int32) (v2 : Int32) : nt_F ρ D F h0 u v Eq (f_X11_cameByLinks h t0 v1 v2) (f_X11_cameByLinks yh yt0 v1 v2) := by
  unfold f_X11_cameByLinks
  refine nt_dt (n_X11_mustBeKiosk Rh _) (fun h8 yh8 x9 Rh8 => ?_)
  refine nt_rcv Rh8 (nt_vS At0) (fun a10 ya10 Aa10 => ?_)
  refine nt_dt (n_X11_mustBePiece Rh8 Aa10 _) (fun h11 yh11 x12 Rh11 => ?_)
  refine nt_gP Rh11 (nt_vS At0) (fun x13 yx13 Vx13 => ?_)
  refine nt_rcv Rh11 Vx13 (fun a14 ya14 Aa14 => ?_)
  refine nt_doV (n_X7_pieceAt Rh11 Aa14 _) (fun h15 yh15 x16 yx16 Rh15 Vx16 => ?_)
  refine nt_gI Rh15 Vx16 (fun x17 => ?_)
  refine nt_doE (n_X11_bit Rh15 _) (fun h18 yh18 x19 Rh18 => ?_)
  refine nt_doE (n_X11_hasBit Rh18 _ _) (fun h20 yh20 x21 Rh20 => ?_)
  refine nt_ite ?_ ?_
  · refine nt_gI Rh20 Vx16 (fun x22 => ?_)
    exact (n_X11_cameByLinks_b49 _ Rh20 At0 _ _ _)
  · refine nt_gI Rh20 Vx16 (fun x23 => ?_)
    exact nt_ret Rh20 rfl
theorem n_X11_isRead {ρ : Nat → Nat} {D F : Nat → Prop} {h0 : nk_H} {u v : Nat}   {h yh : nk_H} (Rh : nt_R ρ D F h0 u v yh h) {t0 yt0 : Nat} (At0 : nt_A ρ D t0 yt0) (v1 : Int32) (v2 : Int32) : nt_F ρ D F h0 u v Eq (f_X11_isRead h t0 v1 v2) (f_X11_isRead yh yt0 v1 v2) := by
  unfold f_X11_isRead
  refine nt_dt (n_X11_mustBeKiosk Rh _) (fun h1 yh1 x2 Rh1 => ?_)
  refine nt_rcv Rh1 (nt_vS At0) (fun a3 ya3 Aa3 => ?_)
  refine nt_dt (n_X11_mustBePiece Rh1 Aa3 _) (fun h4 yh4 x5 Rh4 => ?_)
  refine nt_gP Rh4 (nt_vS At0) (fun x6 yx6 Vx6 => ?_)
  refine nt_rcv Rh4 Vx6 (fun a7 ya7 Aa7 => ?_)
  refine nt_doV (n_X7_pieceAt Rh4 Aa7 _) (fun h8 yh8 x9 yx9 Rh8 Vx9 => ?_)
  refine nt_gI Rh8 Vx9 (fun x10 => ?_)
  refine nt_doE (n_X11_hasBit Rh8 _ _) (fun h11 yh11 x12 Rh11 => ?_)
  exact nt_zr Rh11 _ rfl
theorem n_X11_mail {ρ : Nat → Nat} {D F : Nat → Prop} {h0 : nk_H} {u v : Nat}   {h yh : nk_H} (Rh : nt_R ρ D F h0 u v yh h) {t0 yt0 : Nat} (At0 : nt_A ρ D t0 yt0) (v1 : Int32) : nt_F ρ D F h0 u v Eq (f_X11_mail h t0 v1) (f_X11_mail yh yt0 v1) := by
  unfold f_X11_mail
  refine nt_dt (n_X11_mustBeKiosk Rh _) (fun h1 yh1 x2 Rh1 => ?_)
  refine nt_gP Rh1 (nt_vS At0) (fun x3 yx3 Vx3 => ?_)
  refine nt_rcv Rh1 Vx3 (fun a4 ya4 Aa4 => ?_)
  refine nt_doE (n_X7_unread Rh1 Aa4 _) (fun h5 yh5 x6 Rh5 => ?_)
  exact nt_ret Rh5 rfl
theorem n_X11_source_c32 {ρ : Nat → Nat} {D F : Nat → Prop} {h0 : nk_H} {u v : Nat}   {h yh : nk_H} (Rh : nt_R ρ D F h0 u v yh h) (s0 : Int32) : nt_F ρ D F h0 u v Eq (f_X11_source_c32 h s0) (f_X11_source_c32 yh s0) := by
  unfold f_X11_source_c32
  exact nt_ret Rh rfl
theorem n_X11_source {ρ : Nat → Nat} {D F : Nat → Prop} {h0 : nk_H} {u v : Nat}   {h yh : nk_H} (Rh : nt_R ρ D F h0 u v yh h) {t0 yt0 : Nat} (At0 : nt_A ρ D t0 yt0) (v1 : Int32) : nt_F ρ D F h0 u v Eq (f_X11_source h t0 v1) (f_X11_source yh yt0 v1) := by
  unfold f_X11_source
  refine nt_rcv Rh (nt_vS At0) (fun a1 ya1 Aa1 => ?_)
  refine nt_dt (n_X11_mustBePower Rh Aa1 _) (fun h2 yh2 x3 Rh2 => ?_)
  refine nt_gP Rh2 (nt_vS At0) (fun x4 yx4 Vx4 => ?_)
  refine nt_rcv Rh2 Vx4 (fun a5 ya5 Aa5 => ?_)
  refine nt_doV (n_Jx4a65c_get_915e3 Rh2 Aa5 _) (fun h6 yh6 x7 yx7 Rh6 Vx7 => ?_)
  refine nt_cc Rh6 Vx7 ?_
  refine nt_gP Rh6 Vx7 (fun x9 yx9 Vx9 => ?_)
  refine nt_iteP (nt_eq Rh6 Vx9 nt_vn) ?_ ?_
  · exact (n_X11_source_c32 Rh6 _)
  · refine nt_gI Rh6 Vx9 (fun x10 => ?_)
    exact (n_X11_source_c32 Rh6 _)
theorem n_X11_holder {ρ : Nat → Nat} {D F : Nat → Prop} {h0 : nk_H} {u v : Nat}   {h yh : nk_H} (Rh : nt_R ρ D F h0 u v yh h) {t0 yt0 : Nat} (At0 : nt_A ρ D t0 yt0) (v1 : Int32) : nt_F ρ D F h0 u v Eq (f_X11_holder h t0 v1) (f_X11_holder yh yt0 v1) := by
  unfold f_X11_holder
  refine nt_rcv Rh (nt_vS At0) (fun a1 ya1 Aa1 => ?_)
  refine nt_dt (n_X11_mustBePower Rh Aa1 _) (fun h2 yh2 x3 Rh2 => ?_)
  refine nt_gP Rh2 (nt_vS At0) (fun x4 yx4 Vx4 => ?_)
  refine nt_rcv Rh2 Vx4 (fun a5 ya5 Aa5 => ?_)
  refine nt_doV (n_Jx4a65c_get_915e3 Rh2 Aa5 _) (fun h6 yh6 x7 yx7 Rh6 Vx7 => ?_)
  refine nt_cc Rh6 Vx7 ?_
  refine nt_gI Rh6 Vx7 (fun x9 => ?_)
  exact nt_ret Rh6 rfl
theorem n_X11_isGood {ρ : Nat → Nat} {D F : Nat → Prop} {h0 : nk_H} {u v : Nat}   {h yh : nk_H} (Rh : nt_R ρ D F h0 u v yh h) {t0 yt0 : Nat} (At0 : nt_A ρ D t0 yt0) (v1 : Int32) (v2 : Int32) : nt_F ρ D F h0 u v Eq (f_X11_isGood h t0 v1 v2) (f_X11_isGood yh yt0 v1 v2) := by
  unfold f_X11_isGood
  refine nt_dt (n_X11_mustBeKiosk Rh _) (fun h1 yh1 x2 Rh1 => ?_)
  refine nt_rcv Rh1 (nt_vS At0) (fun a3 ya3 Aa3 => ?_)
  refine nt_dt (n_X11_mustBePower Rh1 Aa3 _) (fun h4 yh4 x5 Rh4 => ?_)
  refine nt_gP Rh4 (nt_vS At0) (fun x6 yx6 Vx6 => ?_)
  refine nt_rcv Rh4 Vx6 (fun a7 ya7 Aa7 => ?_)
  refine nt_doV (n_Jx4a65c_get_915e3 Rh4 Aa7 _) (fun h8 yh8 x9 yx9 Rh8 Vx9 => ?_)
  refine nt_cc Rh8 Vx9 ?_
  refine nt_rcv Rh8 (nt_vS At0) (fun a11 ya11 Aa11 => ?_)
  refine nt_doE (n_X11_isGoodAt Rh8 Aa11 _ Vx9) (fun h12 yh12 x13 Rh12 => ?_)
  exact nt_zr Rh12 _ rfl
theorem n_X11_done {ρ : Nat → Nat} {D F : Nat → Prop} {h0 : nk_H} {u v : Nat}   {h yh : nk_H} (Rh : nt_R ρ D F h0 u v yh h) {t0 yt0 : Nat} (At0 : nt_A ρ D t0 yt0) (v1 : Int32) (v2 : Int32) : nt_F ρ D F h0 u v Eq (f_X11_done h t0 v1 v2) (f_X11_done yh yt0 v1 v2) := by
  unfold f_X11_done
  refine nt_dt (n_X11_mustBeKiosk Rh _) (fun h1 yh1 x2 Rh1 => ?_)
  refine nt_rcv Rh1 (nt_vS At0) (fun a3 ya3 Aa3 => ?_)
  refine nt_dt (n_X11_mustBePower Rh1 Aa3 _) (fun h4 yh4 x5 Rh4 => ?_)
  refine nt_gP Rh4 (nt_vS At0) (fun x6 yx6 Vx6 => ?_)
  refine nt_rcv Rh4 Vx6 (fun a7 ya7 Aa7 => ?_)
  refine nt_doE (n_X7_lookAtRead Rh4 Aa7 _) (fun h8 yh8 x9 Rh8 => ?_)
  refine nt_gP Rh8 (nt_vS At0) (fun x10 yx10 Vx10 => ?_)
  refine nt_gP Rh8 (nt_vS At0) (fun x11 yx11 Vx11 => ?_)
  refine nt_rcv Rh8 Vx11 (fun a12 ya12 Aa12 => ?_)
  refine nt_doV (n_Jx4a65c_get_915e3 Rh8 Aa12 _) (fun h13 yh13 x14 yx14 Rh13 Vx14 => ?_)
  refine nt_cc Rh13 Vx14 ?_
  refine nt_rcv Rh13 Vx10 (fun a16 ya16 Aa16 => ?_)
  refine nt_doE (n_X7_doneWith Rh13 Aa16 Vx14) (fun h17 yh17 x18 Rh17 => ?_)
  exact nt_ret Rh17 rfl
theorem n_X11_against {ρ : Nat → Nat} {D F : Nat → Prop} {h0 : nk_H} {u v : Nat}   {h yh : nk_H} (Rh : nt_R ρ D F h0 u v yh h) {t0 yt0 : Nat} (At0 : nt_A ρ D t0 yt0) (v1 : Int32) (v2 : Int32) (v3 : Int32) (v4 : Int32) : nt_F ρ D F h0 u v Eq (f_X11_against h t0 v1 v2 v3 v4) (f_X11_against yh yt0 v1 v2 v3 v4) := by
  unfold f_X11_against
  refine nt_dt (n_X11_mustBeKiosk Rh _) (fun h1 yh1 x2 Rh1 => ?_)
  refine nt_dt (n_X11_mustBePerson Rh1 _) (fun h3 yh3 x4 Rh3 => ?_)
  refine nt_rcv Rh3 (nt_vS At0) (fun a5 ya5 Aa5 => ?_)
  refine nt_dt (n_X11_mustBePower Rh3 Aa5 _) (fun h6 yh6 x7 Rh6 => ?_)
  refine nt_dt (n_X11_mustBeWithin Rh6 _ _ _) (fun h8 yh8 x9 Rh8 => ?_)
  refine nt_gP Rh8 (nt_vS At0) (fun x10 yx10 Vx10 => ?_)
  refine nt_rcv Rh8 Vx10 (fun a11 ya11 Aa11 => ?_)
  refine nt_doE (n_X7_lookAtRead Rh8 Aa11 _) (fun h12 yh12 x13 Rh12 => ?_)
  refine nt_gP Rh12 (nt_vS At0) (fun x14 yx14 Vx14 => ?_)
  refine nt_gP Rh12 (nt_vS At0) (fun x15 yx15 Vx15 => ?_)
  refine nt_rcv Rh12 Vx15 (fun a16 ya16 Aa16 => ?_)
  refine nt_doV (n_Jx4a65c_get_915e3 Rh12 Aa16 _) (fun h17 yh17 x18 yx18 Rh17 Vx18 => ?_)
  refine nt_cc Rh17 Vx18 ?_
  refine nt_rcv Rh17 (nt_vS At0) (fun a20 ya20 Aa20 => ?_)
  refine nt_doV (n_X11_deedNow Rh17 Aa20 _ _ _) (fun h21 yh21 x22 yx22 Rh21 Vx22 => ?_)
  refine nt_rcv Rh21 Vx14 (fun a23 ya23 Aa23 => ?_)
  refine nt_doE (n_X7_reasonAgainst Rh21 Aa23 Vx18 Vx22) (fun h24 yh24 x25 Rh24 => ?_)
  exact nt_ret Rh24 rfl
theorem n_X11_choices_c78 {ρ : Nat → Nat} {D F : Nat → Prop} {h0 : nk_H} {u v : Nat} {r39 r39' : nk_H → Nat → Option Nat → Int32 → Int32 → Option (nk_H × (Int32 ⊕ String))} (hr39 : ∀ (g h : nk_H) (a1 b1 : Nat) (p2 q2 : Option Nat) (i3 : Int32) (i4 : Int32), nt_R ρ D F h0 u v h g → nt_A ρ D a1 b1 → nt_V ρ D p2 q2 → nt_F ρ D F h0 u v Eq (r39 g a1 p2 i3 i4) (r39' h b1 q2 i3 i4)) {h yh : nk_H} (Rh : nt_R ρ D F h0 u v yh h) {t0 yt0 : Nat} (At0 : nt_A ρ D t0 yt0) {v4 yv4 : Option Nat} (Vv4 : nt_V ρ D v4 yv4) (v5 : Int32) (v6 : Int32) : nt_F ρ D F h0 u v Eq (f_X11_choices_c78 r39 h t0 v4 v5 v6) (f_X11_choices_c78 r39' yh yt0 yv4 v5 v6) := by
  unfold f_X11_choices_c78
  exact (hr39 _ _ _ _ _ _ _ _ Rh At0 Vv4)
theorem n_X11_choices_c39 {ρ : Nat → Nat} {D F : Nat → Prop} {h0 : nk_H} {u v : Nat} {r39 r39' : nk_H → Nat → Option Nat → Int32 → Int32 → Option (nk_H × (Int32 ⊕ String))} (hr39 : ∀ (g h : nk_H) (a1 b1 : Nat) (p2 q2 : Option Nat) (i3 : Int32) (i4 : Int32), nt_R ρ D F h0 u v h g → nt_A ρ D a1 b1 → nt_V ρ D p2 q2 → nt_F ρ D F h0 u v Eq (r39 g a1 p2 i3 i4) (r39' h b1 q2 i3 i4)) {h yh : nk_H} (Rh : nt_R ρ D F h0 u v yh h) {t0 yt0 : Nat} (At0 : nt_A ρ D t0 yt0) {v4 yv4 : Option Nat} (Vv4 : nt_V ρ D v4 yv4) (v5 : Int32) (v6 : Int32) : nt_F ρ D F h0 u v Eq (f_X11_choices_c39 r39 h t0 v4 v5 v6) (f_X11_choices_c39 r39' yh yt0 yv4 v5 v6) := by
  unfold f_X11_choices_c39
  refine nt_gP Rh (nt_vS At0) (fun x1 yx1 Vx1 => ?_)
  refine nt_rcv Rh Vx1 (fun a2 ya2 Aa2 => ?_)
  refine nt_doE (n_Jx4a65c_size_8abf5 Rh Aa2) (fun h3 yh3 x4 Rh3 => ?_)
  refine nt_ite ?_ ?_
  · exact nt_ret Rh3 rfl
  · refine nt_gP Rh3 (nt_vS At0) (fun x5 yx5 Vx5 => ?_)
    refine nt_gP Rh3 (nt_vS At0) (fun x6 yx6 Vx6 => ?_)
    refine nt_rcv Rh3 Vx6 (fun a7 ya7 Aa7 => ?_)
    refine nt_doV (n_Jx4a65c_get_915e3 Rh3 Aa7 _) (fun h8 yh8 x9 yx9 Rh8 Vx9 => ?_)
    refine nt_cc Rh8 Vx9 ?_
    refine nt_rcv Rh8 Vx5 (fun a11 ya11 Aa11 => ?_)
    refine nt_doE (n_X7_reasonAgainst Rh8 Aa11 Vx9 Vv4) (fun h12 yh12 x13 Rh12 => ?_)
    refine nt_ite ?_ ?_
    · exact (n_X11_choices_c78 hr39 Rh12 At0 Vv4 _ _)
    · exact (n_X11_choices_c78 hr39 Rh12 At0 Vv4 _ _)
theorem n_X11_choices_b39 {ρ : Nat → Nat} {D F : Nat → Prop} {h0 : nk_H} {u v : Nat}   : ∀ (n : Nat) {g h : nk_H} (R : nt_R ρ D F h0 u v h g) {a1 b1 : Nat} (A1 : nt_A ρ D a1 b1) {p2 q2 : Option Nat} (V2 : nt_V ρ D p2 q2) (i3 : Int32) (i4 : Int32), nt_F ρ D F h0 u v Eq (f_X11_choices_b39 n g a1 p2 i3 i4) (f_X11_choices_b39 n h b1 q2 i3 i4)
  | 0, _, _, _, _, _, _, _, _, _, _, _ => nt_none
  | n + 1, _, _, R, _, _, A1, _, _, V2, i3, i4 => n_X11_choices_c39 (fun g h a1 b1 p2 q2 i3 i4 R A1 V2 => n_X11_choices_b39 n R A1 V2 i3 i4) R A1 V2 i3 i4
theorem n_X11_choices {ρ : Nat → Nat} {D F : Nat → Prop} {h0 : nk_H} {u v : Nat}   {h yh : nk_H} (Rh : nt_R ρ D F h0 u v yh h) {t0 yt0 : Nat} (At0 : nt_A ρ D t0 yt0) (v1 : Int32) (v2 : Int32) (v3 : Int32) : nt_F ρ D F h0 u v Eq (f_X11_choices h t0 v1 v2 v3) (f_X11_choices yh yt0 v1 v2 v3) := by
  unfold f_X11_choices
  refine nt_dt (n_X11_mustBeKiosk Rh _) (fun h14 yh14 x15 Rh14 => ?_)
  refine nt_dt (n_X11_mustBePerson Rh14 _) (fun h16 yh16 x17 Rh16 => ?_)
  refine nt_dt (n_X11_mustBeWithin Rh16 _ _ _) (fun h18 yh18 x19 Rh18 => ?_)
  refine nt_rcv Rh18 (nt_vS At0) (fun a20 ya20 Aa20 => ?_)
  refine nt_doV (n_X11_deedNow Rh18 Aa20 _ _ _) (fun h21 yh21 x22 yx22 Rh21 Vx22 => ?_)
  refine nt_gP Rh21 (nt_vS At0) (fun x23 yx23 Vx23 => ?_)
  refine nt_rcv Rh21 Vx23 (fun a24 ya24 Aa24 => ?_)
  refine nt_doE (n_X7_lookAtRead Rh21 Aa24 _) (fun h25 yh25 x26 Rh25 => ?_)
  exact (n_X11_choices_b39 _ Rh25 At0 Vx22 _ _)
theorem n_X11_stands {ρ : Nat → Nat} {D F : Nat → Prop} {h0 : nk_H} {u v : Nat}   {h yh : nk_H} (Rh : nt_R ρ D F h0 u v yh h) {t0 yt0 : Nat} (At0 : nt_A ρ D t0 yt0) (v1 : Int32) (v2 : Int32) : nt_F ρ D F h0 u v Eq (f_X11_stands h t0 v1 v2) (f_X11_stands yh yt0 v1 v2) := by
  unfold f_X11_stands
  refine nt_rcv Rh (nt_vS At0) (fun a1 ya1 Aa1 => ?_)
  refine nt_dt (n_X11_mustBeRecord Rh Aa1 _ _) (fun h2 yh2 x3 Rh2 => ?_)
  refine nt_gP Rh2 (nt_vS At0) (fun x4 yx4 Vx4 => ?_)
  refine nt_aP Rh2 Vx4 (fun x5 yx5 Vx5 => ?_)
  refine nt_rcv Rh2 Vx5 (fun a6 ya6 Aa6 => ?_)
  refine nt_doV (n_X1_actOf Rh2 Aa6 _) (fun h7 yh7 x8 yx8 Rh7 Vx8 => ?_)
  refine nt_gI Rh7 Vx8 (fun x9 => ?_)
  exact nt_zr Rh7 _ rfl
theorem n_X11_fault {ρ : Nat → Nat} {D F : Nat → Prop} {h0 : nk_H} {u v : Nat}   {h yh : nk_H} (Rh : nt_R ρ D F h0 u v yh h) {t0 yt0 : Nat} (At0 : nt_A ρ D t0 yt0) (v1 : Int32) (v2 : Int32) : nt_F ρ D F h0 u v Eq (f_X11_fault h t0 v1 v2) (f_X11_fault yh yt0 v1 v2) := by
  unfold f_X11_fault
  refine nt_rcv Rh (nt_vS At0) (fun a1 ya1 Aa1 => ?_)
  refine nt_dt (n_X11_mustBeRecord Rh Aa1 _ _) (fun h2 yh2 x3 Rh2 => ?_)
  refine nt_gP Rh2 (nt_vS At0) (fun x4 yx4 Vx4 => ?_)
  refine nt_aP Rh2 Vx4 (fun x5 yx5 Vx5 => ?_)
  refine nt_rcv Rh2 Vx5 (fun a6 ya6 Aa6 => ?_)
  refine nt_doV (n_X1_actOf Rh2 Aa6 _) (fun h7 yh7 x8 yx8 Rh7 Vx8 => ?_)
  refine nt_rcv Rh7 (nt_vS At0) (fun a9 ya9 Aa9 => ?_)
  refine nt_doE (n_X11_reasonByMail Rh7 Aa9 Vx8) (fun h10 yh10 x11 Rh10 => ?_)
  exact nt_ret Rh10 rfl
theorem n_X11_standing_c4 {ρ : Nat → Nat} {D F : Nat → Prop} {h0 : nk_H} {u v : Nat} {r4 r4' : nk_H → Nat → Int32 → Int32 → Option (nk_H × Int32)} (hr4 : ∀ (g h : nk_H) (a1 b1 : Nat) (i2 : Int32) (i3 : Int32), nt_R ρ D F h0 u v h g → nt_A ρ D a1 b1 → nt_F ρ D F h0 u v Eq (r4 g a1 i2 i3) (r4' h b1 i2 i3)) {h yh : nk_H} (Rh : nt_R ρ D F h0 u v yh h) {t0 yt0 : Nat} (At0 : nt_A ρ D t0 yt0) (v1 : Int32) (v2 : Int32) : nt_F ρ D F h0 u v Eq (f_X11_standing_c4 r4 h t0 v1 v2) (f_X11_standing_c4 r4' yh yt0 v1 v2) := by
  unfold f_X11_standing_c4
  refine nt_ite ?_ ?_
  · exact nt_ret Rh rfl
  · refine nt_gP Rh (nt_vS At0) (fun x1 yx1 Vx1 => ?_)
    refine nt_aP Rh Vx1 (fun x2 yx2 Vx2 => ?_)
    refine nt_rcv Rh Vx2 (fun a3 ya3 Aa3 => ?_)
    refine nt_doE (n_X1_countStanding Rh Aa3) (fun h4 yh4 x5 Rh4 => ?_)
    exact (hr4 _ _ _ _ _ _ Rh4 At0)
theorem n_X11_standing_b4 {ρ : Nat → Nat} {D F : Nat → Prop} {h0 : nk_H} {u v : Nat}   : ∀ (n : Nat) {g h : nk_H} (R : nt_R ρ D F h0 u v h g) {a1 b1 : Nat} (A1 : nt_A ρ D a1 b1) (i2 : Int32) (i3 : Int32), nt_F ρ D F h0 u v Eq (f_X11_standing_b4 n g a1 i2 i3) (f_X11_standing_b4 n h b1 i2 i3)
  | 0, _, _, _, _, _, _, _, _ => nt_none
  | n + 1, _, _, R, _, _, A1, i2, i3 => n_X11_standing_c4 (fun g h a1 b1 i2 i3 R A1 => n_X11_standing_b4 n R A1 i2 i3) R A1 i2 i3
theorem n_X11_standing {ρ : Nat → Nat} {D F : Nat → Prop} {h0 : nk_H} {u v : Nat}   {h yh : nk_H} (Rh : nt_R ρ D F h0 u v yh h) {t0 yt0 : Nat} (At0 : nt_A ρ D t0 yt0) : nt_F ρ D F h0 u v Eq (f_X11_standing h t0) (f_X11_standing yh yt0) := by
  unfold f_X11_standing
  exact (n_X11_standing_b4 _ Rh At0 _ _)
theorem n_X11_pieceOf {ρ : Nat → Nat} {D F : Nat → Prop} {h0 : nk_H} {u v : Nat}   {h yh : nk_H} (Rh : nt_R ρ D F h0 u v yh h) {t0 yt0 : Nat} (At0 : nt_A ρ D t0 yt0) (v1 : Int32) (v2 : Int32) : nt_F ρ D F h0 u v Eq (f_X11_pieceOf h t0 v1 v2) (f_X11_pieceOf yh yt0 v1 v2) := by
  unfold f_X11_pieceOf
  refine nt_rcv Rh (nt_vS At0) (fun a1 ya1 Aa1 => ?_)
  refine nt_dt (n_X11_mustBeRecord Rh Aa1 _ _) (fun h2 yh2 x3 Rh2 => ?_)
  refine nt_gP Rh2 (nt_vS At0) (fun x4 yx4 Vx4 => ?_)
  refine nt_aP Rh2 Vx4 (fun x5 yx5 Vx5 => ?_)
  refine nt_rcv Rh2 Vx5 (fun a6 ya6 Aa6 => ?_)
  refine nt_doV (n_X1_actOf Rh2 Aa6 _) (fun h7 yh7 x8 yx8 Rh7 Vx8 => ?_)
  refine nt_gI Rh7 Vx8 (fun x9 => ?_)
  exact nt_ret Rh7 rfl
theorem n_X11_part {ρ : Nat → Nat} {D F : Nat → Prop} {h0 : nk_H} {u v : Nat}   {h yh : nk_H} (Rh : nt_R ρ D F h0 u v yh h) {t0 yt0 : Nat} (At0 : nt_A ρ D t0 yt0) (v1 : Int32) (v2 : Int32) (v3 : Int32) : nt_F ρ D F h0 u v Eq (f_X11_part h t0 v1 v2 v3) (f_X11_part yh yt0 v1 v2 v3) := by
  unfold f_X11_part
  refine nt_rcv Rh (nt_vS At0) (fun a1 ya1 Aa1 => ?_)
  refine nt_dt (n_X11_mustBeRecord Rh Aa1 _ _) (fun h2 yh2 x3 Rh2 => ?_)
  refine nt_dt (n_X11_mustBePart Rh2 _) (fun h4 yh4 x5 Rh4 => ?_)
  refine nt_gP Rh4 (nt_vS At0) (fun x6 yx6 Vx6 => ?_)
  refine nt_aP Rh4 Vx6 (fun x7 yx7 Vx7 => ?_)
  refine nt_rcv Rh4 Vx7 (fun a8 ya8 Aa8 => ?_)
  refine nt_doV (n_X1_actOf Rh4 Aa8 _) (fun h9 yh9 x10 yx10 Rh9 Vx10 => ?_)
  refine nt_gP Rh9 Vx10 (fun x11 yx11 Vx11 => ?_)
  refine nt_aI Rh9 Vx11 (fun x12 => ?_)
  exact nt_ret Rh9 rfl
theorem n_X11_seal {ρ : Nat → Nat} {D F : Nat → Prop} {h0 : nk_H} {u v : Nat}   {h yh : nk_H} (Rh : nt_R ρ D F h0 u v yh h) {t0 yt0 : Nat} (At0 : nt_A ρ D t0 yt0) (v1 : Int32) (v2 : Int32) : nt_F ρ D F h0 u v Eq (f_X11_seal h t0 v1 v2) (f_X11_seal yh yt0 v1 v2) := by
  unfold f_X11_seal
  refine nt_rcv Rh (nt_vS At0) (fun a1 ya1 Aa1 => ?_)
  refine nt_dt (n_X11_mustBeRecord Rh Aa1 _ _) (fun h2 yh2 x3 Rh2 => ?_)
  refine nt_gP Rh2 (nt_vS At0) (fun x4 yx4 Vx4 => ?_)
  refine nt_aP Rh2 Vx4 (fun x5 yx5 Vx5 => ?_)
  refine nt_rcv Rh2 Vx5 (fun a6 ya6 Aa6 => ?_)
  refine nt_doV (n_X1_actOf Rh2 Aa6 _) (fun h7 yh7 x8 yx8 Rh7 Vx8 => ?_)
  refine nt_gI Rh7 Vx8 (fun x9 => ?_)
  exact nt_ret Rh7 rfl
theorem n_X11_broken {ρ : Nat → Nat} {D F : Nat → Prop} {h0 : nk_H} {u v : Nat}   {h yh : nk_H} (Rh : nt_R ρ D F h0 u v yh h) {t0 yt0 : Nat} (At0 : nt_A ρ D t0 yt0) (v1 : Int32) : nt_F ρ D F h0 u v Eq (f_X11_broken h t0 v1) (f_X11_broken yh yt0 v1) := by
  unfold f_X11_broken
  refine nt_dt (n_X11_mustBeKiosk Rh _) (fun h1 yh1 x2 Rh1 => ?_)
  refine nt_gP Rh1 (nt_vS At0) (fun x3 yx3 Vx3 => ?_)
  refine nt_aP Rh1 Vx3 (fun x4 yx4 Vx4 => ?_)
  refine nt_rcv Rh1 Vx4 (fun a5 ya5 Aa5 => ?_)
  refine nt_doE (n_X1_firstBroken Rh1 Aa5) (fun h6 yh6 x7 Rh6 => ?_)
  exact nt_ret Rh6 rfl
theorem n_X11_size {ρ : Nat → Nat} {D F : Nat → Prop} {h0 : nk_H} {u v : Nat}   {h yh : nk_H} (Rh : nt_R ρ D F h0 u v yh h) {t0 yt0 : Nat} (At0 : nt_A ρ D t0 yt0) (v1 : Int32) : nt_F ρ D F h0 u v Eq (f_X11_size h t0 v1) (f_X11_size yh yt0 v1) := by
  unfold f_X11_size
  refine nt_rcv Rh (nt_vS At0) (fun a1 ya1 Aa1 => ?_)
  refine nt_dt (n_X11_mustBeCopy Rh Aa1 _) (fun h2 yh2 x3 Rh2 => ?_)
  refine nt_gP Rh2 (nt_vS At0) (fun x4 yx4 Vx4 => ?_)
  refine nt_rcv Rh2 Vx4 (fun a5 ya5 Aa5 => ?_)
  refine nt_doV (n_Jx4a65c_get_915e3 Rh2 Aa5 _) (fun h6 yh6 x7 yx7 Rh6 Vx7 => ?_)
  refine nt_cc Rh6 Vx7 ?_
  refine nt_gI Rh6 Vx7 (fun x9 => ?_)
  exact nt_ret Rh6 rfl
theorem n_X11_copied_c45 {ρ : Nat → Nat} {D F : Nat → Prop} {h0 : nk_H} {u v : Nat}   {h yh : nk_H} (Rh : nt_R ρ D F h0 u v yh h) (s0 : Int32) : nt_F ρ D F h0 u v Eq (f_X11_copied_c45 h s0) (f_X11_copied_c45 yh s0) := by
  unfold f_X11_copied_c45
  exact nt_ret Rh rfl
theorem n_X11_copied {ρ : Nat → Nat} {D F : Nat → Prop} {h0 : nk_H} {u v : Nat}   {h yh : nk_H} (Rh : nt_R ρ D F h0 u v yh h) {t0 yt0 : Nat} (At0 : nt_A ρ D t0 yt0) (v1 : Int32) (v2 : Int32) (v3 : Int32) : nt_F ρ D F h0 u v Eq (f_X11_copied h t0 v1 v2 v3) (f_X11_copied yh yt0 v1 v2 v3) := by
  unfold f_X11_copied
  refine nt_rcv Rh (nt_vS At0) (fun a1 ya1 Aa1 => ?_)
  refine nt_dt (n_X11_mustBePlace Rh Aa1 _ _) (fun h2 yh2 x3 Rh2 => ?_)
  refine nt_dt (n_X11_mustBePart Rh2 _) (fun h4 yh4 x5 Rh4 => ?_)
  refine nt_gP Rh4 (nt_vS At0) (fun x6 yx6 Vx6 => ?_)
  refine nt_rcv Rh4 Vx6 (fun a7 ya7 Aa7 => ?_)
  refine nt_doV (n_Jx4a65c_get_915e3 Rh4 Aa7 _) (fun h8 yh8 x9 yx9 Rh8 Vx9 => ?_)
  refine nt_cc Rh8 Vx9 ?_
  refine nt_rcv Rh8 Vx9 (fun a11 ya11 Aa11 => ?_)
  refine nt_doE (n_X2_leavesOut Rh8 Aa11 _) (fun h12 yh12 x13 Rh12 => ?_)
  refine nt_ite ?_ ?_
  · refine nt_gP Rh12 Vx9 (fun x14 yx14 Vx14 => ?_)
    refine nt_aP Rh12 Vx14 (fun x15 yx15 Vx15 => ?_)
    refine nt_aI Rh12 Vx15 (fun x16 => ?_)
    exact (n_X11_copied_c45 Rh12 _)
  · exact (n_X11_copied_c45 Rh12 _)
theorem n_X11_brokenCopy {ρ : Nat → Nat} {D F : Nat → Prop} {h0 : nk_H} {u v : Nat}   {h yh : nk_H} (Rh : nt_R ρ D F h0 u v yh h) {t0 yt0 : Nat} (At0 : nt_A ρ D t0 yt0) (v1 : Int32) : nt_F ρ D F h0 u v Eq (f_X11_brokenCopy h t0 v1) (f_X11_brokenCopy yh yt0 v1) := by
  unfold f_X11_brokenCopy
  refine nt_rcv Rh (nt_vS At0) (fun a1 ya1 Aa1 => ?_)
  refine nt_dt (n_X11_mustBeCopy Rh Aa1 _) (fun h2 yh2 x3 Rh2 => ?_)
  refine nt_gP Rh2 (nt_vS At0) (fun x4 yx4 Vx4 => ?_)
  refine nt_rcv Rh2 Vx4 (fun a5 ya5 Aa5 => ?_)
  refine nt_doV (n_Jx4a65c_get_915e3 Rh2 Aa5 _) (fun h6 yh6 x7 yx7 Rh6 Vx7 => ?_)
  refine nt_cc Rh6 Vx7 ?_
  refine nt_rcv Rh6 Vx7 (fun a9 ya9 Aa9 => ?_)
  refine nt_doE (n_X2_firstBroken Rh6 Aa9) (fun h10 yh10 x11 Rh10 => ?_)
  exact nt_ret Rh10 rfl
theorem n_X11_isTrue {ρ : Nat → Nat} {D F : Nat → Prop} {h0 : nk_H} {u v : Nat}   {h yh : nk_H} (Rh : nt_R ρ D F h0 u v yh h) {t0 yt0 : Nat} (At0 : nt_A ρ D t0 yt0) (v1 : Int32) : nt_F ρ D F h0 u v Eq (f_X11_isTrue h t0 v1) (f_X11_isTrue yh yt0 v1) := by
  unfold f_X11_isTrue
  refine nt_rcv Rh (nt_vS At0) (fun a1 ya1 Aa1 => ?_)
  refine nt_dt (n_X11_mustBeCopy Rh Aa1 _) (fun h2 yh2 x3 Rh2 => ?_)
  refine nt_gP Rh2 (nt_vS At0) (fun x4 yx4 Vx4 => ?_)
  refine nt_rcv Rh2 Vx4 (fun a5 ya5 Aa5 => ?_)
  refine nt_doV (n_Jx4a65c_get_915e3 Rh2 Aa5 _) (fun h6 yh6 x7 yx7 Rh6 Vx7 => ?_)
  refine nt_cc Rh6 Vx7 ?_
  refine nt_gP Rh6 (nt_vS At0) (fun x9 yx9 Vx9 => ?_)
  refine nt_gI Rh6 Vx7 (fun x10 => ?_)
  refine nt_aP Rh6 Vx9 (fun x11 yx11 Vx11 => ?_)
  refine nt_rcv Rh6 Vx7 (fun a12 ya12 Aa12 => ?_)
  refine nt_doE (n_X2_tellsAs Rh6 Aa12 Vx11) (fun h13 yh13 x14 Rh13 => ?_)
  exact nt_zr Rh13 _ rfl
