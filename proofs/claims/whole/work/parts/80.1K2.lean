section LD
variable {G : nk_G} {r : nk_H → Option Nat → Option Nat → Option Nat → Int32 → Option (nk_H × Int32)} {h : nk_H} {X : Nat} {v4 x1 x2 x3 x4 x5 : Int32}
theorem lp_join (H : WS h X) (e1 : nk_sx G (v4 + 1) = some x1) (e2 : nk_sx G (v4 + 2) = some x2) : LPq h X r v4 (f_L_law_c220 G r h (some X) (some (X + 23)) (some (X + 56)) v4) := by
  obtain ⟨n, w, a, c, hr, pa, cp, W⟩ := H
  unfold f_L_law_c220 f_L_law_c285 f_L_law_c2879
  simp only [e1, e2, Option.bind_some]
  exact kw_I (FM := fun h1 a1 => f_X12_join h1 a1 x1 x2) (cont := fun h11 => r h11 (some X) (some (X + 23)) (some (X + 56)) (v4 + 6)) (bad := fun h11 => nk_zr 0 (h11, 0)) (bi_join W x1 x2)
theorem lp_cut (H : WS h X) (e1 : nk_sx G (v4 + 1) = some x1) (e2 : nk_sx G (v4 + 2) = some x2) : LPq h X r v4 (f_L_law_c288 G r h (some X) (some (X + 23)) (some (X + 56)) v4) := by
  obtain ⟨n, w, a, c, hr, pa, cp, W⟩ := H
  unfold f_L_law_c288 f_L_law_c353 f_L_law_c2879
  simp only [e1, e2, Option.bind_some]
  exact kw_I (FM := fun h1 a1 => f_X12_cut h1 a1 x1 x2) (cont := fun h11 => r h11 (some X) (some (X + 23)) (some (X + 56)) (v4 + 6)) (bad := fun h11 => nk_zr 0 (h11, 0)) (bi_cut W x1 x2)
theorem lp_pass (H : WS h X) (e1 : nk_sx G (v4 + 1) = some x1) : LPq h X r v4 (f_L_law_c356 G r h (some X) (some (X + 23)) (some (X + 56)) v4) := by
  obtain ⟨n, w, a, c, hr, pa, cp, W⟩ := H
  unfold f_L_law_c356 f_L_law_c409 f_L_law_c2879
  simp only [e1, Option.bind_some]
  exact kw_I (FM := fun h1 a1 => f_X12_pass h1 a1 x1) (cont := fun h11 => r h11 (some X) (some (X + 23)) (some (X + 56)) (v4 + 6)) (bad := fun h11 => nk_zr 0 (h11, 0)) (bi_pass W x1)
theorem lp_read (H : WS h X) (e1 : nk_sx G (v4 + 1) = some x1) : LPq h X r v4 (f_L_law_c412 G r h (some X) (some (X + 23)) (some (X + 56)) v4) := by
  obtain ⟨n, w, a, c, hr, pa, cp, W⟩ := H
  unfold f_L_law_c412 f_L_law_c465 f_L_law_c2879
  simp only [e1, Option.bind_some]
  exact kw_I (FM := fun h1 a1 => f_X12_read h1 a1 x1) (cont := fun h11 => r h11 (some X) (some (X + 23)) (some (X + 56)) (v4 + 6)) (bad := fun h11 => nk_zr 0 (h11, 0)) (bi_read W x1)
theorem lp_draft (H : WS h X) (e1 : nk_sx G (v4 + 1) = some x1) (e2 : nk_sx G (v4 + 2) = some x2) (e3 : nk_sx G (v4 + 3) = some x3) (e4 : nk_sx G (v4 + 4) = some x4) (e5 : nk_sx G (v4 + 5) = some x5) : LPq h X r v4 (f_L_law_c468 G r h (some X) (some (X + 23)) (some (X + 56)) v4) := by
  obtain ⟨n, w, a, c, hr, pa, cp, W⟩ := H
  unfold f_L_law_c468 f_L_law_c2879
  simp only [e1, e2, e3, e4, e5, Option.bind_some]
  exact kw_V (FM := fun h1 a1 => f_X12_draft h1 a1 x1 x2 x3 x4 x5) (cont := fun h11 => r h11 (some X) (some (X + 23)) (some (X + 56)) (v4 + 6)) (bad := fun h11 => nk_zr 0 (h11, 0)) (bv_draft W x1 x2 x3 x4 x5)
theorem lp_grant (H : WS h X) (e1 : nk_sx G (v4 + 1) = some x1) (e2 : nk_sx G (v4 + 2) = some x2) (e3 : nk_sx G (v4 + 3) = some x3) : LPq h X r v4 (f_L_law_c552 G r h (some X) (some (X + 23)) (some (X + 56)) v4) := by
  obtain ⟨n, w, a, c, hr, pa, cp, W⟩ := H
  unfold f_L_law_c552 f_L_law_c629 f_L_law_c2879
  simp only [e1, e2, e3, Option.bind_some]
  exact kw_I (FM := fun h1 a1 => f_X12_grant h1 a1 x1 x2 x3) (cont := fun h11 => r h11 (some X) (some (X + 23)) (some (X + 56)) (v4 + 6)) (bad := fun h11 => nk_zr 0 (h11, 0)) (bi_grant W x1 x2 x3)
theorem lp_passOn (H : WS h X) (e1 : nk_sx G (v4 + 1) = some x1) (e2 : nk_sx G (v4 + 2) = some x2) (e3 : nk_sx G (v4 + 3) = some x3) : LPq h X r v4 (f_L_law_c632 G r h (some X) (some (X + 23)) (some (X + 56)) v4) := by
  obtain ⟨n, w, a, c, hr, pa, cp, W⟩ := H
  unfold f_L_law_c632 f_L_law_c709 f_L_law_c2879
  simp only [e1, e2, e3, Option.bind_some]
  exact kw_I (FM := fun h1 a1 => f_X12_passOn h1 a1 x1 x2 x3) (cont := fun h11 => r h11 (some X) (some (X + 23)) (some (X + 56)) (v4 + 6)) (bad := fun h11 => nk_zr 0 (h11, 0)) (bi_passOn W x1 x2 x3)
theorem lp_revoke (H : WS h X) (e1 : nk_sx G (v4 + 1) = some x1) (e2 : nk_sx G (v4 + 2) = some x2) (e3 : nk_sx G (v4 + 3) = some x3) : LPq h X r v4 (f_L_law_c712 G r h (some X) (some (X + 23)) (some (X + 56)) v4) := by
  obtain ⟨n, w, a, c, hr, pa, cp, W⟩ := H
  unfold f_L_law_c712 f_L_law_c789 f_L_law_c2879
  simp only [e1, e2, e3, Option.bind_some]
  exact kw_I (FM := fun h1 a1 => f_X12_revoke h1 a1 x1 x2 x3) (cont := fun h11 => r h11 (some X) (some (X + 23)) (some (X + 56)) (v4 + 6)) (bad := fun h11 => nk_zr 0 (h11, 0)) (bi_revoke W x1 x2 x3)
theorem lp_depute (H : WS h X) (e1 : nk_sx G (v4 + 1) = some x1) (e2 : nk_sx G (v4 + 2) = some x2) (e3 : nk_sx G (v4 + 3) = some x3) : LPq h X r v4 (f_L_law_c792 G r h (some X) (some (X + 23)) (some (X + 56)) v4) := by
  obtain ⟨n, w, a, c, hr, pa, cp, W⟩ := H
  unfold f_L_law_c792 f_L_law_c869 f_L_law_c2879
  simp only [e1, e2, e3, Option.bind_some]
  exact kw_I (FM := fun h1 a1 => f_X12_depute h1 a1 x1 x2 x3) (cont := fun h11 => r h11 (some X) (some (X + 23)) (some (X + 56)) (v4 + 6)) (bad := fun h11 => nk_zr 0 (h11, 0)) (bi_depute W x1 x2 x3)
theorem lp_prepare (H : WS h X) (e1 : nk_sx G (v4 + 1) = some x1) (e2 : nk_sx G (v4 + 2) = some x2) : LPq h X r v4 (f_L_law_c872 G r h (some X) (some (X + 23)) (some (X + 56)) v4) := by
  obtain ⟨n, w, a, c, hr, pa, cp, W⟩ := H
  unfold f_L_law_c872 f_L_law_c2879
  simp only [e1, e2, Option.bind_some]
  exact kw_V (FM := fun h1 a1 => f_X12_prepare h1 a1 x1 x2) (cont := fun h11 => r h11 (some X) (some (X + 23)) (some (X + 56)) (v4 + 6)) (bad := fun h11 => nk_zr 0 (h11, 0)) (bv_prepare W x1 x2)
theorem lp_act (H : WS h X) (e1 : nk_sx G (v4 + 1) = some x1) (e2 : nk_sx G (v4 + 2) = some x2) (e3 : nk_sx G (v4 + 3) = some x3) (e4 : nk_sx G (v4 + 4) = some x4) : LPq h X r v4 (f_L_law_c920 G r h (some X) (some (X + 23)) (some (X + 56)) v4) := by
  obtain ⟨n, w, a, c, hr, pa, cp, W⟩ := H
  unfold f_L_law_c920 f_L_law_c1009 f_L_law_c2879
  simp only [e1, e2, e3, e4, Option.bind_some]
  exact kw_I (FM := fun h1 a1 => f_X12_act h1 a1 x1 x2 x3 x4) (cont := fun h11 => r h11 (some X) (some (X + 23)) (some (X + 56)) (v4 + 6)) (bad := fun h11 => nk_zr 0 (h11, 0)) (bi_act W x1 x2 x3 x4)
theorem lp_tamper (H : WS h X) (e1 : nk_sx G (v4 + 1) = some x1) (e2 : nk_sx G (v4 + 2) = some x2) (e3 : nk_sx G (v4 + 3) = some x3) : LPq h X r v4 (f_L_law_c1012 G r h (some X) (some (X + 23)) (some (X + 56)) v4) := by
  obtain ⟨n, w, a, c, hr, pa, cp, W⟩ := H
  unfold f_L_law_c1012 f_L_law_c1089 f_L_law_c2879
  simp only [e1, e2, e3, Option.bind_some]
  exact kw_I (FM := fun h1 a1 => f_X12_tamper h1 a1 x1 x2 x3) (cont := fun h11 => r h11 (some X) (some (X + 23)) (some (X + 56)) (v4 + 6)) (bad := fun h11 => nk_zr 0 (h11, 0)) (bi_tamper W x1 x2 x3)
theorem lp_copy (H : WS h X) (e1 : nk_sx G (v4 + 1) = some x1) (e2 : nk_sx G (v4 + 2) = some x2) (e3 : nk_sx G (v4 + 3) = some x3) (e4 : nk_sx G (v4 + 4) = some x4) : LPq h X r v4 (f_L_law_c1092 G r h (some X) (some (X + 23)) (some (X + 56)) v4) := by
  obtain ⟨n, w, a, c, hr, pa, cp, W⟩ := H
  unfold f_L_law_c1092 f_L_law_c1181 f_L_law_c2879
  simp only [e1, e2, e3, e4, Option.bind_some]
  exact kw_I (FM := fun h1 a1 => f_X12_copy h1 a1 x1 x2 x3 x4) (cont := fun h11 => r h11 (some X) (some (X + 23)) (some (X + 56)) (v4 + 6)) (bad := fun h11 => nk_zr 0 (h11, 0)) (bi_copy W x1 x2 x3 x4)
theorem lp_forge (H : WS h X) (e1 : nk_sx G (v4 + 1) = some x1) (e2 : nk_sx G (v4 + 2) = some x2) (e3 : nk_sx G (v4 + 3) = some x3) (e4 : nk_sx G (v4 + 4) = some x4) : LPq h X r v4 (f_L_law_c1184 G r h (some X) (some (X + 23)) (some (X + 56)) v4) := by
  obtain ⟨n, w, a, c, hr, pa, cp, W⟩ := H
  unfold f_L_law_c1184 f_L_law_c1273 f_L_law_c2879
  simp only [e1, e2, e3, e4, Option.bind_some]
  exact kw_I (FM := fun h1 a1 => f_X12_forge h1 a1 x1 x2 x3 x4) (cont := fun h11 => r h11 (some X) (some (X + 23)) (some (X + 56)) (v4 + 6)) (bad := fun h11 => nk_zr 0 (h11, 0)) (bi_forge W x1 x2 x3 x4)
theorem lp_hour (H : WS h X)  : LPq h X r v4 (f_L_law_c1276 G r h (some X) (some (X + 23)) (some (X + 56)) v4) := by
  obtain ⟨n, w, a, c, hr, pa, cp, W⟩ := H
  unfold f_L_law_c1276 f_L_law_c2879
  exact kw_P W (FL := fun h1 a1 => f_X11_hour h1 a1) (FM := fun h1 a1 => f_X12_hour h1 a1) (cont := fun h11 => r h11 (some X) (some (X + 23)) (some (X + 56)) (v4 + 6)) (bad := fun h11 => nk_zr 0 (h11, 0)) (cl_hour W) (md_hour (⟨W.2.2.1, W.2.2.2.1⟩ : St h (X + 23) (nm h (X + 23))))
theorem lp_news (H : WS h X)  : LPq h X r v4 (f_L_law_c1289 G r h (some X) (some (X + 23)) (some (X + 56)) v4) := by
  obtain ⟨n, w, a, c, hr, pa, cp, W⟩ := H
  unfold f_L_law_c1289 f_L_law_c2879
  exact kw_P W (FL := fun h1 a1 => f_X11_news h1 a1) (FM := fun h1 a1 => f_X12_news h1 a1) (cont := fun h11 => r h11 (some X) (some (X + 23)) (some (X + 56)) (v4 + 6)) (bad := fun h11 => nk_zr 0 (h11, 0)) (cl_news W) (by have q := md_news (⟨W.2.2.1, W.2.2.2.1⟩ : St h (X + 23) (nm h (X + 23))); rw [W.I.1.1] at q; exact q)
theorem lp_powers (H : WS h X)  : LPq h X r v4 (f_L_law_c1302 G r h (some X) (some (X + 23)) (some (X + 56)) v4) := by
  obtain ⟨n, w, a, c, hr, pa, cp, W⟩ := H
  unfold f_L_law_c1302 f_L_law_c2879
  exact kw_P W (FL := fun h1 a1 => f_X11_powers h1 a1) (FM := fun h1 a1 => f_X12_powers h1 a1) (cont := fun h11 => r h11 (some X) (some (X + 23)) (some (X + 56)) (v4 + 6)) (bad := fun h11 => nk_zr 0 (h11, 0)) (cl_powers W) (by have q := md_powers (⟨W.2.2.1, W.2.2.2.1⟩ : St h (X + 23) (nm h (X + 23))); rw [W.I.1.2.2.1] at q; exact q)
theorem lp_records (H : WS h X) (e1 : nk_sx G (v4 + 1) = some x1) : LPq h X r v4 (f_L_law_c1315 G r h (some X) (some (X + 23)) (some (X + 56)) v4) := by
  obtain ⟨n, w, a, c, hr, pa, cp, W⟩ := H
  unfold f_L_law_c1315 f_L_law_c1368 f_L_law_c2879
  simp only [e1, Option.bind_some]
  exact kw_I (FM := fun h1 a1 => f_X12_records h1 a1 x1) (cont := fun h11 => r h11 (some X) (some (X + 23)) (some (X + 56)) (v4 + 6)) (bad := fun h11 => nk_zr 0 (h11, 0)) (BI.q (cl_records W x1) (fun h1 H1 => md_records H1 x1))
theorem lp_areJoined (H : WS h X) (e1 : nk_sx G (v4 + 1) = some x1) (e2 : nk_sx G (v4 + 2) = some x2) : LPq h X r v4 (f_L_law_c1371 G r h (some X) (some (X + 23)) (some (X + 56)) v4) := by
  obtain ⟨n, w, a, c, hr, pa, cp, W⟩ := H
  unfold f_L_law_c1371 f_L_law_c1443 f_L_law_c2879
  simp only [e1, e2, Option.bind_some]
  exact kw_Z (FM := fun h1 a1 => f_X12_areJoined h1 a1 x1 x2) (cont := fun h11 => r h11 (some X) (some (X + 23)) (some (X + 56)) (v4 + 6)) (bad := fun h11 => nk_zr 0 (h11, 0)) (cl_areJoined W x1 x2) (fun h1 H1 => md_areJoined H1 x1 x2)
theorem lp_came (H : WS h X) (e1 : nk_sx G (v4 + 1) = some x1) (e2 : nk_sx G (v4 + 2) = some x2) : LPq h X r v4 (f_L_law_c1446 G r h (some X) (some (X + 23)) (some (X + 56)) v4) := by
  obtain ⟨n, w, a, c, hr, pa, cp, W⟩ := H
  unfold f_L_law_c1446 f_L_law_c1511 f_L_law_c2879
  simp only [e1, e2, Option.bind_some]
  exact kw_I (FM := fun h1 a1 => f_X12_came h1 a1 x1 x2) (cont := fun h11 => r h11 (some X) (some (X + 23)) (some (X + 56)) (v4 + 6)) (bad := fun h11 => nk_zr 0 (h11, 0)) (BI.q (cl_came W x1 x2) (fun h1 H1 => md_came H1 W.I x1 x2))
theorem lp_cameByLinks (H : WS h X) (e1 : nk_sx G (v4 + 1) = some x1) (e2 : nk_sx G (v4 + 2) = some x2) : LPq h X r v4 (f_L_law_c1514 G r h (some X) (some (X + 23)) (some (X + 56)) v4) := by
  obtain ⟨n, w, a, c, hr, pa, cp, W⟩ := H
  unfold f_L_law_c1514 f_L_law_c1579 f_L_law_c2879
  simp only [e1, e2, Option.bind_some]
  exact kw_I (FM := fun h1 a1 => f_X12_cameByLinks h1 a1 x1 x2) (cont := fun h11 => r h11 (some X) (some (X + 23)) (some (X + 56)) (v4 + 6)) (bad := fun h11 => nk_zr 0 (h11, 0)) (BI.q (cl_cameByLinks W x1 x2) (fun h1 H1 => md_cameByLinks H1 W.I x1 x2))
theorem lp_isRead (H : WS h X) (e1 : nk_sx G (v4 + 1) = some x1) (e2 : nk_sx G (v4 + 2) = some x2) : LPq h X r v4 (f_L_law_c1582 G r h (some X) (some (X + 23)) (some (X + 56)) v4) := by
  obtain ⟨n, w, a, c, hr, pa, cp, W⟩ := H
  unfold f_L_law_c1582 f_L_law_c1654 f_L_law_c2879
  simp only [e1, e2, Option.bind_some]
  exact kw_Z (FM := fun h1 a1 => f_X12_isRead h1 a1 x1 x2) (cont := fun h11 => r h11 (some X) (some (X + 23)) (some (X + 56)) (v4 + 6)) (bad := fun h11 => nk_zr 0 (h11, 0)) (cl_isRead W x1 x2) (fun h1 H1 => md_isRead H1 W.I x1 x2)
theorem lp_mail (H : WS h X) (e1 : nk_sx G (v4 + 1) = some x1) : LPq h X r v4 (f_L_law_c1657 G r h (some X) (some (X + 23)) (some (X + 56)) v4) := by
  obtain ⟨n, w, a, c, hr, pa, cp, W⟩ := H
  unfold f_L_law_c1657 f_L_law_c1710 f_L_law_c2879
  simp only [e1, Option.bind_some]
  exact kw_I (FM := fun h1 a1 => f_X12_mail h1 a1 x1) (cont := fun h11 => r h11 (some X) (some (X + 23)) (some (X + 56)) (v4 + 6)) (bad := fun h11 => nk_zr 0 (h11, 0)) (BI.q (cl_mail W x1) (fun h1 H1 => md_mail H1 W.I x1))
theorem lp_source (H : WS h X) (e1 : nk_sx G (v4 + 1) = some x1) : LPq h X r v4 (f_L_law_c1713 G r h (some X) (some (X + 23)) (some (X + 56)) v4) := by
  obtain ⟨n, w, a, c, hr, pa, cp, W⟩ := H
  unfold f_L_law_c1713 f_L_law_c1766 f_L_law_c2879
  simp only [e1, Option.bind_some]
  exact kw_I (FM := fun h1 a1 => f_X12_source h1 a1 x1) (cont := fun h11 => r h11 (some X) (some (X + 23)) (some (X + 56)) (v4 + 6)) (bad := fun h11 => nk_zr 0 (h11, 0)) (BI.q (cl_source W x1) (fun h1 H1 => md_source H1 W.I x1))
theorem lp_holder (H : WS h X) (e1 : nk_sx G (v4 + 1) = some x1) : LPq h X r v4 (f_L_law_c1769 G r h (some X) (some (X + 23)) (some (X + 56)) v4) := by
  obtain ⟨n, w, a, c, hr, pa, cp, W⟩ := H
  unfold f_L_law_c1769 f_L_law_c1822 f_L_law_c2879
  simp only [e1, Option.bind_some]
  exact kw_I (FM := fun h1 a1 => f_X12_holder h1 a1 x1) (cont := fun h11 => r h11 (some X) (some (X + 23)) (some (X + 56)) (v4 + 6)) (bad := fun h11 => nk_zr 0 (h11, 0)) (BI.q (cl_holder W x1) (fun h1 H1 => md_holder H1 W.I x1))
theorem lp_isGood (H : WS h X) (e1 : nk_sx G (v4 + 1) = some x1) (e2 : nk_sx G (v4 + 2) = some x2) : LPq h X r v4 (f_L_law_c1825 G r h (some X) (some (X + 23)) (some (X + 56)) v4) := by
  obtain ⟨n, w, a, c, hr, pa, cp, W⟩ := H
  unfold f_L_law_c1825 f_L_law_c1897 f_L_law_c2879
  simp only [e1, e2, Option.bind_some]
  exact kw_Z (FM := fun h1 a1 => f_X12_isGood h1 a1 x1 x2) (cont := fun h11 => r h11 (some X) (some (X + 23)) (some (X + 56)) (v4 + 6)) (bad := fun h11 => nk_zr 0 (h11, 0)) (cl_isGood W x1 x2) (fun h1 H1 => md_isGood H1 W.I x1 x2)
theorem lp_done (H : WS h X) (e1 : nk_sx G (v4 + 1) = some x1) (e2 : nk_sx G (v4 + 2) = some x2) : LPq h X r v4 (f_L_law_c1900 G r h (some X) (some (X + 23)) (some (X + 56)) v4) := by
  obtain ⟨n, w, a, c, hr, pa, cp, W⟩ := H
  unfold f_L_law_c1900 f_L_law_c1965 f_L_law_c2879
  simp only [e1, e2, Option.bind_some]
  exact kw_I (FM := fun h1 a1 => f_X12_done h1 a1 x1 x2) (cont := fun h11 => r h11 (some X) (some (X + 23)) (some (X + 56)) (v4 + 6)) (bad := fun h11 => nk_zr 0 (h11, 0)) (BI.q (cl_done W x1 x2) (fun h1 H1 => md_done H1 W.I x1 x2))
theorem lp_beyond (H : WS h X) (e1 : nk_sx G (v4 + 1) = some x1) : LPq h X r v4 (f_L_law_c1968 G r h (some X) (some (X + 23)) (some (X + 56)) v4) := by
  obtain ⟨n, w, a, c, hr, pa, cp, W⟩ := H
  unfold f_L_law_c1968 f_L_law_c2021 f_L_law_c2879
  simp only [e1, Option.bind_some]
  exact kw_I (FM := fun h1 a1 => f_X12_beyond h1 a1 x1) (cont := fun h11 => r h11 (some X) (some (X + 23)) (some (X + 56)) (v4 + 6)) (bad := fun h11 => nk_zr 0 (h11, 0)) (BI.q (cl_beyond W x1) (fun h1 H1 => md_beyond H1 W.I x1))
theorem lp_against (H : WS h X) (e1 : nk_sx G (v4 + 1) = some x1) (e2 : nk_sx G (v4 + 2) = some x2) (e3 : nk_sx G (v4 + 3) = some x3) (e4 : nk_sx G (v4 + 4) = some x4) : LPq h X r v4 (f_L_law_c2024 G r h (some X) (some (X + 23)) (some (X + 56)) v4) := by
  obtain ⟨n, w, a, c, hr, pa, cp, W⟩ := H
  unfold f_L_law_c2024 f_L_law_c2113 f_L_law_c2879
  simp only [e1, e2, e3, e4, Option.bind_some]
  exact kw_I (FM := fun h1 a1 => f_X12_against h1 a1 x1 x2 x3 x4) (cont := fun h11 => r h11 (some X) (some (X + 23)) (some (X + 56)) (v4 + 6)) (bad := fun h11 => nk_zr 0 (h11, 0)) (BI.q (cl_against W x1 x2 x3 x4) (fun h1 H1 => md_against H1 W.I x1 x2 x3 x4))
theorem lp_choices (H : WS h X) (e1 : nk_sx G (v4 + 1) = some x1) (e2 : nk_sx G (v4 + 2) = some x2) (e3 : nk_sx G (v4 + 3) = some x3) : LPq h X r v4 (f_L_law_c2116 G r h (some X) (some (X + 23)) (some (X + 56)) v4) := by
  obtain ⟨n, w, a, c, hr, pa, cp, W⟩ := H
  unfold f_L_law_c2116 f_L_law_c2193 f_L_law_c2879
  simp only [e1, e2, e3, Option.bind_some]
  exact kw_I (FM := fun h1 a1 => f_X12_choices h1 a1 x1 x2 x3) (cont := fun h11 => r h11 (some X) (some (X + 23)) (some (X + 56)) (v4 + 6)) (bad := fun h11 => nk_zr 0 (h11, 0)) (BI.q (cl_choices W x1 x2 x3) (fun h1 H1 => md_choices H1 W.I x1 x2 x3))
theorem lp_stands (H : WS h X) (e1 : nk_sx G (v4 + 1) = some x1) (e2 : nk_sx G (v4 + 2) = some x2) : LPq h X r v4 (f_L_law_c2196 G r h (some X) (some (X + 23)) (some (X + 56)) v4) := by
  obtain ⟨n, w, a, c, hr, pa, cp, W⟩ := H
  unfold f_L_law_c2196 f_L_law_c2268 f_L_law_c2879
  simp only [e1, e2, Option.bind_some]
  exact kw_Z (FM := fun h1 a1 => f_X12_stands h1 a1 x1 x2) (cont := fun h11 => r h11 (some X) (some (X + 23)) (some (X + 56)) (v4 + 6)) (bad := fun h11 => nk_zr 0 (h11, 0)) (cl_stands W x1 x2) (fun h1 H1 => md_stands H1 W.I x1 x2)
theorem lp_fault (H : WS h X) (e1 : nk_sx G (v4 + 1) = some x1) (e2 : nk_sx G (v4 + 2) = some x2) : LPq h X r v4 (f_L_law_c2271 G r h (some X) (some (X + 23)) (some (X + 56)) v4) := by
  obtain ⟨n, w, a, c, hr, pa, cp, W⟩ := H
  unfold f_L_law_c2271 f_L_law_c2336 f_L_law_c2879
  simp only [e1, e2, Option.bind_some]
  exact kw_I (FM := fun h1 a1 => f_X12_fault h1 a1 x1 x2) (cont := fun h11 => r h11 (some X) (some (X + 23)) (some (X + 56)) (v4 + 6)) (bad := fun h11 => nk_zr 0 (h11, 0)) (BI.q (cl_fault W x1 x2) (fun h1 H1 => md_fault H1 W.I x1 x2))
theorem lp_standing (H : WS h X)  : LPq h X r v4 (f_L_law_c2339 G r h (some X) (some (X + 23)) (some (X + 56)) v4) := by
  obtain ⟨n, w, a, c, hr, pa, cp, W⟩ := H
  unfold f_L_law_c2339 f_L_law_c2879
  exact kw_P W (FL := fun h1 a1 => f_X11_standing h1 a1) (FM := fun h1 a1 => f_X12_standing h1 a1) (cont := fun h11 => r h11 (some X) (some (X + 23)) (some (X + 56)) (v4 + 6)) (bad := fun h11 => nk_zr 0 (h11, 0)) (cl_standing W) (md_standing (⟨W.2.2.1, W.2.2.2.1⟩ : St h (X + 23) (nm h (X + 23))) W.I)
theorem lp_pieceOf (H : WS h X) (e1 : nk_sx G (v4 + 1) = some x1) (e2 : nk_sx G (v4 + 2) = some x2) : LPq h X r v4 (f_L_law_c2352 G r h (some X) (some (X + 23)) (some (X + 56)) v4) := by
  obtain ⟨n, w, a, c, hr, pa, cp, W⟩ := H
  unfold f_L_law_c2352 f_L_law_c2417 f_L_law_c2879
  simp only [e1, e2, Option.bind_some]
  exact kw_I (FM := fun h1 a1 => f_X12_pieceOf h1 a1 x1 x2) (cont := fun h11 => r h11 (some X) (some (X + 23)) (some (X + 56)) (v4 + 6)) (bad := fun h11 => nk_zr 0 (h11, 0)) (BI.q (cl_pieceOf W x1 x2) (fun h1 H1 => md_pieceOf H1 W.I x1 x2))
theorem lp_part (H : WS h X) (e1 : nk_sx G (v4 + 1) = some x1) (e2 : nk_sx G (v4 + 2) = some x2) (e3 : nk_sx G (v4 + 3) = some x3) : LPq h X r v4 (f_L_law_c2420 G r h (some X) (some (X + 23)) (some (X + 56)) v4) := by
  obtain ⟨n, w, a, c, hr, pa, cp, W⟩ := H
  unfold f_L_law_c2420 f_L_law_c2497 f_L_law_c2879
  simp only [e1, e2, e3, Option.bind_some]
  exact kw_I (FM := fun h1 a1 => f_X12_part h1 a1 x1 x2 x3) (cont := fun h11 => r h11 (some X) (some (X + 23)) (some (X + 56)) (v4 + 6)) (bad := fun h11 => nk_zr 0 (h11, 0)) (BI.q (cl_part W x1 x2 x3) (fun h1 H1 => md_part H1 W.I x1 x2 x3))
theorem lp_seal (H : WS h X) (e1 : nk_sx G (v4 + 1) = some x1) (e2 : nk_sx G (v4 + 2) = some x2) : LPq h X r v4 (f_L_law_c2500 G r h (some X) (some (X + 23)) (some (X + 56)) v4) := by
  obtain ⟨n, w, a, c, hr, pa, cp, W⟩ := H
  unfold f_L_law_c2500 f_L_law_c2565 f_L_law_c2879
  simp only [e1, e2, Option.bind_some]
  exact kw_I (FM := fun h1 a1 => f_X12_seal h1 a1 x1 x2) (cont := fun h11 => r h11 (some X) (some (X + 23)) (some (X + 56)) (v4 + 6)) (bad := fun h11 => nk_zr 0 (h11, 0)) (BI.q (cl_seal W x1 x2) (fun h1 H1 => md_seal H1 W.I x1 x2))
theorem lp_broken (H : WS h X) (e1 : nk_sx G (v4 + 1) = some x1) : LPq h X r v4 (f_L_law_c2568 G r h (some X) (some (X + 23)) (some (X + 56)) v4) := by
  obtain ⟨n, w, a, c, hr, pa, cp, W⟩ := H
  unfold f_L_law_c2568 f_L_law_c2621 f_L_law_c2879
  simp only [e1, Option.bind_some]
  exact kw_I (FM := fun h1 a1 => f_X12_broken h1 a1 x1) (cont := fun h11 => r h11 (some X) (some (X + 23)) (some (X + 56)) (v4 + 6)) (bad := fun h11 => nk_zr 0 (h11, 0)) (BI.q (cl_broken W x1) (fun h1 H1 => md_broken H1 W.I x1))
theorem lp_size (H : WS h X) (e1 : nk_sx G (v4 + 1) = some x1) : LPq h X r v4 (f_L_law_c2624 G r h (some X) (some (X + 23)) (some (X + 56)) v4) := by
  obtain ⟨n, w, a, c, hr, pa, cp, W⟩ := H
  unfold f_L_law_c2624 f_L_law_c2677 f_L_law_c2879
  simp only [e1, Option.bind_some]
  exact kw_I (FM := fun h1 a1 => f_X12_size h1 a1 x1) (cont := fun h11 => r h11 (some X) (some (X + 23)) (some (X + 56)) (v4 + 6)) (bad := fun h11 => nk_zr 0 (h11, 0)) (BI.q (cl_size W x1) (fun h1 H1 => md_size H1 W.I x1))
theorem lp_copied (H : WS h X) (e1 : nk_sx G (v4 + 1) = some x1) (e2 : nk_sx G (v4 + 2) = some x2) (e3 : nk_sx G (v4 + 3) = some x3) : LPq h X r v4 (f_L_law_c2680 G r h (some X) (some (X + 23)) (some (X + 56)) v4) := by
  obtain ⟨n, w, a, c, hr, pa, cp, W⟩ := H
  unfold f_L_law_c2680 f_L_law_c2757 f_L_law_c2879
  simp only [e1, e2, e3, Option.bind_some]
  exact kw_I (FM := fun h1 a1 => f_X12_copied h1 a1 x1 x2 x3) (cont := fun h11 => r h11 (some X) (some (X + 23)) (some (X + 56)) (v4 + 6)) (bad := fun h11 => nk_zr 0 (h11, 0)) (BI.q (cl_copied W x1 x2 x3) (fun h1 H1 => md_copied H1 W.I x1 x2 x3))
theorem lp_brokenCopy (H : WS h X) (e1 : nk_sx G (v4 + 1) = some x1) : LPq h X r v4 (f_L_law_c2760 G r h (some X) (some (X + 23)) (some (X + 56)) v4) := by
  obtain ⟨n, w, a, c, hr, pa, cp, W⟩ := H
  unfold f_L_law_c2760 f_L_law_c2813 f_L_law_c2879
  simp only [e1, Option.bind_some]
  exact kw_I (FM := fun h1 a1 => f_X12_brokenCopy h1 a1 x1) (cont := fun h11 => r h11 (some X) (some (X + 23)) (some (X + 56)) (v4 + 6)) (bad := fun h11 => nk_zr 0 (h11, 0)) (BI.q (cl_brokenCopy W x1) (fun h1 H1 => md_brokenCopy H1 W.I x1))
theorem lp_isTrue (H : WS h X) (e1 : nk_sx G (v4 + 1) = some x1) : LPq h X r v4 (f_L_law_c2816 G r h (some X) (some (X + 23)) (some (X + 56)) v4) := by
  obtain ⟨n, w, a, c, hr, pa, cp, W⟩ := H
  unfold f_L_law_c2816 f_L_law_c2876 f_L_law_c2879
  simp only [e1, Option.bind_some]
  exact kw_Z (FM := fun h1 a1 => f_X12_isTrue h1 a1 x1) (cont := fun h11 => r h11 (some X) (some (X + 23)) (some (X + 56)) (v4 + 6)) (bad := fun h11 => nk_zr 0 (h11, 0)) (cl_isTrue W x1) (fun h1 H1 => md_isTrue H1 W.I x1)
end LD
