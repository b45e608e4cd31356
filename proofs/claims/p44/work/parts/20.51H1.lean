section MP
variable {h h' g : nk_H} {X n w a c hr : Nat} {pa pa' cp : Nat → Nat} {s s' s2 m : Nat → Nat → Int32}
theorem w_gIv {α : Type} {M : Nat} (H : St h M s) (k : Nat) {v : Int32} (e : s k 0 = v) (K : Int32 → Option (nk_H × α)) (h0 : mo k = 0 := by decide) : (nk_gI [19] k h (some M)).bind K = K v := by rw [w_gI H k K h0, e]
theorem m_isFull {M : Nat} (H : St h M s) (hI : Inv s n w a c hr) : f_X12_isFull h M = some (h, b2i (!(decide (w < 40) && decide (n < 160)))) := by
  have hw := hI.1.2.2.2.1
  have hn := hI.1.2.1
  unfold f_X12_isFull f_X12_isFull_c24 f_X12_isFull_c19 f_X12_isFull_c24
  rw [w_gIv H 12 hI.1.2.2.1]
  by_cases z : w = 40
  · subst z; rfl
  · rw [if_neg (show ¬ Int32.ofNat w = 40 from fun e => z ((ia_eq (b := 40) (by omega) (by omega)).mp e)), w_gIv H 3 hI.1.1, decide_eq_true (show w < 40 by omega)]
    by_cases z2 : n = 160
    · subst z2; rfl
    · rw [if_neg (show ¬ Int32.ofNat n = 160 from fun e => z2 ((ia_eq (b := 160) (by omega) (by omega)).mp e)), decide_eq_true (show n < 160 by omega)]; rfl
theorem m_adds {M : Nat} (H : St h M s) {k : Nat} (e3 : s 3 0 = Int32.ofNat n) (e12 : s 12 0 = Int32.ofNat w) (hn : n < 160) (hw : w < 40) (hk : k < 6) (gi ho so : Int32) : Ok h M (uG s n w k gi ho so) (Int32.ofNat w) (f_X12_adds h M (Int32.ofNat k) gi ho so) := by
  unfold f_X12_adds
  rw [w_gP H 14, w_gIv H 12 e12]
  refine w_wI H 14 _ (by show w < 40; omega) (fun h1 H => ?_)
  rw [w_gP H 15, w_gIv H 12 (v := Int32.ofNat w) (by simp [nk_u2, e12])]
  refine w_wI H 15 _ (by show w < 40; omega) (fun h2 H => ?_)
  rw [w_gP H 16, w_gIv H 12 (v := Int32.ofNat w) (by simp [nk_u2, e12])]
  refine w_wI H 16 _ (by show w < 40; omega) (fun h3 H => ?_)
  rw [w_gP H 17, w_gIv H 12 (v := Int32.ofNat w) (by simp [nk_u2, e12]), w_gIv H 22 (v := s 22 0) (by simp [nk_u2])]
  refine w_wI H 17 _ (by show w < 40; omega) (fun h4 H => ?_)
  rw [w_gP H 18, w_gIv H 12 (v := Int32.ofNat w) (by simp [nk_u2, e12]), w_gIv H 23 (v := s 23 0) (by simp [nk_u2])]
  refine w_wI H 18 _ (by show w < 40; omega) (fun h5 H => ?_)
  rw [w_gP H 19, w_gIv H 12 (v := Int32.ofNat w) (by simp [nk_u2, e12]), w_gIv H 24 (v := s 24 0) (by simp [nk_u2])]
  refine w_wI H 19 _ (by show w < 40; omega) (fun h6 H => ?_)
  rw [w_gP H 20, w_gIv H 12 (v := Int32.ofNat w) (by simp [nk_u2, e12]), w_gIv H 1 (v := s 1 0) (by simp [nk_u2]), w_gIv H 25 (v := s 25 0) (by simp [nk_u2])]
  refine w_wI H 20 _ (by show w < 40; omega) (fun h7 H => ?_)
  rw [w_gP H 21, w_gIv H 12 (v := Int32.ofNat w) (by simp [nk_u2, e12]), w_gIv H 26 (v := s 26 0) (by simp [nk_u2])]
  refine w_wI H 21 _ (by show w < 40; omega) (fun h8 H => ?_)
  rw [w_gP H 13, w_gIv H 12 (v := Int32.ofNat w) (by simp [nk_u2, e12]), w_gIv H 12 (v := Int32.ofNat w) (by simp [nk_u2, e12]), w_rcv H]
  have H8 : St h8 M (uG8 s w gi ho so) := H
  refine w_do (w_makes H8 (by rw [uG8_O _ _ _ _ _ (by omega)]; exact e3) hn hk 0 (Int32.ofNat w)) (fun h9 H => ?_)
  have e12' : uMk (uG8 s w gi ho so) n k 0 (Int32.ofNat w) 12 0 = Int32.ofNat w := by rw [uMk_O _ _ _ _ _ (by omega), uG8_O _ _ _ _ _ (by omega)]; exact e12
  refine w_wI H 13 _ (by show w < 40; omega) (fun h10 H => ?_)
  rw [w_gIv H 12 (v := Int32.ofNat w) (by rw [u2_k _ _ _ _ _ (by decide)]; exact e12'), ia_1]
  refine w_pI H 12 _ (fun h11 H => ?_)
  rw [w_gIv H 12 (v := Int32.ofNat (w + 1)) (u2_eq _ _ _ _), ia_s1]
  exact Ok.here H
theorem mb_roomP (W : WR h X n w a c hr pa cp s m) : f_X11_mustHaveRoomForPower h X = if (decide (w < 40) && decide (n < 160)) = true then some (h, .inl ()) else xx h nk_IS := by
  obtain ⟨k1, -, -, k2, -⟩ := W.1.1.1
  have L := W.1.2.2.2.2.2.1.2.1
  have hb := W.b
  have k18 : nk_K h X ∈ [18] := by rw [k1]; decide
  unfold f_X11_mustHaveRoomForPower
  rw [rd_P [18] k18 k2, rd_r [7] (by rw [L.1]; decide), do_eq (ls_size L)]
  by_cases z : w < 40
  · rw [if_pos (show Int32.ofNat w < 40 from (ia_lt (b := 40) (by omega) (by omega)).mpr z), rX W, dt_if (mb_room W), decide_eq_true z]; rfl
  · rw [if_neg (show ¬ Int32.ofNat w < 40 from fun e => z ((ia_lt (b := 40) (by omega) (by omega)).mp e)), decide_eq_false z]; rfl
theorem mb_other (h : nk_H) (v u : Int32) : f_X11_mustBeOtherPerson h v u = if (!decide (v = u)) = true then some (h, .inl ()) else xx h nk_IA := by
  unfold f_X11_mustBeOtherPerson
  by_cases z : v = u
  · rw [if_pos z, decide_eq_true z]; rfl
  · rw [if_neg z, decide_eq_false z]; rfl
theorem bi_grant (W : WR h X n w a c hr pa cp s s) (v u p : Int32) : BI h X s (f_W_grant h (some X) v u p (some (X + 56))) (fun h1 => f_X12_grant h1 (X + 23) v u p) := by
  have hb := W.b
  have hI := W.I
  let CODE : Int32 := if (rg v 6 && rg u 10 && rg p 10) = true then (if u = p then 2 else if (decide (w < 40) && decide (n < 160)) = true then 0 else 3) else 1
  have eM : ∀ h1, St h1 (X + 23) s → f_X12_grant h1 (X + 23) v u p = nk_do (f_X12_holds h1 (X + 23) CODE) (fun h2 x3 => (if x3 = 0 then (f_X12_grant_c77 h2 0) else ((nk_rcv [19] h2 (some (X + 23))).bind fun a4 => nk_do (f_X12_adds h2 a4 v u p (-1)) fun h5 x6 => (f_X12_grant_c77 h5 x6)))) := fun h1 H1 => by
    unfold f_X12_grant f_X12_grant_c25 f_X12_grant_c26 f_X12_grant_c59
    show _ = nk_do (f_X12_holds h1 (X + 23) (if (rg v 6 && rg u 10 && rg p 10) = true then (if u = p then 2 else if (decide (w < 40) && decide (n < 160)) = true then 0 else 3) else 1)) _
    rw [do_eq (m_isKiosk h1 v), ite_b]
    cases h0 : rg v 6 with
    | false => rw [if_neg (by decide), if_pos rfl, w_rcv H1]; rfl
    | true =>
      rw [if_pos rfl, do_eq (m_isPerson h1 u), ite_b]
      cases h2 : rg u 10 with
      | false => rw [if_neg (by decide), if_pos rfl, w_rcv H1]; rfl
      | true =>
        rw [if_pos rfl, do_eq (m_isPerson h1 p), ite_b]
        cases h3 : rg p 10 with
        | false => rw [if_neg (by decide), if_pos rfl, w_rcv H1]; rfl
        | true =>
          rw [if_pos rfl, if_neg (by decide)]
          by_cases z : u = p
          · rw [if_pos z, w_rcv H1, if_pos (c := (true && true && true) = true) rfl, if_pos z]
          · rw [if_neg z, w_rcv H1, do_eq (m_isFull H1 hI), if_pos (c := (true && true && true) = true) rfl, if_neg z]
            cases (decide (w < 40) && decide (n < 160)) with
            | false => rw [show b2i (!false) = 1 from rfl, if_neg (by decide), w_rcv H1]; rfl
            | true => rw [show b2i (!true) = 0 from rfl, if_pos rfl, w_rcv H1]; rfl
  have err : ∀ (k : Int32), k ≠ 0 → CODE = k → ∀ h1, St h1 (X + 23) s → ∃ r, Ok h1 (X + 23) (nk_u2 s 0 0 k) r (f_X12_grant h1 (X + 23) v u p) := fun k hk ek h1 H1 => by
    rw [eM h1 H1, ek]
    refine ⟨0, w_do (w_holds H1 _) (fun h2 H2 => ?_)⟩
    rw [decide_eq_false hk]
    exact Ok.here H2
  have eC : CODE = if (rg v 6 && rg u 10 && rg p 10) = true then (if u = p then 2 else if (decide (w < 40) && decide (n < 160)) = true then 0 else 3) else 1 := rfl
  unfold f_W_grant
  rw [rX W]
  cases h0 : rg v 6 with
  | false =>
    refine BI.errV W (E := nk_IX) (v := 1) ?_ rfl rfl (by decide) (err 1 (by decide) (by rw [eC, h0]; rfl))
    unfold f_X11_grant
    rw [dt_if (mb_kiosk h v), h0]
    exact VOK.thrown W _
  | true =>
    cases h1 : rg u 10 with
    | false =>
      refine BI.errV W (E := nk_IX) (v := 1) ?_ rfl rfl (by decide) (err 1 (by decide) (by rw [eC, h0, h1]; rfl))
      unfold f_X11_grant
      rw [dt_if (mb_kiosk h v), h0, if_pos rfl, dt_if (mb_person h u), h1]
      exact VOK.thrown W _
    | true =>
      cases h2 : rg p 10 with
      | false =>
        refine BI.errV W (E := nk_IX) (v := 1) ?_ rfl rfl (by decide) (err 1 (by decide) (by rw [eC, h0, h1, h2]; rfl))
        unfold f_X11_grant
        rw [dt_if (mb_kiosk h v), h0, if_pos rfl, dt_if (mb_person h u), h1, if_pos rfl, dt_if (mb_person h p), h2]
        exact VOK.thrown W _
      | true =>
        have base : ∀ R, nk_dt (f_X11_mustBeOtherPerson h u p) (fun h7 x8 => ((nk_rcv [18] h7 (some X)).bind fun a9 => nk_dt (f_X11_mustHaveRoomForPower h7 a9) fun h10 x11 => ((nk_rcv [18] h10 (some X)).bind fun a12 => nk_do (f_X11_makePower h10 a12 v none u p) fun h13 x14 => some (h13, (.inl x14))))) = R → f_X11_grant h X v u p = R := fun R e => by
          unfold f_X11_grant
          rw [dt_if (mb_kiosk h v), h0, if_pos rfl, dt_if (mb_person h u), h1, if_pos rfl, dt_if (mb_person h p), h2, if_pos rfl]
          exact e
        by_cases z : u = p
        · refine BI.errV W (E := nk_IA) (v := 2) ?_ rfl rfl (by decide) (err 2 (by decide) (by rw [eC, h0, h1, h2, if_pos (c := (true && true && true) = true) rfl, if_pos z]))
          rw [base _ rfl, dt_if (mb_other h u p), decide_eq_true z]
          exact VOK.thrown W _
        · cases h4 : (decide (w < 40) && decide (n < 160)) with
          | false =>
            refine BI.errV W (E := nk_IS) (v := 3) ?_ rfl rfl (by decide) (err 3 (by decide) (by rw [eC, h0, h1, h2, if_pos (c := (true && true && true) = true) rfl, if_neg z, h4]; rfl))
            rw [base _ rfl, dt_if (mb_other h u p), decide_eq_false z, if_pos (c := (!false) = true) rfl, rX W, dt_if (mb_roomP W), h4]
            exact VOK.thrown W _
          | true =>
            have h4' := h4
            rw [Bool.and_eq_true] at h4'
            have hw : w < 40 := of_decide_eq_true h4'.1
            have hn : n < 160 := of_decide_eq_true h4'.2
            have h0' := h0
            obtain ⟨k, rfl, hk⟩ := rg_ex (by decide) h0'
            obtain ⟨h8, e8, W8, b8, d8⟩ := q_makePower W hn hw hk none (fun r e => by cases e) u p
            refine BI.okV (v := Int32.ofNat w) (s' := uG s n w k u p (-1)) (s2 := uG (nk_u2 s 0 0 0) n w k u p (-1)) (n' := n + 1) (w' := w + 1) (a' := a) (c' := c) (hr' := hr) ?_ (fun h1' H1 => ?_) (uG_0 (eq0_u s 0) _ _ _ _ _ _) ?_ (JX.ofG (eq0_u s 0) W.I.1.2.2.1 (by omega) h2)
            · refine ⟨h8, _, cp, ?_, W8, by omega, by omega⟩
              have e8' : f_X11_makePower h X (Int32.ofNat k) none u p = some (h8, Int32.ofNat w) := e8
              rw [base _ rfl, dt_if (mb_other h u p), decide_eq_false z, if_pos (c := (!false) = true) rfl, rX W, dt_if (mb_roomP W), h4, if_pos rfl, rX W, do_eq e8']
            · show Ok h1' (X + 23) _ _ (f_X12_grant h1' (X + 23) _ _ _)
              rw [eM h1' H1, show CODE = 0 by rw [eC, h0, h1, h2, if_pos (c := (true && true && true) = true) rfl, if_neg z, h4]; rfl]
              refine w_do (w_holds H1 _) (fun h2 H2 => ?_)
              show Ok h2 (X + 23) _ _ (if (1 : Int32) = 0 then _ else _)
              rw [if_neg (by decide), w_rcv H2]
              exact w_do (m_adds H2 (by rw [u2_k _ _ _ _ _ (by decide)]; exact hI.1.1) (by rw [u2_k _ _ _ _ _ (by decide)]; exact hI.1.2.2.1) hn hw hk u p (-1)) (fun h3 H3 => Ok.here H3)
            · rw [uG_O _ _ _ _ _ _ _ (by omega), u2_eq]
end MP
