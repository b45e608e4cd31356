section MP
variable {h h' g : nk_H} {X n w a c hr : Nat} {pa pa' cp : Nat → Nat} {s s' s2 m : Nat → Nat → Int32}
/-- whether the draft is within a power -/
def covB (s : Nat → Nat → Int32) (q : Nat) : Bool := decide ((s 22 0 &&& (s 17 q ^^^ (-1))) = 0) && !decide (s 18 q < s 23 0) && !decide (s 19 q < s 24 0) && !decide (s 20 q < s 1 0 + s 25 0) && !decide (s 21 q ≤ s 26 0)
theorem covB_0 (e : eq0 s s') : covB s' = covB s := by
  funext q
  unfold covB
  rw [e.f 22 (by decide), e.f 17 (by decide), e.f 18 (by decide), e.f 23 (by decide), e.f 19 (by decide), e.f 24 (by decide), e.f 20 (by decide), e.f 1 (by decide), e.f 25 (by decide), e.f 21 (by decide), e.f 26 (by decide)]
theorem q_covers (W : WR h X n w a c hr pa cp s m) {q d : Nat} (hq : q < w) (hd : nk_P h X 6 = some d) : f_X9_covers h (pw s pa q) (some d) (s 1 0) = some (h, b2i (covB s q)) := by
  obtain ⟨d', e1, e2, -, e3, f0, f1, f2, f3, f4⟩ := W.1.2.2.1
  rw [hd] at e1
  cases e1
  have k13 : nk_K h d ∈ [13] := by rw [e3]; decide
  have k16 : nk_K h (pw s pa q) ∈ [16] := by rw [pw_K W.1.1 W.I hq]; decide
  obtain ⟨-, -, -, -, w10, w11, w12, w13, w14⟩ := W.1.1.2.2.2.2.2.1 q hq
  unfold f_X9_covers f_X9_covers_c64 f_X9_covers_c65 covB
  rw [rd_I [13] k13 f0, rd_I [16] k16 w10]
  by_cases z1 : (s 22 0 &&& (s 17 q ^^^ (-1))) = 0
  · rw [if_pos z1, decide_eq_true z1, rd_I [13] k13 f1, rd_I [16] k16 w11]
    by_cases z2 : s 18 q < s 23 0
    · rw [if_pos z2, decide_eq_true z2]; rfl
    · rw [if_neg z2, decide_eq_false z2, rd_I [13] k13 f2, rd_I [16] k16 w12]
      by_cases z3 : s 19 q < s 24 0
      · rw [if_pos z3, decide_eq_true z3]; rfl
      · rw [if_neg z3, decide_eq_false z3, rd_I [13] k13 f3, rd_I [16] k16 w13]
        by_cases z4 : s 20 q < s 1 0 + s 25 0
        · rw [if_pos z4, decide_eq_true z4]; rfl
        · rw [if_neg z4, decide_eq_false z4, rd_I [13] k13 f4, rd_I [16] k16 w14]
          by_cases z5 : s 21 q ≤ s 26 0
          · rw [if_pos z5, decide_eq_true z5]; rfl
          · rw [if_neg z5, decide_eq_false z5]; rfl
  · rw [if_neg z1, decide_eq_false z1]; rfl
theorem m_isWithin {M : Nat} (H : St h M s) {q : Nat} (hq : q < 40) : f_X12_isWithin h M (Int32.ofNat q) = some (h, b2i (covB s q)) := by
  unfold f_X12_isWithin f_X12_isWithin_c46 f_X12_isWithin_c47 f_X12_isWithin_c87 f_X12_isWithin_c88 covB
  rw [w_gI H 22, w_gP H 17, w_aI H 17 (by show q < 40; omega)]
  by_cases z1 : (s 22 0 &&& (s 17 q ^^^ (-1))) = 0
  · rw [if_pos z1, decide_eq_true z1, w_gI H 23, w_gP H 18, w_aI H 18 (by show q < 40; omega)]
    by_cases z2 : s 18 q < s 23 0
    · rw [if_pos z2, decide_eq_true z2]; rfl
    · rw [if_neg z2, decide_eq_false z2, w_gI H 24, w_gP H 19, w_aI H 19 (by show q < 40; omega)]
      by_cases z3 : s 19 q < s 24 0
      · rw [if_pos z3, decide_eq_true z3]; rfl
      · rw [if_neg z3, decide_eq_false z3, if_neg (by decide), w_gI H 1, w_gI H 25, w_gP H 20, w_aI H 20 (by show q < 40; omega)]
        by_cases z4 : s 20 q < s 1 0 + s 25 0
        · rw [if_pos z4, decide_eq_true z4]; rfl
        · rw [if_neg z4, decide_eq_false z4, w_gI H 26, w_gP H 21, w_aI H 21 (by show q < 40; omega)]
          by_cases z5 : s 21 q ≤ s 26 0
          · rw [if_pos z5, decide_eq_true z5]; rfl
          · rw [if_neg z5, decide_eq_false z5]; rfl
  · rw [if_neg z1, decide_eq_false z1]; rfl
def epaS (s : Nat → Nat → Int32) (n w : Nat) (v u p : Int32) : Int32 := if (rg v 6 && rg u w && rg p 10) = true then (if (!decide (s 15 u.toNatClampNeg = p) && covB s u.toNatClampNeg) = true then (if (decide (w < 40) && decide (n < 160) && goodB s n w v u.toNatClampNeg) = true then 0 else 3) else 2) else 1
theorem m_errorOfPassOn {M : Nat} (H : St h M s) (hI : Inv s n w a c hr) (v u p : Int32) : f_X12_errorOfPassOn h M v u p = some (h, epaS s n w v u p) := by
  have hw := hI.1.2.2.2.1
  have hI1 : Inv (nm h M) n w a c hr := by rw [H.2]; exact hI
  unfold f_X12_errorOfPassOn f_X12_errorOfPassOn_c22 f_X12_errorOfPassOn_c42 f_X12_errorOfPassOn_c62 f_X12_errorOfPassOn_c67 epaS
  rw [do_eq (m_isKiosk h v), ite_b]
  cases h0 : rg v 6 with
  | false => rfl
  | true =>
    rw [if_pos rfl, w_rcv H, do_eq (m_isPower H hI.1.2.2.1 hw u), ite_b]
    cases h1 : rg u w with
    | false => rfl
    | true =>
      rw [if_pos rfl, do_eq (m_isPerson h p), ite_b]
      cases h2 : rg p 10 with
      | false => rfl
      | true =>
        obtain ⟨k, rfl, hk⟩ := rg_ex (by decide) h0
        obtain ⟨q, rfl, hq⟩ := rg_ex (by omega) h1
        have gg := m_goodAt H.1 hI1 (by_k (n := n) hk) hq
        rw [H.2] at gg
        rw [if_pos rfl, w_gP H 15, w_aI H 15 (by show q < 40; omega), ia_nn (n := q) (by omega)]
        by_cases z1 : s 15 q = p
        · rw [if_pos z1, decide_eq_true z1]; rfl
        · rw [if_neg z1, decide_eq_false z1, w_rcv H, do_eq (m_isWithin H (by omega)), ite_b]
          cases covB s q with
          | false => rfl
          | true =>
            rw [if_pos rfl, w_rcv H, do_eq (m_isFull H hI)]
            cases (decide (w < 40) && decide (n < 160)) with
            | false => rfl
            | true =>
              rw [show b2i (!true) = 0 from rfl, if_pos rfl, w_rcv H, do_eq gg, ite_b]
              show _ = some (h, if goodB s n w (Int32.ofNat k) q = true then 0 else 3)
              unfold goodB
              cases (knownB s w (Int32.ofNat k) q && !revB s n w (Int32.ofNat k) q && !overB s w q (s 1 0)) <;> rfl
theorem bi_passOn (W : WR h X n w a c hr pa cp s s) (v u p : Int32) : BI h X s (f_W_passOn h (some X) v u p (some (X + 56))) (fun h1 => f_X12_passOn h1 (X + 23) v u p) := by
  have hb := W.b
  have hI := W.I
  have eM : ∀ h1, St h1 (X + 23) s → f_X12_passOn h1 (X + 23) v u p = nk_do (f_X12_holds h1 (X + 23) (epaS s n w v u p)) (fun h5 x6 => (if x6 = 0 then (f_X12_passOn_c31 h5 0) else ((nk_gP [19] 15 h5 (some (X + 23))).bind fun x7 => ((nk_aI 1 h5 x7 u).bind fun x8 => ((nk_rcv [19] h5 (some (X + 23))).bind fun a9 => nk_do (f_X12_adds h5 a9 v x8 p u) fun h10 x11 => (f_X12_passOn_c31 h10 x11)))))) := fun h1 H1 => by
    unfold f_X12_passOn
    rw [w_rcv H1, do_eq (m_errorOfPassOn H1 hI v u p), w_rcv H1]
  have err : ∀ (k : Int32), k ≠ 0 → epaS s n w v u p = k → ∀ h1, St h1 (X + 23) s → ∃ r, Ok h1 (X + 23) (nk_u2 s 0 0 k) r (f_X12_passOn h1 (X + 23) v u p) := fun k hk ek h1 H1 => by
    rw [eM h1 H1, ek]
    refine ⟨0, w_do (w_holds H1 _) (fun h2 H2 => ?_)⟩
    rw [decide_eq_false hk]
    exact Ok.here H2
  unfold f_W_passOn
  rw [rX W]
  cases h0 : rg v 6 with
  | false =>
    refine BI.errV W (E := nk_IX) (v := 1) ?_ rfl rfl (by decide) (err 1 (by decide) (by unfold epaS; rw [h0]; rfl))
    unfold f_X11_passOn
    rw [dt_if (mb_kiosk h v), h0]
    exact VOK.thrown W _
  | true =>
    cases h1 : rg u w with
    | false =>
      refine BI.errV W (E := nk_IX) (v := 1) ?_ rfl rfl (by decide) (err 1 (by decide) (by unfold epaS; rw [h0, h1]; rfl))
      unfold f_X11_passOn
      rw [dt_if (mb_kiosk h v), h0, if_pos rfl, rX W, dt_if (mb_power W u), h1]
      exact VOK.thrown W _
    | true =>
      cases h2 : rg p 10 with
      | false =>
        refine BI.errV W (E := nk_IX) (v := 1) ?_ rfl rfl (by decide) (err 1 (by decide) (by unfold epaS; rw [h0, h1, h2]; rfl))
        unfold f_X11_passOn
        rw [dt_if (mb_kiosk h v), h0, if_pos rfl, rX W, dt_if (mb_power W u), h1, if_pos rfl, dt_if (mb_person h p), h2]
        exact VOK.thrown W _
      | true =>
        have h0' := h0
        have h1' := h1
        obtain ⟨k, rfl, hk⟩ := rg_ex (by decide) h0'
        obtain ⟨q, rfl, hq⟩ := rg_ex (by omega) h1'
        have eC : epaS s n w (Int32.ofNat k) (Int32.ofNat q) p = (if (!decide (s 15 q = p) && covB s q) = true then (if (decide (w < 40) && decide (n < 160) && goodB s n w (Int32.ofNat k) q) = true then 0 else 3) else 2) := by
          unfold epaS
          rw [h0, h1, h2, ia_nn (n := q) (by omega)]; rfl
        have k16 : nk_K h (pw s pa q) ∈ [16] := by rw [pw_K W.1.1 W.I hq]; decide
        obtain ⟨-, -, -, w9, -⟩ := W.1.1.2.2.2.2.2.1 q hq
        obtain ⟨d, d1, -⟩ := W.1.2.2.1
        obtain ⟨p1, p2, p3⟩ := k15 W
        have base : ∀ R, nk_dt (f_X11_mustBeOtherPerson h (s 15 q) p) (fun h14 x15 => ((nk_gP [18] 6 h14 (some X)).bind fun x16 => ((nk_gI [18] 5 h14 (some X)).bind fun x17 => ((nk_rcv [16] h14 (some (pw s pa q))).bind fun a18 => nk_do (f_X9_covers h14 a18 x16 x17) fun h19 x20 => (if x20 = 0 then some (nk_al h19 0 0 6, .inr "java/lang/IllegalArgumentException") else ((nk_rcv [18] h19 (some X)).bind fun a21 => nk_dt (f_X11_mustHaveRoomForPower h19 a21) fun h22 x23 => ((nk_rcv [18] h22 (some X)).bind fun a24 => nk_do (f_X11_isGoodAt h22 a24 (Int32.ofNat k) (some (pw s pa q))) fun h25 x26 => (if x26 = 0 then some (nk_al h25 0 0 6, .inr "java/lang/IllegalStateException") else ((nk_gI [16] 9 h25 (some (pw s pa q))).bind fun x27 => ((nk_rcv [18] h25 (some X)).bind fun a28 => nk_do (f_X11_makePower h25 a28 (Int32.ofNat k) (some (pw s pa q)) x27 p) fun h29 x30 => some (h29, (.inl x30)))))))))))) = R → f_X11_passOn h X (Int32.ofNat k) (Int32.ofNat q) p = R := fun R e => by
          unfold f_X11_passOn
          rw [dt_if (mb_kiosk h _), h0, if_pos rfl, rX W, dt_if (mb_power W _), h1, if_pos rfl, dt_if (mb_person h p), h2, if_pos rfl, to_power W hq, rd_I [16] k16 w9]
          exact e
        by_cases z1 : s 15 q = p
        · refine BI.errV W (E := nk_IA) (v := 2) ?_ rfl rfl (by decide) (err 2 (by decide) (by rw [eC, decide_eq_true z1]; rfl))
          rw [base _ rfl, dt_if (mb_other h _ p), decide_eq_true z1]
          exact VOK.thrown W _
        · cases h3 : covB s q with
          | false =>
            refine BI.errV W (E := nk_IA) (v := 2) ?_ rfl rfl (by decide) (err 2 (by decide) (by rw [eC, decide_eq_false z1, h3]; rfl))
            rw [base _ rfl, dt_if (mb_other h _ p), decide_eq_false z1, if_pos (c := (!false) = true) rfl, rd_P [18] p3 d1, rd_I [18] p3 W.1.2.1.1, rd_r [16] k16, do_eq (q_covers W hq d1), h3]
            exact VOK.thrown W _
          | true =>
            cases h4 : (decide (w < 40) && decide (n < 160)) with
            | false =>
              refine BI.errV W (E := nk_IS) (v := 3) ?_ rfl rfl (by decide) (err 3 (by decide) (by rw [eC, decide_eq_false z1, h3, h4]; rfl))
              rw [base _ rfl, dt_if (mb_other h _ p), decide_eq_false z1, if_pos (c := (!false) = true) rfl, rd_P [18] p3 d1, rd_I [18] p3 W.1.2.1.1, rd_r [16] k16, do_eq (q_covers W hq d1), h3, if_neg (by decide), rX W, dt_if (mb_roomP W), h4]
              exact VOK.thrown W _
            | true =>
              have h4' := h4
              rw [Bool.and_eq_true] at h4'
              have hw : w < 40 := of_decide_eq_true h4'.1
              have hn : n < 160 := of_decide_eq_true h4'.2
              obtain ⟨h9, e9, S⟩ := q_goodAt W hk hq
              have W2 := W.seen S
              cases h5 : goodB s n w (Int32.ofNat k) q with
              | false =>
                refine BI.errV W (E := nk_IS) (v := 3) ?_ rfl rfl (by decide) (err 3 (by decide) (by rw [eC, decide_eq_false z1, h3, h4, h5]; rfl))
                rw [base _ rfl, dt_if (mb_other h _ p), decide_eq_false z1, if_pos (c := (!false) = true) rfl, rd_P [18] p3 d1, rd_I [18] p3 W.1.2.1.1, rd_r [16] k16, do_eq (q_covers W hq d1), h3, if_neg (by decide), rX W, dt_if (mb_roomP W), h4, if_pos rfl, rX W, do_eq e9, h5]
                exact VOK.seenX W S _
              | true =>
                obtain ⟨h8, e8, W8, b8, d8⟩ := q_makePower W2 hn hw hk (some q) (fun r e => by cases e; exact hq) (s 15 q) p
                have e8' : f_X11_makePower h9 X (Int32.ofNat k) (some (pw s pa q)) (s 15 q) p = some (h8, Int32.ofNat w) := e8
                refine BI.okV (v := Int32.ofNat w) (s' := uG s n w k (s 15 q) p (Int32.ofNat q)) (s2 := uG (nk_u2 s 0 0 0) n w k (s 15 q) p (Int32.ofNat q)) (n' := n + 1) (w' := w + 1) (a' := a) (c' := c) (hr' := hr) ?_ (fun h1' H1 => ?_) (uG_0 (eq0_u s 0) _ _ _ _ _ _) ?_ (JX.ofG (eq0_u s 0) W.I.1.2.2.1 (by omega) h2)
                · refine ⟨h8, _, cp, ?_, W8, ?_, ?_⟩
                  · have k16' : nk_K h9 (pw s pa q) ∈ [16] := by rw [pw_K W2.1.1 W2.I hq]; decide
                    rw [base _ rfl, dt_if (mb_other h _ p), decide_eq_false z1, if_pos (c := (!false) = true) rfl, rd_P [18] p3 d1, rd_I [18] p3 W.1.2.1.1, rd_r [16] k16, do_eq (q_covers W hq d1), h3, if_neg (by decide), rX W, dt_if (mb_roomP W), h4, if_pos rfl, rX W, do_eq e9, h5, if_neg (by decide), rd_I [16] k16' (W2.1.1.2.2.2.2.2.1 q hq).2.2.2.1, rX W2, do_eq e8']
                  · rw [S.2.2.2.1] at b8; omega
                  · rw [S.2.2.2.2.1] at d8; omega
                · show Ok h1' (X + 23) _ _ (f_X12_passOn h1' (X + 23) _ _ _)
                  rw [eM h1' H1, show epaS s n w (Int32.ofNat k) (Int32.ofNat q) p = 0 by rw [eC, decide_eq_false z1, h3, h4, h5]; rfl]
                  refine w_do (w_holds H1 _) (fun h2 H2 => ?_)
                  show Ok h2 (X + 23) _ _ (if (1 : Int32) = 0 then _ else _)
                  rw [if_neg (by decide), w_gP H2 15, w_aI H2 15 (by show q < 40; omega), u2_k s 0 0 0 _ (by decide), w_rcv H2]
                  exact w_do (m_adds H2 (by rw [u2_k _ _ _ _ _ (by decide)]; exact hI.1.1) (by rw [u2_k _ _ _ _ _ (by decide)]; exact hI.1.2.2.1) hn hw hk (s 15 q) p (Int32.ofNat q)) (fun h3 H3 => Ok.here H3)
                · rw [uG_O _ _ _ _ _ _ _ (by omega), u2_eq]
end MP
