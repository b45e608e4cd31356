section MP
variable {h h' g : nk_H} {X n w a c hr : Nat} {pa pa' cp : Nat → Nat} {s s' s2 m : Nat → Nat → Int32}
theorem bi_revoke (W : WR h X n w a c hr pa cp s s) (v u p : Int32) : BI h X s (f_W_revoke h (some X) v u p (some (X + 56))) (fun h1 => f_X12_revoke h1 (X + 23) v u p) := by
  have hb := W.b
  have hI := W.I
  have eM : ∀ h1, St h1 (X + 23) s → f_X12_revoke h1 (X + 23) v u p = nk_do (f_X12_holds h1 (X + 23) (if (rg v 6 && rg u 10 && rg p w) = true then (if giverB s w p.toNatClampNeg u = true then (if decide (n < 160) = true then (if (knownB s w v p.toNatClampNeg && !revB s n w v p.toNatClampNeg) = true then 0 else 3) else 3) else 2) else 1)) (fun h5 x6 => if x6 = 0 then f_X12_revoke_c25 h5 0 else ((nk_rcv [19] h5 (some (X + 23))).bind fun a7 => nk_do (f_X12_makes h5 a7 v 1 p) fun h8 x9 => f_X12_revoke_c25 h8 x9)) := fun h1 H1 => by
    unfold f_X12_revoke
    rw [w_rcv H1, do_eq (m_errorOfRevoke H1 hI v u p), w_rcv H1]
  have err : ∀ (k : Int32), k ≠ 0 → (if (rg v 6 && rg u 10 && rg p w) = true then (if giverB s w p.toNatClampNeg u = true then (if decide (n < 160) = true then (if (knownB s w v p.toNatClampNeg && !revB s n w v p.toNatClampNeg) = true then 0 else 3) else 3) else 2) else 1) = k → ∀ h1, St h1 (X + 23) s → ∃ r, Ok h1 (X + 23) (nk_u2 s 0 0 k) r (f_X12_revoke h1 (X + 23) v u p) := fun k hk ek h1 H1 => by
    rw [eM h1 H1, ek]
    refine ⟨0, w_do (w_holds H1 _) (fun h2 H2 => ?_)⟩
    rw [decide_eq_false hk]
    exact Ok.here H2
  unfold f_W_revoke
  rw [rX W]
  cases h0 : rg v 6 with
  | false =>
    refine BI.errV W (E := nk_IX) (v := 1) ?_ rfl rfl (by decide) (err 1 (by decide) (by rw [h0]; rfl))
    unfold f_X11_revoke
    rw [dt_if (mb_kiosk h v), h0]
    exact VOK.thrown W _
  | true =>
    cases h1 : rg u 10 with
    | false =>
      refine BI.errV W (E := nk_IX) (v := 1) ?_ rfl rfl (by decide) (err 1 (by decide) (by rw [h0, h1]; rfl))
      unfold f_X11_revoke
      rw [dt_if (mb_kiosk h v), h0, if_pos rfl, dt_if (mb_person h u), h1]
      exact VOK.thrown W _
    | true =>
      cases h2 : rg p w with
      | false =>
        refine BI.errV W (E := nk_IX) (v := 1) ?_ rfl rfl (by decide) (err 1 (by decide) (by rw [h0, h1, h2]; rfl))
        unfold f_X11_revoke
        rw [dt_if (mb_kiosk h v), h0, if_pos rfl, dt_if (mb_person h u), h1, if_pos rfl, rX W, dt_if (mb_power W p), h2]
        exact VOK.thrown W _
      | true =>
        have h0' := h0
        have h2' := h2
        obtain ⟨k, rfl, hk⟩ := rg_ex (by decide) h0'
        obtain ⟨q, rfl, hq⟩ := rg_ex (by omega) h2'
        rw [ia_nn (n := q) (by omega), h0, h1, h2] at eM err
        cases h3 : giverB s w q u with
        | false =>
          refine BI.errV W (E := nk_IA) (v := 2) ?_ rfl rfl (by decide) (err 2 (by decide) (by rw [h3]; rfl))
          unfold f_X11_revoke
          rw [dt_if (mb_kiosk h _), h0, if_pos rfl, dt_if (mb_person h u), h1, if_pos rfl, rX W, dt_if (mb_power W _), h2, if_pos rfl, to_power W hq, rd_r [16] (by rw [pw_K W.1.1 hI hq]; decide), do_eq (q_giver W.1.1 hI hq u), h3]
          exact VOK.thrown W _
        | true =>
          cases h4 : decide (n < 160) with
          | false =>
            refine BI.errV W (E := nk_IS) (v := 3) ?_ rfl rfl (by decide) (err 3 (by decide) (by rw [h3, h4]; rfl))
            unfold f_X11_revoke
            rw [dt_if (mb_kiosk h _), h0, if_pos rfl, dt_if (mb_person h u), h1, if_pos rfl, rX W, dt_if (mb_power W _), h2, if_pos rfl, to_power W hq, rd_r [16] (by rw [pw_K W.1.1 hI hq]; decide), do_eq (q_giver W.1.1 hI hq u), h3, if_neg (by decide), rX W, dt_if (mb_room W), h4]
            exact VOK.thrown W _
          | true =>
            have hn : n < 160 := of_decide_eq_true h4
            obtain ⟨p1, p2, p3⟩ := k15 W
            obtain ⟨h9, e1, S, hS⟩ := look_read W.1.1 hI W.N hk
            have W2 := W.seen S
            obtain ⟨q1, q2, q3⟩ := k15 W2
            have base : ∀ R, (((nk_gP [18] 1 h9 (some X)).bind fun x23 => ((nk_rcv [15] h9 x23).bind fun a24 => nk_do (f_X7_knows h9 a24 (some (pw s pa q))) fun h25 x26 => (if x26 = 0 then (f_X11_revoke_c81 h25) else ((nk_gP [18] 1 h25 (some X)).bind fun x27 => ((nk_rcv [15] h25 x27).bind fun a28 => nk_do (f_X7_revokes h25 a28 (some (pw s pa q))) fun h29 x30 => (if x30 = 0 then ((nk_gP [18] 1 h29 (some X)).bind fun x31 => ((some (nk_al h29 17 0 7)).bind fun h32 => (nk_do (f_X10_init h32 (nk_N h29) (some (pw s pa q))) fun h33 x34 => ((nk_gI [18] 5 h33 (some X)).bind fun x35 => ((nk_rcv [15] h33 x31).bind fun a36 => nk_do (f_X7_publish h33 a36 (some (nk_N h29)) (Int32.ofNat k) x35) fun h37 x38 => some (h37, (.inl x38))))))) else (f_X11_revoke_c81 h29))))))) : Option (nk_H × (Int32 ⊕ String))) = R → f_X11_revoke h X (Int32.ofNat k) u (Int32.ofNat q) = R := fun R e => by
              unfold f_X11_revoke
              rw [dt_if (mb_kiosk h _), h0, if_pos rfl, dt_if (mb_person h u), h1, if_pos rfl, rX W, dt_if (mb_power W _), h2, if_pos rfl, to_power W hq, rd_r [16] (by rw [pw_K W.1.1 hI hq]; decide), do_eq (q_giver W.1.1 hI hq u), h3, if_neg (by decide), rX W, dt_if (mb_room W), h4, if_pos rfl, rd_P [18] p3 p1, rd_r [15] p2, do_eq e1]
              exact e
            cases h5 : knownB s w (Int32.ofNat k) q with
            | false =>
              refine BI.errV W (E := nk_IS) (v := 3) ?_ rfl rfl (by decide) (err 3 (by decide) (by rw [h3, h4, h5]; rfl))
              rw [base _ rfl, rd_P [18] q3 q1, rd_r [15] q2, do_eq (q_known W2.1.1 hI hS hq), h5]
              exact VOK.seenX W S _
            | true =>
              cases h6 : revB s n w (Int32.ofNat k) q with
              | true =>
                refine BI.errV W (E := nk_IS) (v := 3) ?_ rfl rfl (by decide) (err 3 (by decide) (by rw [h3, h4, h5, h6]; rfl))
                rw [base _ rfl, rd_P [18] q3 q1, rd_r [15] q2, do_eq (q_known W2.1.1 hI hS hq), h5, if_neg (by decide), rd_P [18] q3 q1, rd_r [15] q2, do_eq (q_rev W2.1.1 hI hS hq), h6]
                exact VOK.seenX W S _
              | false =>
                have N2 := W2.N
                have k17 : nk_K (nk_al h9 17 0 7) (nk_N h9) = 17 := al_K h9 17 0 7
                obtain ⟨g, eg, Gg, Pg, Kg, Lg, Ig, Ng, Sg⟩ := pc_init (h := nk_al h9 17 0 7) (p := nk_N h9) (by rw [k17]; decide) (by rw [nk_N_al]; omega)
                have Na : nk_N (nk_al h9 17 0 7) = nk_N h9 + 1 := rfl
                rw [Na] at Pg Kg Lg Ig Ng
                have kgp : nk_K g (nk_N h9) = 17 := (Gg.2.2.2 _ (by omega)).1.trans k17
                have G0 : Gn h9 (nk_sP g (nk_N h9) 6 (some (pw s pa q))) no no := (((Gn.refl h9 no no).al 17 0 7).on Gg (fun x z => z.elim) (fun x z => Or.inr (by omega))).sP 6 _ (Or.inr (Nat.le_refl _))
                have u4 := uMk_4 s n k 1 (Int32.ofNat q)
                have u7 := uMk_7 s n k 1 (Int32.ofNat q)
                obtain ⟨h8, e8, W8, b8, d8⟩ := pub_12 (s' := uMk s n k 1 (Int32.ofNat q)) (g := nk_sP g (nk_N h9) 6 (some (pw s pa q))) (p := nk_N h9) (k := k) W2 rfl G0 (by rw [nk_N_sP, Ng]) (by rw [nk_S_sP, Sg, nk_S_al]; omega) (by rw [u4]; exact kgp) (by rw [nk_P_sP, nk_u2_nk _ _ _ _ _ (by decide), Pg]; rfl) Kg Lg Ig (by
                  rw [nk_I_sP, (Gg.2.2.2 _ (by omega)).2.2.2 id, nk_I_al, nk_u1_eq]) hn hk (uMk_F hI hn hk _ _) (uMk_3 _ _ _ _ _) (fun x _ hx => uMk_O _ _ _ _ _ (by omega)) (fun _ => by
                    rw [nk_P_sP, nk_u2_eq, sN_of u7 (by omega)]) (fun e => by rw [u4] at e; exact absurd e (by decide)) (Or.inl ⟨u4, q, hq, u7⟩)
                refine BI.okV (v := Int32.ofNat n) (s' := uMk s n k 1 (Int32.ofNat q)) (s2 := uMk (nk_u2 s 0 0 0) n k 1 (Int32.ofNat q)) (n' := n + 1) (w' := w) (a' := a) (c' := c) (hr' := hr) ?_ (fun h1' H1 => ?_) (uMk_0 (eq0_u s 0) _ _ _ _) ?_ (JX.of (eq0_u s 0) (fun x hx => uMk_O _ _ _ _ _ (by unfold nxf at hx; omega)) (fun _ => ia_n0 (by omega)))
                · refine ⟨h8, _, cp, ?_, W8, ?_, ?_⟩
                  · rw [base _ rfl, rd_P [18] q3 q1, rd_r [15] q2, do_eq (q_known W2.1.1 hI hS hq), h5, if_neg (by decide), rd_P [18] q3 q1, rd_r [15] q2, do_eq (q_rev W2.1.1 hI hS hq), h6, b2i_false, if_pos rfl, rd_P [18] q3 q1, Option.bind_some]
                    unfold f_X10_init
                    have gX : nk_K g X = nk_K h9 X ∧ nk_I g X = nk_I h9 X := by
                      have := (((Gn.refl h9 no no).al 17 0 7).on Gg (fun x z => z.elim) (fun x z => Or.inr (by omega))).2.2.2 X (by omega)
                      exact ⟨this.1, this.2.2.2 id⟩
                    have g4 : nk_K g (X + 4) = nk_K h9 (X + 4) := (((Gn.refl h9 no no).al 17 0 7).on Gg (fun x z => z.elim) (fun x z => Or.inr (by omega))).2.2.2 (X + 4) (by omega) |>.1
                    rw [do_eq eg, wr_P [17] 6 _ (by rw [kgp]; decide), do_s, rd_I (h := nk_sP g (nk_N h9) 6 (some (pw s pa q))) (v := s 1 0) [18] (by rw [nk_K_sP, gX.1]; exact q3) (by rw [nk_I_sP, gX.2]; exact W2.1.2.1.1), rd_r (h := nk_sP g (nk_N h9) 6 (some (pw s pa q))) [15] (by rw [nk_K_sP, g4]; exact q2), do_eq e8]
                  · rw [S.2.2.2.1] at b8; omega
                  · rw [S.2.2.2.2.1] at d8; omega
                · show Ok h1' (X + 23) _ _ (f_X12_revoke h1' (X + 23) _ _ _)
                  rw [eM h1' H1, h3, h4, h5, h6]
                  refine w_do (w_holds H1 _) (fun h2 H2 => ?_)
                  show Ok h2 (X + 23) _ _ (if (1 : Int32) = 0 then _ else _)
                  rw [if_neg (by decide), w_rcv H2]
                  exact w_do (w_makes H2 (by rw [u2_k _ _ _ _ _ (by decide)]; exact hI.1.1) hn hk _ _) (fun h3 H3 => Ok.here H3)
                · rw [uMk_O _ _ _ _ _ (by omega), u2_eq]
end MP
