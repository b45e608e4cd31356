section AC
variable {h g hx : nk_H} {X n w a c hr : Nat} {pa cp : Nat → Nat} {s s' m : Nat → Nat → Int32}
theorem JX.ofA {s t : Nat → Nat → Int32} {n w a c hr : Nat} {code : Int32} (e : eq0 s t) (hI : Inv s n w a c hr) (hn : n < 160) {k r : Nat} (hk : k < 6) (hr9 : r = sN s 30 k) {pe po am : Int32} (h1 : rg pe 10 = true) (hpo : ¬ po < 0) (h3 : wi am 1 10000 = true) : JX s (uA t n w a k r pe po am) code (Int32.ofNat r) := fun N => by
  obtain ⟨n1, n2, n3, n4, n5, n6⟩ := N
  have ha : a ≤ n := hI.1.2.2.2.2.2.2.1
  have e29s : s 29 0 = Int32.ofNat a := hI.1.2.2.2.2.2.1
  have bound : ∀ x, x < 6 → sN s 30 x ≤ a := fun x hx => by
    obtain ⟨z, ez, hz, -⟩ := hI.2.2.2.2.2.1.1 x hx
    rw [sN_of ez (by omega)]; exact hz
  have hra := bound k hk
  unfold uA
  generalize sealA t n a k r pe po am = v5
  generalize b2i (stdA t n w a k r pe po am) = v6
  have ex : ∀ x, (x < 3 ∨ (12 ≤ x ∧ x < 29) ∨ x = 8 ∨ x = 9 ∨ 36 < x) → x ≠ 0 → uAf t n a k r pe po am v5 v6 x = s x := fun x h1 h2 => (uAf_O _ _ _ _ _ _ _ _ _ _ h1).trans (funext fun j => e x j h2)
  have e29 := (uAf_35 t n a k r pe po am v5 v6 0).2.2.1
  have e30 : ∀ y, uAf t n a k r pe po am v5 v6 30 y = if y = k then Int32.ofNat (r + 1) else s 30 y := fun y => by
    unfold uAf
    by_cases z : y = k
    · rw [if_pos z, z, u2_eq]
    · rw [if_neg z, u2_j _ _ _ _ _ z, u2_k _ _ _ _ _ (by decide), u2_k _ _ _ _ _ (by decide), u2_k _ _ _ _ _ (by decide), uA1_O _ _ _ _ _ _ _ _ (by omega), e 30 _ (by decide)]
  have e31 : ∀ y, uAf t n a k r pe po am v5 v6 31 y = if y = 160 * k + r then Int32.ofNat a else s 31 y := fun y => by
    rw [uAf_1 _ _ _ _ _ _ _ _ _ _ (by decide) (by decide) (by decide) (by decide), uA1_31]
    split
    · rfl
    · exact e 31 _ (by decide)
  have e33 : ∀ y, uAf t n a k r pe po am v5 v6 33 y = if y = 6 * a + 5 then s 1 0 else if y = 6 * a + 4 then s 27 0 else if y = 6 * a + 3 then am else if y = 6 * a + 2 then s 28 0 else if y = 6 * a + 1 then po else if y = 6 * a then pe else s 33 y := fun y => by
    rw [uAf_1 _ _ _ _ _ _ _ _ _ _ (by decide) (by decide) (by decide) (by decide), uA1_33, e 1 0 (by decide), e 27 0 (by decide), e 28 0 (by decide), e 33 y (by decide)]
  have s29 : sN (uAf t n a k r pe po am v5 v6) 29 0 = a + 1 := sN_of e29 (by omega)
  have s29' : sN s 29 0 = a := sN_of e29s (by omega)
  refine ⟨⟨?_, fun y hy => ?_, fun j hj => ?_, ?_, ?_, fun x hx i hi => ?_⟩, fun _ => ia_n0 (by omega)⟩
  · rw [ex 2 (by omega) (by decide)]; exact n1
  · rw [s29] at hy
    rw [e33]
    by_cases q : y = a
    · subst q
      rw [if_neg (by omega), if_neg (by omega), if_pos rfl]; exact h3
    · rw [if_neg (by omega), if_neg (by omega), if_neg (by omega), if_neg (by omega), if_neg (by omega), if_neg (by omega)]
      exact n2 y (by omega)
  · rw [e33]
    obtain ⟨⟨ob, eob⟩, ⟨kn, hkn, ekn⟩, -⟩ := hI.2.2.2.2.2.2.2.1
    split
    · rw [hI.1.2.2.2.2.2.2.2.2.2.1]
      exact ia_n0 (by have := hI.1.2.2.2.2.2.2.2.2.2.2; omega)
    · split
      · rw [eob]; cases ob <;> decide
      · split
        · exact wi_nn (by decide) h3
        · split
          · rw [ekn]; exact ia_n0 (by omega)
          · split
            · exact hpo
            · split
              · exact rg_nn h1
              · exact n3 j hj
  · unfold sN at n4 ⊢
    rw [ex 37 (by omega) (by decide), ex 40 (by omega) (by decide), ex 41 (by omega) (by decide), ex 43 (by omega) (by decide)]; exact n4
  · unfold sN at n5 ⊢
    rw [ex 12 (by omega) (by decide), ex 15 (by omega) (by decide)]; exact n5
  · rw [s29]
    have old : ∀ x i, x < 6 → i < sN s 30 x → sN (uAf t n a k r pe po am v5 v6) 31 (160 * x + i) = sN s 31 (160 * x + i) := fun x i hx hi => by
      have := bound x hx
      unfold sN
      rw [e31, if_neg (by
        by_cases q : x = k
        · subst q; omega
        · omega)]
    have s30 : sN (uAf t n a k r pe po am v5 v6) 30 x = if x = k then r + 1 else sN s 30 x := by
      by_cases q : x = k
      · rw [if_pos q]
        exact sN_of (by rw [e30, if_pos q]) (by omega)
      · rw [if_neg q]
        unfold sN
        rw [e30, if_neg q]
    rw [s30] at hi
    by_cases q : x = k
    · rw [if_pos q] at hi
      subst q
      by_cases z : i = r
      · subst z
        have enew : sN (uAf t n a x i pe po am v5 v6) 31 (160 * x + i) = a := sN_of (by rw [e31, if_pos rfl]) (by omega)
        rw [enew]
        refine ⟨by omega, fun i' hi' => ?_⟩
        rw [old x i' hx (by omega), ← s29']
        exact (n6 x hx i' (by omega)).1
      · obtain ⟨m1, m2⟩ := n6 x hx i (by omega)
        rw [old x i hx (by omega)]
        refine ⟨by omega, fun i' hi' => ?_⟩
        rw [old x i' hx (by omega)]
        exact m2 i' hi'
    · rw [if_neg q] at hi
      obtain ⟨m1, m2⟩ := n6 x hx i hi
      rw [old x i hx hi]
      refine ⟨by omega, fun i' hi' => ?_⟩
      rw [old x i' hx (by omega)]
      exact m2 i' hi'
theorem bi_act (W : WR h X n w a c hr pa cp s s) (v u p am : Int32) : BI h X s (f_W_act h (some X) v u p am (some (X + 56))) (fun h1 => f_X12_act h1 (X + 23) v u p am) := by
  have hb := W.b
  have hI := W.I
  have err : ∀ (k : Int32), k ≠ 0 → eacS s n w v u p am = k → ∀ h1, St h1 (X + 23) s → ∃ r, Ok h1 (X + 23) (nk_u2 s 0 0 k) r (f_X12_act h1 (X + 23) v u p am) := fun k hk ek h1 H1 => by
    unfold f_X12_act
    rw [w_rcv H1, do_eq (m_errorOfAct H1 hI v u p am), w_rcv H1, ek]
    refine ⟨0, w_do (w_holds H1 _) (fun h2 H2 => ?_)⟩
    rw [decide_eq_false hk]
    exact Ok.here H2
  unfold f_W_act
  rw [rX W]
  cases h0 : rg v 6 with
  | false =>
    refine BI.errV W (E := nk_IX) (v := 1) ?_ rfl rfl (by decide) (err 1 (by decide) (by unfold eacS; rw [h0]; rfl))
    unfold f_X11_act
    rw [dt_if (mb_kiosk h v), h0]
    exact VOK.thrown W _
  | true =>
    cases h1 : rg u 10 with
    | false =>
      refine BI.errV W (E := nk_IX) (v := 1) ?_ rfl rfl (by decide) (err 1 (by decide) (by unfold eacS; rw [h0, h1]; rfl))
      unfold f_X11_act
      rw [dt_if (mb_kiosk h v), h0, if_pos rfl, dt_if (mb_person h u), h1]
      exact VOK.thrown W _
    | true =>
      cases h2 : rg p w with
      | false =>
        refine BI.errV W (E := nk_IX) (v := 1) ?_ rfl rfl (by decide) (err 1 (by decide) (by unfold eacS; rw [h0, h1, h2]; rfl))
        unfold f_X11_act
        rw [dt_if (mb_kiosk h v), h0, if_pos rfl, dt_if (mb_person h u), h1, if_pos rfl, rX W, dt_if (mb_power W p), h2]
        exact VOK.thrown W _
      | true =>
        cases h3 : wi am 1 10000 with
        | false =>
          refine BI.errV W (E := nk_IA) (v := 2) ?_ rfl rfl (by decide) (err 2 (by decide) (by unfold eacS; rw [h0, h1, h2, h3]; rfl))
          unfold f_X11_act
          rw [dt_if (mb_kiosk h v), h0, if_pos rfl, dt_if (mb_person h u), h1, if_pos rfl, rX W, dt_if (mb_power W p), h2, if_pos rfl, dt_if (mb_within h am 1 10000), h3]
          exact VOK.thrown W _
        | true =>
          cases h4 : decide (n < 160) with
          | false =>
            refine BI.errV W (E := nk_IS) (v := 3) ?_ rfl rfl (by decide) (err 3 (by decide) (by unfold eacS; rw [h0, h1, h2, h3, h4]; rfl))
            unfold f_X11_act
            rw [dt_if (mb_kiosk h v), h0, if_pos rfl, dt_if (mb_person h u), h1, if_pos rfl, rX W, dt_if (mb_power W p), h2, if_pos rfl, dt_if (mb_within h am 1 10000), h3, if_pos rfl, rX W, dt_if (mb_room W), h4]
            exact VOK.thrown W _
          | true =>
            have hn : n < 160 := of_decide_eq_true h4
            have h0' := h0
            have h2' := h2
            obtain ⟨k, rfl, hk⟩ := rg_ex (by decide) h0'
            obtain ⟨q, rfl, hq⟩ := rg_ex (by omega) h2'
            have hN := W.N
            obtain ⟨h5, e5, G5, N5, S5, kd5, d0, d1, d2, d3, d4, d5⟩ := q_deed W (Int32.ofNat k) u am
            have W5 : WR h5 X n w a c hr pa cp s s := W.gn (G5.mono (fun _ z => z.elim) (fun _ => id))
            obtain ⟨h9, e9, S9, hS⟩ := look_read W5.1.1 hI W5.N hk
            have W9 := W5.seen S9
            obtain ⟨p1, p2, p3⟩ := k15 W5
            obtain ⟨q1, q2, q3⟩ := k15 W9
            have S9' := S9
            obtain ⟨z1, z2, z3, z4, z5, z6, z7, z8⟩ := S9
            have kd9 : nk_K h9 (nk_N h) = 11 := by rw [z1]; exact kd5
            have id9 : nk_I h9 (nk_N h) = nk_I h5 (nk_N h) := z8 _ (by omega)
            obtain ⟨⟨ob, eob⟩, ⟨kn, hkn, ekn⟩, -⟩ := hI.2.2.2.2.2.2.2.1
            have hre := q_reason W9.1.1 hI hS hq kd9 (k0 := Int32.ofNat k) (t := s 1 0) (person := u) (amt := am) (off := s 27 0) hkn eob (by rw [id9]; exact d0) (by rw [id9]; exact d1) (by rw [id9]; exact d2) (by rw [id9, d3]; exact ekn) (by rw [id9]; exact d4) (by rw [id9]; exact d5)
            rw [← ekn] at hre
            have ec : eacS s n w (Int32.ofNat k) u (Int32.ofNat q) am = if reasonS s n w (Int32.ofNat k) (Int32.ofNat k) (s 1 0) u q (s 28 0) am (s 27 0) = 0 then 0 else 3 := by
              unfold eacS
              rw [h0, h1, h2, h3, h4, ia_nn (n := q) (by omega)]; rfl
            have base : ∀ R, ((if reasonS s n w (Int32.ofNat k) (Int32.ofNat k) (s 1 0) u q (s 28 0) am (s 27 0) = 0 then ((some (nk_al h9 8 0 11)).bind fun h35 => (nk_do (f_X0_init h35 (nk_N h9) (some (pw s pa q)) (some (nk_N h))) fun h36 x37 => ((nk_gP [18] 1 h36 (some X)).bind fun x38 => ((nk_gI [18] 5 h36 (some X)).bind fun x39 => ((nk_rcv [15] h36 x38).bind fun a40 => nk_do (f_X7_publish h36 a40 (some (nk_N h9)) (Int32.ofNat k) x39) fun h41 x42 => ((nk_rcv [18] h41 (some X)).bind fun a43 => nk_do (f_X11_reasonByMail h41 a43 (some (nk_N h9))) fun h44 x45 => (if x45 = 0 then (f_X11_act_c125 h44 X (Int32.ofNat k) (some (nk_N h9)) 1 (some (nk_N h9))) else (f_X11_act_c125 h44 X (Int32.ofNat k) (some (nk_N h9)) 0 (some (nk_N h9)))))))))) else some (nk_al h9 0 0 6, .inr "java/lang/IllegalStateException")) : Option (nk_H × (Int32 ⊕ String))) = R → f_X11_act h X (Int32.ofNat k) u (Int32.ofNat q) am = R := fun R e => by
              unfold f_X11_act
              rw [dt_if (mb_kiosk h _), h0, if_pos rfl, dt_if (mb_person h u), h1, if_pos rfl, rX W, dt_if (mb_power W _), h2, if_pos rfl, dt_if (mb_within h am 1 10000), h3, if_pos rfl, rX W, dt_if (mb_room W), h4, if_pos rfl, to_power W hq, rX W, do_eq e5, rd_P [18] p3 p1, rd_r [15] p2, do_eq e9, rd_P [18] q3 q1, rd_r [15] q2, do_eq hre]
              exact e
            by_cases z : reasonS s n w (Int32.ofNat k) (Int32.ofNat k) (s 1 0) u q (s 28 0) am (s 27 0) = 0
            · obtain ⟨h10, e10, W10, b10, t10⟩ := q_act W9 hn (d := nk_N h) hk (r := sN s 30 k) rfl hq u am (by rw [z4]; exact N5) hN kd9 (by rw [id9]; exact d0) (by rw [id9]; exact d1) (by rw [id9]; exact d2) (by rw [id9]; exact d3) (by rw [id9]; exact d4) (by rw [id9]; exact d5)
              refine BI.okV (v := Int32.ofNat (sN s 30 k)) (s' := uA s n w a k (sN s 30 k) u (Int32.ofNat q) am) (s2 := uA (nk_u2 s 0 0 0) n w a k (sN s 30 k) u (Int32.ofNat q) am) (n' := n + 1) (w' := w) (a' := a + 1) (c' := c) (hr' := hr) ?_ (fun h1' H1 => ?_) (uA_e (eq0_u s 0) _ _ _ _ _ _ _ _) ?_ (JX.ofA (eq0_u s 0) hI hn hk rfl h1 (ia_n0 (by omega)) h3)
              · refine ⟨h10, _, cp, ?_, W10, by omega, by omega⟩
                rw [base _ rfl, if_pos z]
                exact e10
              · exact m_actOk H1 hI hn hk rfl hq u am (by rw [ec, if_pos z])
              · unfold uA
                rw [uAf_O _ _ _ _ _ _ _ _ _ _ (by omega), u2_eq]
            · refine BI.errV W (E := nk_IS) (v := 3) ?_ rfl rfl (by decide) (err 3 (by decide) (by rw [ec, if_neg z]))
              rw [base _ rfl, if_neg z]
              exact ⟨nk_al h9 0 0 6, pa, cp, rfl, W9.al 0 0 6, by rw [nk_N_al]; omega, by rw [nk_S_al]; omega⟩
end AC
