def uD (s : Nat → Nat → Int32) (v1 v2 v3 v4 v5 : Int32) : Nat → Nat → Int32 := nk_u2 (nk_u2 (nk_u2 (nk_u2 (nk_u2 s 22 0 v1) 23 0 v2) 24 0 v3) 25 0 v4) 26 0 v5
section FX
variable {h h' : nk_H} {X n w a c hr : Nat} {pa cp : Nat → Nat} {s s' m : Nat → Nat → Int32}
theorem uD_k (s : Nat → Nat → Int32) (v1 v2 v3 v4 v5 : Int32) {k : Nat} (hk : ¬ (22 ≤ k ∧ k ≤ 26)) : uD s v1 v2 v3 v4 v5 k = s k := by
  funext j
  unfold uD
  rw [u2_k _ _ _ _ _ (by omega), u2_k _ _ _ _ _ (by omega), u2_k _ _ _ _ _ (by omega), u2_k _ _ _ _ _ (by omega), u2_k _ _ _ _ _ (by omega)]
theorem uD_v (s : Nat → Nat → Int32) (v1 v2 v3 v4 v5 : Int32) : uD s v1 v2 v3 v4 v5 22 0 = v1 ∧ uD s v1 v2 v3 v4 v5 23 0 = v2 ∧ uD s v1 v2 v3 v4 v5 24 0 = v3 ∧ uD s v1 v2 v3 v4 v5 25 0 = v4 ∧ uD s v1 v2 v3 v4 v5 26 0 = v5 := ⟨rfl, rfl, rfl, rfl, rfl⟩
def okD (v1 v2 v3 v4 v5 : Int32) : Bool := wi v1 1 63 && wi v2 1 10000 && wi v3 1 100000 && wi v4 0 400 && wi v5 0 3
theorem bv_draft (W : WR h X n w a c hr pa cp s s) (v1 v2 v3 v4 v5 : Int32) : BV h X s (f_W_draft h (some X) v1 v2 v3 v4 v5) (fun h1 => f_X12_draft h1 (X + 23) v1 v2 v3 v4 v5) := by
  have hN := W.N
  have k18 : nk_K h X ∈ [18] := by rw [W.1.1.1.1]; decide
  have eM : ∀ h1, f_X12_draft h1 (X + 23) v1 v2 v3 v4 v5 = f_X12_draft_c71 h1 (X + 23) v1 v2 v3 v4 v5 (if okD v1 v2 v3 v4 v5 = true then 0 else 1) (some (X + 23)) := fun h1 => by
    have mi := fun v l m => m_in h1 v l m
    unfold f_X12_draft f_X12_draft_c35 f_X12_draft_c36 f_X12_draft_c70 okD
    rw [do_eq (mi v1 1 63), ite_not]
    change (if wi v1 1 63 = false then _ else _) = _
    cases wi v1 1 63 with
    | false => rfl
    | true =>
      rw [if_neg (by decide), do_eq (mi v2 1 10000), ite_not]
      change (if wi v2 1 10000 = false then _ else _) = _
      cases wi v2 1 10000 with
      | false => rfl
      | true =>
        rw [if_neg (by decide), do_eq (mi v3 1 100000), ite_not]
        change (if wi v3 1 100000 = false then _ else _) = _
        cases wi v3 1 100000 with
        | false => rfl
        | true =>
          rw [if_neg (by decide), if_neg (by decide), do_eq (mi v4 0 400), ite_not]
          change (if wi v4 0 400 = false then _ else _) = _
          cases wi v4 0 400 with
          | false => rfl
          | true =>
            rw [if_neg (by decide), do_eq (mi v5 0 3), ite_not]
            change (if wi v5 0 3 = false then _ else _) = _
            cases wi v5 0 3 <;> rfl
  have eL : f_W_draft h (some X) v1 v2 v3 v4 v5 = nk_try hs_W_draft (f_X11_draft h X v1 v2 v3 v4 v5) fun h2 x3 => some (h2, 0) := by
    unfold f_W_draft
    rw [rX W]
  have eC : f_X11_draft h X v1 v2 v3 v4 v5 = if okD v1 v2 v3 v4 v5 = true then ((some (nk_al h 13 0 5)).bind fun h11 => (nk_do (f_X5_init h11 (nk_N h) v1 v2 v3 v4 v5) fun h12 x13 => ((nk_pP [18] 6 h12 (some X) (some (nk_N h))).bind fun h14 => some (h14, (.inl ()))))) else xx h nk_IA := by
    unfold f_X11_draft okD
    rw [dt_if (mb_within h v1 1 63)]
    cases wi v1 1 63 with
    | false => rfl
    | true =>
      rw [if_pos rfl, dt_if (mb_within h v2 1 10000)]
      cases wi v2 1 10000 with
      | false => rfl
      | true =>
        rw [if_pos rfl, dt_if (mb_within h v3 1 100000)]
        cases wi v3 1 100000 with
        | false => rfl
        | true =>
          rw [if_pos rfl, dt_if (mb_within h v4 0 400)]
          cases wi v4 0 400 with
          | false => rfl
          | true =>
            rw [if_pos rfl, dt_if (mb_within h v5 0 3)]
            cases wi v5 0 3 <;> rfl
  cases hb : okD v1 v2 v3 v4 v5 with
  | false =>
    refine BV.err W 1 (by decide) ?_ (fun h1 H1 => ?_)
    · rw [eL, eC, hb]
      rfl
    · show Ok h1 (X + 23) _ _ (f_X12_draft h1 (X + 23) v1 v2 v3 v4 v5)
      rw [eM h1, hb]
      unfold f_X12_draft_c71 f_X12_draft_c104
      rw [w_rcv H1]
      exact w_do (w_holds H1 _) (fun h2 H2 => Ok.here H2)
  | true =>
    have kd : nk_K (nk_al h 13 0 5) (nk_N h) ∈ [13] := by rw [al_K]; decide
    have kx : nk_K (nk_al h 13 0 5) X ∈ [18] := by rw [nk_K_al, nk_u1_ne _ _ _ (by omega)]; exact k18
    let hz := nk_sP (nk_sI (nk_sI (nk_sI (nk_sI (nk_sI (nk_al h 13 0 5) (nk_N h) 0 v1) (nk_N h) 1 v2) (nk_N h) 2 v3) (nk_N h) 3 v4) (nk_N h) 4 v5) X 6 (some (nk_N h))
    have ek : ∀ {k : Nat}, ¬ (22 ≤ k ∧ k ≤ 26) → uD s v1 v2 v3 v4 v5 k = s k := fun h1 => uD_k s _ _ _ _ _ h1
    obtain ⟨i0, i1, i2, i3, i4, i5, i6, i7, i8, i9⟩ := W.I
    have zI : ∀ x, x < nk_N h → nk_I hz x = nk_I h x := fun x hx => by
      funext y
      show nk_u2 (nk_u2 (nk_u2 (nk_u2 (nk_u2 (nk_I (nk_al h 13 0 5)) (nk_N h) 0 v1) (nk_N h) 1 v2) (nk_N h) 2 v3) (nk_N h) 3 v4) (nk_N h) 4 v5 x y = _
      rw [nk_u2_ne _ _ _ _ _ (by omega), nk_u2_ne _ _ _ _ _ (by omega), nk_u2_ne _ _ _ _ _ (by omega), nk_u2_ne _ _ _ _ _ (by omega), nk_u2_ne _ _ _ _ _ (by omega), nk_I_al, nk_u1_ne _ _ _ (by omega)]
    have zK : ∀ x, x < nk_N h → nk_K hz x = nk_K h x ∧ nk_L hz x = nk_L h x := fun x hx => by
      show nk_K (nk_al h 13 0 5) x = _ ∧ nk_L (nk_al h 13 0 5) x = _
      rw [nk_K_al, nk_L_al, nk_u1_ne _ _ _ (by omega), nk_u1_ne _ _ _ (by omega)]
      exact ⟨rfl, rfl⟩
    have zP : ∀ x y, x < nk_N h → (x = X → y ≠ 6) → nk_P hz x y = nk_P h x y := fun x y hx hy => by
      show nk_u2 (nk_P (nk_al h 13 0 5)) X 6 (some (nk_N h)) x y = _
      by_cases q : x = X
      · rw [q, nk_u2_nk _ _ _ _ _ (hy q), nk_P_al, nk_u1_ne _ _ _ (by omega)]
      · rw [nk_u2_ne _ _ _ _ _ q, nk_P_al, nk_u1_ne _ _ _ (by omega)]
    have nz : nk_N hz = nk_N h + 1 := rfl
    have G : Gn h hz (fun x => x = X ∨ x = X + 2) (fun x => x = X) :=
      ⟨by omega, rfl, rfl, fun x hx => ⟨(zK x hx).1, (zK x hx).2, fun q => funext fun y => zP x y hx (fun e => absurd e q), fun _ => zI x hx⟩⟩
    refine ⟨n, w, a, c, hr, uD s v1 v2 v3 v4 v5, uD (nk_u2 s 0 0 0) v1 v2 v3 v4 v5, 0, nk_I hz (X + 56) 0, ?_, fun h1 H1 => ?_, eq0_u2 (eq0_u2 (eq0_u2 (eq0_u2 (eq0_u2 (eq0_u s 0) 22 0 _) 23 0 _) 24 0 _) 25 0 _) 26 0 _, ?_, fun e9 => absurd rfl e9, JX.of (eq0_u s 0) (fun x hx => uD_k _ _ _ _ _ _ (by unfold nxf at hx; omega)) (fun _ => by decide)⟩
    · rw [eL]
      refine ⟨hz, pa, cp, ?_, ?_, fun _ => rfl, by omega, by show nk_S h + 5 ≤ _; omega⟩
      · rw [eC, hb, if_pos rfl, Option.bind_some]
        unfold f_X5_init
        rw [wr_I [13] 0 _ kd, wr_I [13] 1 _ (by exact kd), wr_I [13] 2 _ (by exact kd), wr_I [13] 3 _ (by exact kd), wr_I [13] 4 _ (by exact kd)]
        have e1 : ∀ (h9 : nk_H) (K : nk_H → Unit → Option (nk_H × (Unit ⊕ String))), nk_do (some (h9, ())) K = K h9 () := fun h9 K => rfl
        rw [e1, wr_P [18] 6 _ (by exact kx)]
        rfl
      · refine W.fix G (fun k hk2 hk => ek (by omega)) ?_ ?_ ?_ ?_
        · obtain ⟨a1, a2, a3, a4, a5, a6, ⟨b1, b2, b3, b4, b5, b6, b7⟩, ⟨c1, c2, c3, c4, c5⟩, ⟨d1, d2⟩, f⟩ := W.1.1.1
          unfold CF
          rw [zP X 0 (by omega) (by omega), zP X 1 (by omega) (by omega), zP X 2 (by omega) (by omega), zP X 3 (by omega) (by omega), zP X 4 (by omega) (by omega), zP (X + 1) 0 (by omega) (by omega), zP (X + 1) 1 (by omega) (by omega), zP (X + 4) 0 (by omega) (by omega), zP (X + 4) 1 (by omega) (by omega), (zK X (by omega)).1, (zK (X + 1) (by omega)).1, (zK (X + 2) (by omega)).1, (zK (X + 2) (by omega)).2, (zK (X + 3) (by omega)).1, (zK (X + 3) (by omega)).2, (zK (X + 4) (by omega)).1, (zK (X + 6) (by omega)).1, (zK (X + 6) (by omega)).2, (zK (X + 8) (by omega)).1, (zK (X + 8) (by omega)).2]
          refine ⟨a1, a2, a3, a4, a5, a6, ⟨b1, b2, b3, b4, b5, b6, b7⟩, ⟨c1, c2, c3, c4, c5⟩, ⟨d1, d2⟩, fun k hk => ?_⟩
          rw [zP (X + 8) k (by omega) (by omega), zP (X + 9 + 2 * k) 1 (by omega) (by omega), (zK (X + 9 + 2 * k) (by omega)).1]
          exact f k hk
        · obtain ⟨g1, g2, g3, g4⟩ := W.1.2.1
          refine ⟨?_, ?_, ?_, fun k hk => ?_⟩
          · rw [ek (by decide), zI X (by omega)]; exact g1
          · rw [ek (by decide), zI X (by omega)]; exact g2
          · rw [ek (by decide), zI X (by omega)]; exact g3
          · rw [ek (by decide), zI _ (by omega), zI _ (by omega)]
            exact g4 k hk
        · obtain ⟨q1, q2, q3, q4, q5⟩ := uD_v s v1 v2 v3 v4 v5
          rw [CD, q1, q2, q3, q4, q5]
          refine ⟨nk_N h, ?_, by omega, Or.inr (by omega), al_K h 13 0 5, ?_⟩
          · show nk_u2 (nk_P (nk_al h 13 0 5)) X 6 (some (nk_N h)) X 6 = _
            rw [nk_u2_eq]
          · show nk_u2 (nk_u2 (nk_u2 (nk_u2 (nk_u2 (nk_I (nk_al h 13 0 5)) (nk_N h) 0 v1) (nk_N h) 1 v2) (nk_N h) 2 v3) (nk_N h) 3 v4) (nk_N h) 4 v5 (nk_N h) 0 = v1 ∧ nk_u2 (nk_u2 (nk_u2 (nk_u2 (nk_u2 (nk_I (nk_al h 13 0 5)) (nk_N h) 0 v1) (nk_N h) 1 v2) (nk_N h) 2 v3) (nk_N h) 3 v4) (nk_N h) 4 v5 (nk_N h) 1 = v2 ∧ nk_u2 (nk_u2 (nk_u2 (nk_u2 (nk_u2 (nk_I (nk_al h 13 0 5)) (nk_N h) 0 v1) (nk_N h) 1 v2) (nk_N h) 2 v3) (nk_N h) 3 v4) (nk_N h) 4 v5 (nk_N h) 2 = v3 ∧ nk_u2 (nk_u2 (nk_u2 (nk_u2 (nk_u2 (nk_I (nk_al h 13 0 5)) (nk_N h) 0 v1) (nk_N h) 1 v2) (nk_N h) 2 v3) (nk_N h) 3 v4) (nk_N h) 4 v5 (nk_N h) 3 = v4 ∧ nk_u2 (nk_u2 (nk_u2 (nk_u2 (nk_u2 (nk_I (nk_al h 13 0 5)) (nk_N h) 0 v1) (nk_N h) 1 v2) (nk_N h) 2 v3) (nk_N h) 3 v4) (nk_N h) 4 v5 (nk_N h) 4 = v5
            simp [nk_u2]
        · exact ⟨i0.cg (fun k hk => ek (by omega)), i1.cg (fun k hk => ek (by omega)), i2.cg (fun k hk => ek (by omega)), i3.cg (fun k hk => ek (by omega)), i4.cg (fun k hk => ek (by omega)), i5.cg (fun k hk => ek (by omega)), i6.cg (fun k hk => ek (by omega)), i7.cg (fun k hk => ek (by omega)), i8.cg (fun k hk => ek (by omega)), i9.cg (fun k hk => ek (by omega))⟩
    · show Ok h1 (X + 23) _ _ (f_X12_draft h1 (X + 23) _ _ _ _ _)
      rw [eM h1, hb, if_pos rfl]
      unfold f_X12_draft_c71 f_X12_draft_c104
      rw [w_rcv H1]
      refine w_do (w_holds H1 _) (fun h2 H2 => ?_)
      show Ok h2 (X + 23) _ _ (if (1 : Int32) = 0 then _ else _)
      rw [if_neg (by decide)]
      refine w_pI H2 22 _ (fun h3 H3 => ?_)
      refine w_pI H3 23 _ (fun h4 H4 => ?_)
      refine w_pI H4 24 _ (fun h5 H5 => ?_)
      refine w_pI H5 25 _ (fun h6 H6 => ?_)
      refine w_pI H6 26 _ (fun h7 H7 => ?_)
      exact Ok.here H7
    · rw [uD_k _ _ _ _ _ _ (by decide), u2_eq]
end FX
