section MP
variable {h h' g : nk_H} {X n w a c hr : Nat} {pa pa' cp : Nat → Nat} {s s' s2 m : Nat → Nat → Int32}
theorem depsB_0 (e : eq0 s s') (n : Nat) : depsB s' n = depsB s n := by
  funext B k f t
  unfold depsB
  rw [hasB_0 e, e.f 4 (by decide), e.f 7 (by decide), e.f 8 (by decide), e.f 9 (by decide)]
theorem m_deputed {M : Nat} (H : St h M s) (hI : Inv s n w a c hr) (k0 f t : Int32) : f_X12_isDeputed h M k0 f t = some (h, b2i (depsB s n (-1) k0 f t)) := by
  have hn := hI.1.2.1
  have hn3 := hI.1.1
  unfold f_X12_isDeputed
  have key := loop_any (P := fun j => decide (s 4 j = 2) && decide (s 7 j = k0) && (decide (s 8 j ≤ t) && decide (f ≤ s 9 j))) (N := n) (F := fun k z => f_X12_isDeputed_b3 k h M k0 f t z) (a0 := some (h, b2i false)) (a1 := some (h, b2i true)) (by omega) (fun k i hi => by
      show f_X12_isDeputed_c3 (f_X12_isDeputed_b3 k) h M k0 f t (Int32.ofNat i) = _
      unfold f_X12_isDeputed_c3 f_X12_isDeputed_c58
      rw [w_gI H 3, hn3]
      by_cases h1 : n ≤ i
      · rw [if_pos ((ia_le (by omega) (by omega)).mpr h1), if_pos h1]; rfl
      · rw [if_neg (fun e => h1 ((ia_le (by omega) (by omega)).mp e)), if_neg h1, w_gP H 4, w_aI H 4 (by show i < 160; omega), ia_1]
        by_cases h2 : s 4 i = 2
        · rw [if_pos h2, w_gP H 7, w_aI H 7 (by show i < 160; omega)]
          by_cases h3 : s 7 i = k0
          · rw [if_pos h3, w_gP H 8, w_aI H 8 (by show i < 160; omega)]
            by_cases h4 : t < s 8 i
            · have : ¬ s 8 i ≤ t := Int32.not_le.mpr h4
              simp [h4, this]
            · have h4' : s 8 i ≤ t := Int32.not_lt.mp h4
              rw [if_neg h4, w_gP H 9, w_aI H 9 (by show i < 160; omega)]
              by_cases h5 : s 9 i < f
              · have : ¬ f ≤ s 9 i := Int32.not_le.mpr h5
                simp [h5, this]
              · have h5' : f ≤ s 9 i := Int32.not_lt.mp h5
                simp [h2, h3, h4', h5, h5', nk_zr_1, b2i]
          · simp [h3]
        · simp [h2]) 4096 0 (by omega) (by omega) (fun j hj => by omega)
  show f_X12_isDeputed_b3 4096 h M k0 f t (Int32.ofNat 0) = _
  rw [key]
  have e : depsB s n (-1) k0 f t = anyB (fun j => decide (s 4 j = 2) && decide (s 7 j = k0) && (decide (s 8 j ≤ t) && decide (f ≤ s 9 j))) n := by
    unfold depsB
    refine anyB_congr (fun j _ => ?_)
    have : hasB s (-1) j = true := by unfold hasB; rw [if_pos rfl]
    rw [this, Bool.true_and]
  rw [e]
  cases anyB (fun j => decide (s 4 j = 2) && decide (s 7 j = k0) && (decide (s 8 j ≤ t) && decide (f ≤ s 9 j))) n <;> rfl
theorem m_errorOfDepute {M : Nat} (H : St h M s) (hI : Inv s n w a c hr) (v u p : Int32) : f_X12_errorOfDepute h M v u p = some (h, if rg v 6 = true then (if (wi u 0 100 && wi p 0 100) = true then (if decide (n < 160) = true then (if depsB s n (-1) v (s 1 0 + u) ((s 1 0 + u) + p) = true then 3 else 0) else 3) else 2) else 1) := by
  have hn := hI.1.2.1
  unfold f_X12_errorOfDepute f_X12_errorOfDepute_c33 f_X12_errorOfDepute_c34 f_X12_errorOfDepute_c82 f_X12_errorOfDepute_c77 f_X12_errorOfDepute_c82
  rw [do_eq (m_isKiosk h v), ite_b]
  cases h0 : rg v 6 with
  | false => rfl
  | true =>
    rw [if_pos rfl, do_eq (m_in h u 0 100), ite_b]
    change (if wi u 0 100 = true then _ else _) = _
    cases h1 : wi u 0 100 with
    | false => rfl
    | true =>
      rw [if_pos rfl, do_eq (m_in h p 0 100), ite_b]
      change (if wi p 0 100 = true then _ else _) = _
      cases h2 : wi p 0 100 with
      | false => rfl
      | true =>
        rw [if_pos rfl, if_neg (by decide), w_gI H 3, hI.1.1]
        by_cases z : n = 160
        · subst z; rfl
        · rw [if_neg (show ¬ Int32.ofNat n = 160 from fun e => z ((ia_eq (b := 160) (by omega) (by omega)).mp e)), w_gI H 1, w_gI H 1, w_rcv H, do_eq (m_deputed H hI _ _ _), ite_b, decide_eq_true (show n < 160 by omega)]
          cases depsB s n (-1) v (s 1 0 + u) (s 1 0 + u + p) <;> rfl
/-- a deputation's state -/
def uDp (s : Nat → Nat → Int32) (n : Nat) (k f t : Int32) : Nat → Nat → Int32 := uMk (nk_u2 (nk_u2 s 8 n f) 9 n t) n 0 2 k
theorem uDp_F (hI : Inv s n w a c hr) (hn : n < 160) (k f t : Int32) : MkF s (uDp s n k f t) n 0 (Int32.ofNat hr) := by
  have e : ∀ x, x ≠ 8 → x ≠ 9 → nk_u2 (nk_u2 s 8 n f) 9 n t x = s x := fun x h1 h2 => by
    funext y
    rw [u2_k _ _ _ _ _ h2, u2_k _ _ _ _ _ h1]
  obtain ⟨i0, i1, i2, i3, i4, i5, i6, i7, i8, i9⟩ := hI
  have hI2 : Inv (nk_u2 (nk_u2 s 8 n f) 9 n t) n w a c hr := ⟨i0.cg (fun k hk => e k (by omega) (by omega)), i1.cg (fun k hk => e k (by omega) (by omega)), i2.cg (fun k hk => e k (by omega) (by omega)), i3.cg (fun k hk => e k (by omega) (by omega)), i4.cg (fun k hk => e k (by omega) (by omega)), i5.cg (fun k hk => e k (by omega) (by omega)), i6.cg (fun k hk => e k (by omega) (by omega)), i7.cg (fun k hk => e k (by omega) (by omega)), i8.cg (fun k hk => e k (by omega) (by omega)), i9.cg (fun k hk => e k (by omega) (by omega))⟩
  obtain ⟨f1, f2, f3, f4, f5, f6⟩ := uMk_F hI2 hn (by decide : 0 < 6) 2 k
  refine ⟨f1, f2, f3, f4, fun j hj hj2 k' hk' => ?_, fun j hj x x1 x2 => ?_⟩
  · have := f5 j hj hj2 k' hk'
    rw [e 10 (by decide) (by decide), e 11 (by decide) (by decide)] at this
    exact this
  · show uMk _ n 0 2 k x j = _
    rw [f6 j hj x x1 x2, u2_j _ _ _ _ _ (by omega), u2_j _ _ _ _ _ (by omega)]
theorem bi_depute (W : WR h X n w a c hr pa cp s s) (v u p : Int32) : BI h X s (f_W_depute h (some X) v u p (some (X + 56))) (fun h1 => f_X12_depute h1 (X + 23) v u p) := by
  have hb := W.b
  have hI := W.I
  let F := s 1 0 + u
  let T := (s 1 0 + u) + p
  let CODE : Int32 := if rg v 6 = true then (if (wi u 0 100 && wi p 0 100) = true then (if decide (n < 160) = true then (if depsB s n (-1) v (s 1 0 + u) ((s 1 0 + u) + p) = true then 3 else 0) else 3) else 2) else 1
  have eM : ∀ h1, St h1 (X + 23) s → ∃ K : nk_H → Option (nk_H × Int32), f_X12_depute h1 (X + 23) v u p = nk_do (f_X12_holds h1 (X + 23) CODE) (fun h5 x6 => if x6 = 0 then some (h5, 0) else K h5) ∧ (CODE = 0 → ∀ h2, St h2 (X + 23) (nk_u2 s 0 0 0) → Ok h2 (X + 23) (uDp (nk_u2 s 0 0 0) n v F T) (Int32.ofNat n) (K h2)) := fun h1 H1 => by
    refine ⟨_, by
      unfold f_X12_depute
      rw [w_rcv H1, do_eq (m_errorOfDepute H1 hI v u p), w_rcv H1], fun hc h2 H2 => ?_⟩
    have hn : n < 160 := by
      by_cases z : n < 160
      · exact z
      · exfalso
        have : decide (n < 160) = false := decide_eq_false z
        revert hc
        show (if rg v 6 = true then (if (wi u 0 100 && wi p 0 100) = true then (if decide (n < 160) = true then (if depsB s n (-1) v (s 1 0 + u) ((s 1 0 + u) + p) = true then (3 : Int32) else 0) else 3) else 2) else 1) = 0 → False
        rw [this]
        generalize depsB s n (-1) v (s 1 0 + u) ((s 1 0 + u) + p) = d
        cases rg v 6 <;> cases (wi u 0 100 && wi p 0 100) <;> cases d <;> decide
    have e3 : nk_u2 s 0 0 0 3 0 = Int32.ofNat n := by rw [u2_k _ _ _ _ _ (by decide)]; exact hI.1.1
    have e1 : nk_u2 s 0 0 0 1 0 = s 1 0 := u2_k _ _ _ _ _ (by decide)
    rw [w_gP H2 8, w_gI H2 3, e3, w_gI H2 1, e1]
    refine w_wI H2 8 _ (by show n < 160; omega) (fun h3 H3 => ?_)
    rw [w_gP H3 9, w_gI H3 3, u2_k _ _ _ _ _ (by decide), e3, w_gI H3 1, u2_k _ _ _ _ _ (by decide), e1]
    refine w_wI H3 9 _ (by show n < 160; omega) (fun h4 H4 => ?_)
    rw [w_rcv H4]
    exact w_do (w_makes (k := 0) H4 (by rw [u2_k _ _ _ _ _ (by decide), u2_k _ _ _ _ _ (by decide)]; exact e3) hn (by decide) _ _) (fun h5 H5 => Ok.here H5)
  have err : ∀ (k : Int32), k ≠ 0 → CODE = k → ∀ h1, St h1 (X + 23) s → ∃ r, Ok h1 (X + 23) (nk_u2 s 0 0 k) r (f_X12_depute h1 (X + 23) v u p) := fun k hk ek h1 H1 => by
    obtain ⟨K, e, -⟩ := eM h1 H1
    rw [e, ek]
    refine ⟨0, w_do (w_holds H1 _) (fun h2 H2 => ?_)⟩
    rw [decide_eq_false hk]
    exact Ok.here H2
  unfold f_W_depute
  rw [rX W]
  cases h0 : rg v 6 with
  | false =>
    refine BI.errV W (E := nk_IX) (v := 1) ?_ rfl rfl (by decide) (err 1 (by decide) (by show (if rg v 6 = true then _ else _) = _; rw [h0]; rfl))
    unfold f_X11_depute
    rw [dt_if (mb_kiosk h v), h0]
    exact VOK.thrown W _
  | true =>
    cases h1 : wi u 0 100 with
    | false =>
      refine BI.errV W (E := nk_IA) (v := 2) ?_ rfl rfl (by decide) (err 2 (by decide) (by show (if rg v 6 = true then (if (wi u 0 100 && wi p 0 100) = true then _ else _) else _) = _; rw [h0, h1]; rfl))
      unfold f_X11_depute
      rw [dt_if (mb_kiosk h v), h0, if_pos rfl, dt_if (mb_within h u 0 100), h1]
      exact VOK.thrown W _
    | true =>
      cases h2 : wi p 0 100 with
      | false =>
        refine BI.errV W (E := nk_IA) (v := 2) ?_ rfl rfl (by decide) (err 2 (by decide) (by show (if rg v 6 = true then (if (wi u 0 100 && wi p 0 100) = true then _ else _) else _) = _; rw [h0, h1, h2]; rfl))
        unfold f_X11_depute
        rw [dt_if (mb_kiosk h v), h0, if_pos rfl, dt_if (mb_within h u 0 100), h1, if_pos rfl, dt_if (mb_within h p 0 100), h2]
        exact VOK.thrown W _
      | true =>
        have eC : CODE = (if decide (n < 160) = true then (if depsB s n (-1) v (s 1 0 + u) ((s 1 0 + u) + p) = true then 3 else 0) else 3) := by
          show (if rg v 6 = true then (if (wi u 0 100 && wi p 0 100) = true then _ else _) else _) = _
          rw [h0, h1, h2]; rfl
        cases h4 : decide (n < 160) with
        | false =>
          refine BI.errV W (E := nk_IS) (v := 3) ?_ rfl rfl (by decide) (err 3 (by decide) (by rw [eC, h4]; rfl))
          unfold f_X11_depute
          rw [dt_if (mb_kiosk h v), h0, if_pos rfl, dt_if (mb_within h u 0 100), h1, if_pos rfl, dt_if (mb_within h p 0 100), h2, if_pos rfl, rX W, dt_if (mb_room W), h4]
          exact VOK.thrown W _
        | true =>
          have hn : n < 160 := of_decide_eq_true h4
          have h0' := h0
          obtain ⟨k, rfl, hk⟩ := rg_ex (by decide) h0'
          obtain ⟨p1, p2, p3⟩ := k15 W
          obtain ⟨h9, e1, S, hS⟩ := look_all W.1.1 hI W.N
          have W2 := W.seen S
          obtain ⟨q1, q2, q3⟩ := k15 W2
          have base : ∀ R, ((if b2i (depsB s n (-1) (Int32.ofNat k) F T) = 0 then ((nk_gP [18] 1 h9 (some X)).bind fun x19 => ((some (nk_al h9 12 0 9)).bind fun h20 => (nk_do (f_X4_init h20 (nk_N h9) (Int32.ofNat k) F T) fun h21 x22 => ((nk_gI [18] 5 h21 (some X)).bind fun x23 => ((nk_rcv [15] h21 x19).bind fun a24 => nk_do (f_X7_publish h21 a24 (some (nk_N h9)) 0 x23) fun h25 x26 => some (h25, (.inl x26))))))) else some (nk_al h9 0 0 6, .inr "java/lang/IllegalStateException")) : Option (nk_H × (Int32 ⊕ String))) = R → f_X11_depute h X (Int32.ofNat k) u p = R := fun R e => by
            unfold f_X11_depute
            rw [dt_if (mb_kiosk h _), h0, if_pos rfl, dt_if (mb_within h u 0 100), h1, if_pos rfl, dt_if (mb_within h p 0 100), h2, if_pos rfl, rX W, dt_if (mb_room W), h4, if_pos rfl, rd_I [18] p3 W.1.2.1.1, rd_P [18] p3 p1, rd_r [15] p2, do_eq e1, rd_P [18] q3 q1, rd_r [15] q2, do_eq (q_deps W2.1.1 hI hS _ _ _)]
            exact e
          cases h5 : depsB s n (-1) (Int32.ofNat k) F T with
          | true =>
            refine BI.errV W (E := nk_IS) (v := 3) ?_ rfl rfl (by decide) (err 3 (by decide) (by rw [eC, h4]; show (if depsB s n (-1) (Int32.ofNat k) F T = true then _ else _) = _; rw [h5]; rfl))
            rw [base _ rfl, h5]
            exact VOK.seenX W S _
          | false =>
            have N2 := W2.N
            have k12 : nk_K (nk_al h9 12 0 9) (nk_N h9) = 12 := al_K h9 12 0 9
            obtain ⟨g, eg, Gg, Pg, Kg, Lg, Ig, Ng, Sg⟩ := pc_init (h := nk_al h9 12 0 9) (p := nk_N h9) (by rw [k12]; decide) (by rw [nk_N_al]; omega)
            have Na : nk_N (nk_al h9 12 0 9) = nk_N h9 + 1 := rfl
            rw [Na] at Pg Kg Lg Ig Ng
            have kgp : nk_K g (nk_N h9) = 12 := (Gg.2.2.2 _ (by omega)).1.trans k12
            let g3 := nk_sI (nk_sI (nk_sI g (nk_N h9) 6 (Int32.ofNat k)) (nk_N h9) 7 F) (nk_N h9) 8 T
            have G0' : Gn h9 g no no := ((Gn.refl h9 no no).al 12 0 9).on Gg (fun x z => z.elim) (fun x z => Or.inr (by omega))
            have G0 : Gn h9 g3 no no := ((G0'.sI 6 _ (Or.inr (Nat.le_refl _))).sI 7 _ (Or.inr (Nat.le_refl _))).sI 8 _ (Or.inr (Nat.le_refl _))
            have u4 : uDp s n (Int32.ofNat k) F T 4 n = 2 := uMk_4 _ _ _ _ _
            have u7 : uDp s n (Int32.ofNat k) F T 7 n = Int32.ofNat k := uMk_7 _ _ _ _ _
            have u8 : uDp s n (Int32.ofNat k) F T 8 n = F := by
              unfold uDp; rw [uMk_O _ _ _ _ _ (by omega), u2_k _ _ _ _ _ (by decide), u2_eq]
            have u9 : uDp s n (Int32.ofNat k) F T 9 n = T := by
              unfold uDp; rw [uMk_O _ _ _ _ _ (by omega), u2_eq]
            have i3 : nk_I g (nk_N h9) 3 = 0 := by rw [(Gg.2.2.2 _ (by omega)).2.2.2 id, nk_I_al, nk_u1_eq]
            have ip : nk_I g3 (nk_N h9 + 1) = nk_I g (nk_N h9 + 1) := by
              funext y
              show nk_u2 (nk_u2 (nk_u2 (nk_I g) _ _ _) _ _ _) _ _ _ _ _ = _
              rw [nk_u2_ne _ _ _ _ _ (by omega), nk_u2_ne _ _ _ _ _ (by omega), nk_u2_ne _ _ _ _ _ (by omega)]
            have i6 : nk_I g3 (nk_N h9) 6 = Int32.ofNat k ∧ nk_I g3 (nk_N h9) 7 = F ∧ nk_I g3 (nk_N h9) 8 = T ∧ nk_I g3 (nk_N h9) 3 = 0 := by
              refine ⟨?_, ?_, ?_, ?_⟩
              · show nk_u2 (nk_u2 (nk_u2 (nk_I g) _ _ _) _ _ _) _ _ _ _ _ = _
                rw [nk_u2_nk _ _ _ _ _ (by decide), nk_u2_nk _ _ _ _ _ (by decide), nk_u2_eq]
              · show nk_u2 (nk_u2 (nk_u2 (nk_I g) _ _ _) _ _ _) _ _ _ _ _ = _
                rw [nk_u2_nk _ _ _ _ _ (by decide), nk_u2_eq]
              · show nk_u2 (nk_u2 (nk_u2 (nk_I g) _ _ _) _ _ _) _ _ _ _ _ = _
                rw [nk_u2_eq]
              · show nk_u2 (nk_u2 (nk_u2 (nk_I g) _ _ _) _ _ _) _ _ _ _ _ = _
                rw [nk_u2_nk _ _ _ _ _ (by decide), nk_u2_nk _ _ _ _ _ (by decide), nk_u2_nk _ _ _ _ _ (by decide), i3]
            obtain ⟨h8, e8, W8, b8, d8⟩ := pub_12 (s' := uDp s n (Int32.ofNat k) F T) (g := g3) (p := nk_N h9) (k := 0) W2 rfl G0 (by show nk_N g = _; rw [Ng]) (by show nk_S g ≤ _; rw [Sg, nk_S_al]; omega) (by rw [u4]; exact kgp) (by show nk_P g _ 5 = _; rw [Pg]; rfl) Kg Lg (fun j hj => by rw [ip]; exact Ig j hj) i6.2.2.2 hn (by decide) (uDp_F hI hn _ _ _) (uMk_3 _ _ _ _ _) (fun x _ hx => by
              unfold uDp
              funext y
              rw [uMk_O _ _ _ _ _ (by omega), u2_k _ _ _ _ _ (by omega), u2_k _ _ _ _ _ (by omega)]) (fun e => by rw [u4] at e; exact absurd e (by decide)) (fun _ => ⟨by rw [u7]; exact i6.1, by rw [u8]; exact i6.2.1, by rw [u9]; exact i6.2.2.1⟩) (Or.inr ⟨u4, k, hk, u7⟩)
            have e8' : f_X7_publish g3 (X + 4) (some (nk_N h9)) 0 (s 1 0) = some (h8, Int32.ofNat n) := e8
            refine BI.okV (v := Int32.ofNat n) (s' := uDp s n (Int32.ofNat k) F T) (s2 := uDp (nk_u2 s 0 0 0) n (Int32.ofNat k) F T) (n' := n + 1) (w' := w) (a' := a) (c' := c) (hr' := hr) ?_ (fun h1' H1 => ?_) (uMk_0 (eq0_u2 (eq0_u2 (eq0_u s 0) _ _ _) _ _ _) _ _ _ _) ?_ (JX.of (eq0_u s 0) (fun x hx => (uMk_O _ _ _ _ _ (by unfold nxf at hx; omega)).trans ((u2_K _ _ _ _ (by unfold nxf at hx; omega)).trans (u2_K _ _ _ _ (by unfold nxf at hx; omega)))) (fun _ => ia_n0 (by omega)))
            · refine ⟨h8, _, cp, ?_, W8, ?_, ?_⟩
              · rw [base _ rfl, h5, b2i_false, if_pos rfl, rd_P [18] q3 q1, Option.bind_some]
                unfold f_X4_init
                have gX : nk_K g X = nk_K h9 X ∧ nk_I g X = nk_I h9 X := by
                  have := G0'.2.2.2 X (by omega)
                  exact ⟨this.1, this.2.2.2 id⟩
                have g4 : nk_K g (X + 4) = nk_K h9 (X + 4) := (G0'.2.2.2 (X + 4) (by omega)).1
                have gX5 : nk_I g3 X 5 = s 1 0 := by
                  show nk_u2 (nk_u2 (nk_u2 (nk_I g) _ _ _) _ _ _) _ _ _ _ _ = _
                  rw [nk_u2_ne _ _ _ _ _ (by omega), nk_u2_ne _ _ _ _ _ (by omega), nk_u2_ne _ _ _ _ _ (by omega), gX.2]
                  exact W2.1.2.1.1
                have k12' : nk_K g (nk_N h9) ∈ [12] := by rw [kgp]; decide
                rw [do_eq eg, wr_I [12] 6 _ k12', wr_I (h := nk_sI g (nk_N h9) 6 (Int32.ofNat k)) [12] 7 _ k12', wr_I (h := nk_sI (nk_sI g (nk_N h9) 6 (Int32.ofNat k)) (nk_N h9) 7 F) [12] 8 _ k12', do_s, rd_I (h := g3) (v := s 1 0) [18] (by show nk_K g X ∈ _; rw [gX.1]; exact q3) gX5, rd_r (h := g3) [15] (by show nk_K g (X + 4) ∈ _; rw [g4]; exact q2), do_eq e8']
              · rw [S.2.2.2.1] at b8; omega
              · rw [S.2.2.2.2.1] at d8; omega
            · show Ok h1' (X + 23) _ _ (f_X12_depute h1' (X + 23) _ _ _)
              obtain ⟨K, e, hK⟩ := eM h1' H1
              have hc0 : CODE = 0 := by
                rw [eC, h4]; show (if depsB s n (-1) (Int32.ofNat k) F T = true then _ else _) = _; rw [h5]; rfl
              rw [e, hc0]
              refine w_do (w_holds H1 _) (fun h2 H2 => ?_)
              show Ok h2 (X + 23) _ _ (if (1 : Int32) = 0 then _ else _)
              rw [if_neg (by decide)]
              exact hK hc0 h2 H2
            · unfold uDp
              rw [uMk_O _ _ _ _ _ (by omega), u2_k _ _ _ _ _ (by decide), u2_k _ _ _ _ _ (by decide), u2_eq]
end MP
