section MD
variable {h h' : nk_H} {X n w a c hr : Nat} {pa pa' cp : Nat → Nat} {s s' m : Nat → Nat → Int32}
/-- other places, the same of those that are there -/
theorem pw_pa (e : ∀ j, j < n → pa' j = pa j) {q : Nat} (hq : sN s 13 q < n) : pw s pa' q = pw s pa q := e _ hq
theorem PW.epa (H : PW h w pa s) (e : ∀ j, j < n → pa' j = pa j) (hp : ∀ q, q < w → sN s 13 q < n) (hsrc : ∀ q r, q < w → src s q = some r → r < w) : PW h w pa' s := fun q hq => by
  obtain ⟨r1, r2, r3⟩ := H q hq
  rw [pw_pa e (hp q hq)]
  exact ⟨r1, r2.trans (omap_congr (src s q) (fun r hr => (pw_pa e (hp r (hsrc q r hq hr))).symm)), r3⟩
theorem AS.epa (H : AS h X a pa s) (e : ∀ j, j < n → pa' j = pa j) (hp : ∀ q, q < w → sN s 13 q < n) (hA : ∀ x, x < a → sN s 32 x < n ∧ sN s 33 (6 * x + 1) < w) : AS h X a pa' s := fun x hx => by
  have e1 : ac s pa' x = ac s pa x := e _ (hA x hx).1
  rw [e1, pw_pa e (hp _ (hA x hx).2)]
  exact H x hx
theorem AI.epa (H : AI h a pa s) (e : ∀ j, j < n → pa' j = pa j) (hA : ∀ x, x < a → sN s 32 x < n) : AI h a pa' s := fun x hx => by
  have e1 : ac s pa' x = ac s pa x := e _ (hA x hx)
  rw [e1]
  exact H x hx
theorem CF.gn2 {DI DP : Nat → Prop} (H : CF h X) (G : Gn h h' DI DP) (hN : X + 57 ≤ nk_N h) (hD : ∀ x, (x = X ∨ x = X + 1 ∨ x = X + 4 ∨ x = X + 8 ∨ ∃ k, k < 6 ∧ x = X + 9 + 2 * k) → ¬ DP x) : CF h' X := by
  have e : ∀ x, x ≤ X + 22 → nk_K h' x = nk_K h x ∧ nk_L h' x = nk_L h x := fun x h2 => by
    obtain ⟨g1, g2, -⟩ := G.2.2.2 x (by omega)
    exact ⟨g1, g2⟩
  have eP : ∀ x, (x = X ∨ x = X + 1 ∨ x = X + 4 ∨ x = X + 8 ∨ ∃ k, k < 6 ∧ x = X + 9 + 2 * k) → nk_P h' x = nk_P h x := fun x hx => (G.2.2.2 x (by rcases hx with hx | hx | hx | hx | ⟨k, hk, hx⟩ <;> omega)).2.2.1 (hD x hx)
  obtain ⟨a1, a2, a3, a4, a5, a6, ⟨b1, b2, b3, b4, b5, b6, b7⟩, ⟨c1, c2, c3, c4, c5⟩, ⟨d1, d2⟩, f⟩ := H
  unfold CF
  rw [(e X (by omega)).1, eP X (Or.inl rfl), (e (X + 1) (by omega)).1, eP (X + 1) (Or.inr (Or.inl rfl)), (e (X + 2) (by omega)).1, (e (X + 2) (by omega)).2, (e (X + 3) (by omega)).1, (e (X + 3) (by omega)).2, (e (X + 4) (by omega)).1, eP (X + 4) (Or.inr (Or.inr (Or.inl rfl))), (e (X + 6) (by omega)).1, (e (X + 6) (by omega)).2, (e (X + 8) (by omega)).1, (e (X + 8) (by omega)).2, eP (X + 8) (Or.inr (Or.inr (Or.inr (Or.inl rfl))))]
  refine ⟨a1, a2, a3, a4, a5, a6, ⟨b1, b2, b3, b4, b5, b6, b7⟩, ⟨c1, c2, c3, c4, c5⟩, ⟨d1, d2⟩, fun k hk => ?_⟩
  rw [(e (X + 9 + 2 * k) (by omega)).1, eP (X + 9 + 2 * k) (Or.inr (Or.inr (Or.inr (Or.inr ⟨k, hk, rfl⟩))))]
  exact f k hk
/-- the lists' objects -/
def isL (X : Nat) : Nat → Prop := fun x => x = X + 5 ∨ x = X + 7 ∨ x = X + 21 ∨ ∃ k, k < 6 ∧ x = X + 10 + 2 * k
/-- the relation, when a piece is made -/
theorem WR.made (W : WR h X n w a c hr pa cp s m) {DI DP : Nat → Prop} {p w' a' : Nat} (G : Gn h h' DI DP) (hDI : ∀ x, x < nk_N h → DI x → isL X x ∨ x = X + 6) (hDP : ∀ x, x < nk_N h → DP x → isL X x ∨ nk_K h x = 4)
    (hp : nk_N h ≤ p) (hpN : p + 2 ≤ nk_N h') (e0 : ∀ j, j < n → pa' j = pa j) (en : pa' n = p)
    (eF : ∀ k, (k = 1 ∨ k = 2 ∨ (22 ≤ k ∧ k ≤ 28) ∨ (37 ≤ k ∧ k ≤ 44)) → s' k = s k) (eP : ∀ j, j < n → ∀ k, 4 ≤ k → k ≤ 9 → s' k j = s k j) (eC : ∀ j, j < n → ∀ k, k < 6 → s' 10 (160 * k + j) = s 10 (160 * k + j) ∧ s' 11 (160 * k + j) = s 11 (160 * k + j))
    (eW : eqW s s' w) (eA : ∀ x, x < a → eqA s s' x) (hCL : CL h' X (n + 1) w' c pa' cp s') (hOW : OW h' X)
    (nS : nk_K h' p = pk (s' 4 n) ∧ nk_P h' p 5 = some (p + 1) ∧ nk_K h' (p + 1) = 1 ∧ nk_L h' (p + 1) = 6) (nI : PI1 h' p n s')
    (hW : PW h' w pa' s' → PW h' w' pa' s') (nR : s' 4 n = 1 → nk_P h' p 6 = some (pw s' pa' (sN s' 7 n))) (nD : s' 4 n = 2 → nk_I h' p 6 = s' 7 n ∧ nk_I h' p 7 = s' 8 n ∧ nk_I h' p 8 = s' 9 n)
    (hS : AS h' X a pa' s' → AS h' X a' pa' s') (hA : AI h' a pa' s' → AI h' a' pa' s') (n6 : s' 6 n = Int32.ofNat hr) (nC : ∀ k, k < 6 → Rt s' n hr k = decide (k = sN s' 5 n)) (hI' : Inv s' (n + 1) w' a' c hr) : WR h' X (n + 1) w' a' c hr pa' cp s' m := by
  obtain ⟨H, h2, h3, h4, h5, hI⟩ := W
  have hN := H.2.2.2.2.2.2.2
  have hhr := hI.1.2.2.2.2.2.2.2.2.2.2
  have dI : ∀ x, x < nk_N h → ¬ isL X x → x ≠ X + 6 → ¬ DI x := fun x hx z z6 y => by
    rcases hDI x hx y with q | q
    · exact z q
    · exact z6 q
  have dP : ∀ x, x < nk_N h → ¬ isL X x → nk_K h x ≠ 4 → ¬ DP x := fun x hx z y y2 => by
    rcases hDP x hx y2 with q | q
    · exact z q
    · exact y q
  have nL : ∀ x, X + 22 ≤ x → ¬ isL X x := fun x hx z => by
    unfold isL at z
    rcases z with z | z | z | ⟨k, hk, z⟩ <;> omega
  have nLs : ∀ x, x = X ∨ x = X + 1 ∨ x = X + 2 ∨ x = X + 3 ∨ x = X + 4 ∨ x = X + 6 ∨ x = X + 8 ∨ (∃ k, k < 6 ∧ x = X + 9 + 2 * k) → ¬ isL X x := fun x hx z => by
    unfold isL at z
    rcases hx with hx | hx | hx | hx | hx | hx | hx | ⟨k, hk, hx⟩ <;> rcases z with z | z | z | ⟨k', hk', z⟩ <;> omega
  have kM : ∀ x, X + 23 ≤ x → x ≤ X + 55 → nk_K h x ≠ 4 := fun x x1 x2 e => by
    obtain ⟨q1, q2⟩ := h3
    by_cases z : x = X + 23
    · rw [z, q1] at e; exact absurd e (by decide)
    · have key : ∀ y, 1 ≤ y → y ≤ 32 → ∃ k, k < 45 ∧ mo k = y := by
        intro y y1 y2
        have : ∀ y, y ≤ 32 → 1 ≤ y → (List.range 45).any (fun k => mo k == y) = true := by decide +kernel
        have := this y y2 y1
        rw [List.any_eq_true] at this
        obtain ⟨k, k1, k2⟩ := this
        exact ⟨k, by simpa using k1, by simpa using k2⟩
      obtain ⟨k, k1, k2⟩ := key (x - (X + 23)) (by omega) (by omega)
      obtain ⟨-, q3, -⟩ := q2 k k1 (by omega)
      have : X + 23 + mo k = x := by omega
      rw [this, e] at q3
      unfold mk at q3
      split at q3 <;> omega
  obtain ⟨m1, m2⟩ := MR.gn h3 G (by omega) (fun x x1 x2 => ⟨dI x (by omega) (nL x (by omega)) (by omega), dP x (by omega) (nL x (by omega)) (kM x x1 (by omega))⟩)
  refine ⟨?_, hOW, m1, by rw [m2]; exact h4, h5.gn G hN, hI'⟩
  obtain ⟨⟨h1, h2, h3, h4, h5, h6, h7, h8, h9, h10⟩, k2, k3, k4, k5, -, k7, k8⟩ := H
  obtain ⟨r1, r2, r3, r4⟩ := rg_pw hI
  have es : ∀ q, q < w → sN s' 13 q = sN s 13 q := fun q hq => by unfold sN; rw [eW q hq 13 (by omega) (by omega)]
  have r1' : ∀ q, q < w → sN s' 13 q < n := fun q hq => by rw [es q hq]; exact r1 q hq
  have r2' : ∀ q r, q < w → src s' q = some r → r < w := fun q r hq e => r2 q r hq (by rw [← src_congr (eW q hq 16 (by omega) (by omega))]; exact e)
  have r3' : ∀ x, x < a → sN s' 32 x < n ∧ sN s' 33 (6 * x + 1) < w := fun x hx => by
    obtain ⟨q1, -, -, -, q5⟩ := eA x hx
    have e1 : sN s' 32 x = sN s 32 x := by unfold sN; rw [q1]
    have e2 : sN s' 33 (6 * x + 1) = sN s 33 (6 * x + 1) := by unfold sN; rw [q5 1 (by omega)]
    rw [e1, e2]; exact r3 x hx
  have pj : ∀ j, j < n → pa j + 1 < nk_N h := fun j hj => by have := (h3 j hj).2.1; omega
  have pK : ∀ j, j < n → nk_K h (pa j) ≠ 4 := fun j hj e => by
    have p1 := (h4 j hj).1
    rcases pk_cases hI hj with ⟨-, q⟩ | ⟨-, q⟩ | ⟨-, q⟩ | ⟨-, q⟩ <;> omega
  have dj : ∀ j, j < n → ¬ DI (pa j) ∧ ¬ DI (pa j + 1) := fun j hj => by
    have := (h3 j hj).1
    have := pj j hj
    exact ⟨dI _ (by omega) (nL _ (by omega)) (by omega), dI _ (by omega) (nL _ (by omega)) (by omega)⟩
  have dp : ∀ j, j < n → ¬ DP (pa j) := fun j hj => by
    have := (h3 j hj).1
    have := pj j hj
    exact dP _ (by omega) (nL _ (by omega)) (pK j hj)
  have da : ∀ e, e < a → ¬ DI (ac s pa e) ∧ ¬ DI (ac s pa e - 1) ∧ ¬ DI (ac s pa e + 2) := fun e he => by
    obtain ⟨-, -, -, -, -, -, z7, z8⟩ := h9 e he
    exact ⟨dI _ (by omega) (nL _ (by omega)) (by omega), dI _ (by omega) (nL _ (by omega)) (by omega), dI _ (by omega) (nL _ (by omega)) (by omega)⟩
  have hd : ∀ d, nk_P h X 6 = some d → ¬ DI d := fun d hd => by
    obtain ⟨d', e1, e2, e3, -⟩ := k3
    rw [hd] at e1
    cases e1
    exact dI _ e2 (nL _ (by omega)) (by omega)
  have gP : PS h' n pa s' := PS.gn h3 h4 G (fun j hj => eP j hj 4 (by omega) (by omega)) dp
  have gI : PI h' n pa s' := PI.gn h3 h5 G dj (fun j hj => eP j hj 5 (by omega) (by omega)) (fun j hj => eP j hj 6 (by omega) (by omega)) (fun j hj k hk => (eC j hj k hk).1) (fun j hj k hk => (eC j hj k hk).2)
  have gW : PW h' w pa s' := PW.gn h3 h6 G r1 r2 eW (fun q hq => ⟨(dj _ (r1 q hq)).1, dp _ (r1 q hq)⟩)
  have gR : PR h' n pa s' := PR.gn (w := w) h3 h7 G (fun j hj => eP j hj 4 (by omega) (by omega)) (fun j hj => eP j hj 7 (by omega) (by omega)) r4 eW dp
  have gD : PD h' n pa s' := PD.gn h3 h8 G (fun j hj => ⟨eP j hj 4 (by omega) (by omega), eP j hj 7 (by omega) (by omega), eP j hj 8 (by omega) (by omega), eP j hj 9 (by omega) (by omega)⟩) (fun j hj _ => (dj j hj).1)
  have gS : AS h' X a pa s' := AS.gn (w := w) h3 h9 G r3 eW (fun x hx => ⟨(eA x hx).1, (eA x hx).2.2.2.2 1 (by omega)⟩) (fun e he => dp _ (r3 e he).1)
  have gA : AI h' a pa s' := AI.gn h3 h9 h10 G (fun x hx => (r3 x hx).1) eA (fun j hj => ⟨eP j hj 5 (by omega) (by omega), eP j hj 6 (by omega) (by omega)⟩) da
  have r4' : ∀ j, j < n → s' 4 j = 1 → sN s' 7 j < w := fun j hj e1 => by
    have e2 : sN s' 7 j = sN s 7 j := by unfold sN; rw [eP j hj 7 (by omega) (by omega)]
    rw [e2]
    exact r4 j hj (by rw [← eP j hj 4 (by omega) (by omega)]; exact e1)
  have hNN := G.1
  refine ⟨⟨h1.gn2 G hN (fun x hx => ?_), hCL.1, fun j hj => ?_, fun j hj => ?_, fun j hj => ?_, hW (gW.epa e0 r1' r2'), fun j hj e1 => ?_, fun j hj e1 => ?_, hS (gS.epa e0 r1' r3'), hA (gA.epa e0 (fun x hx => (r3' x hx).1))⟩,
    k2.gn G hN (dI _ (by omega) (nLs _ (by omega)) (by omega)) (dI _ (by omega) (nLs _ (by omega)) (by omega)) (fun k hk => dI _ (by omega) (nLs _ (Or.inr (Or.inr (Or.inr (Or.inr (Or.inr (Or.inr (Or.inr ⟨k, hk, rfl⟩)))))))) (by omega)) (by rw [eF 1 (by omega)]) (by rw [eF 27 (by omega)]) (by rw [eF 28 (by omega)]) (fun k _ => by rw [eF 2 (by omega)]),
    k3.gn G (by omega) (dP _ (by omega) (nLs _ (by omega)) (by rw [h1.1]; decide)) hd (fun k hk1 hk2 => by rw [eF k (by omega)]), fun e he => ?_, KI.gn k4 k5 G (fun e _ => ⟨by rw [eF 38 (by omega)], by rw [eF 39 (by omega)], by rw [eF 40 (by omega)], by rw [eF 41 (by omega)], by rw [eF 42 (by omega)], fun i _ => ⟨by rw [eF 44 (by omega)], fun q _ => by rw [eF 43 (by omega)]⟩⟩) (fun e he x x1 x2 => ?_), hCL, ?_, by omega⟩
  · refine dP _ (by rcases hx with hx | hx | hx | hx | ⟨k, hk, hx⟩ <;> omega) (nLs x ?_) ?_
    · rcases hx with hx | hx | hx | hx | hx
      · exact Or.inl hx
      · exact Or.inr (Or.inl hx)
      · exact Or.inr (Or.inr (Or.inr (Or.inr (Or.inl hx))))
      · exact Or.inr (Or.inr (Or.inr (Or.inr (Or.inr (Or.inr (Or.inl hx))))))
      · exact Or.inr (Or.inr (Or.inr (Or.inr (Or.inr (Or.inr (Or.inr hx))))))
    · obtain ⟨c1, -, -, -, -, -, ⟨c2, -⟩, ⟨c3, -⟩, ⟨c4, -⟩, c5⟩ := h1
      rcases hx with rfl | rfl | rfl | rfl | ⟨k, hk, rfl⟩
      · rw [c1]; decide
      · rw [c2]; decide
      · rw [c3]; decide
      · rw [c4]; decide
      · rw [(c5 k hk).2.1]; decide
  · by_cases z : j = n
    · rw [z, en]
      exact ⟨by omega, hpN, fun i hi => by rw [e0 i hi]; have := pj i hi; omega⟩
    · rw [e0 j (by omega)]
      obtain ⟨q1, q2, q3⟩ := h3 j (by omega)
      exact ⟨q1, by omega, fun i hi => by rw [e0 i (by omega)]; exact q3 i hi⟩
  · by_cases z : j = n
    · rw [z, en]; exact nS
    · rw [e0 j (by omega)]; exact gP j (by omega)
  · by_cases z : j = n
    · rw [z, en]; exact nI
    · rw [e0 j (by omega)]; exact gI j (by omega)
  · by_cases z : j = n
    · rw [z] at e1 ⊢; rw [en]; exact nR e1
    · rw [e0 j (by omega), gR j (by omega) e1, pw_pa e0 (r1' _ (r4' j (by omega) e1))]
  · by_cases z : j = n
    · rw [z] at e1 ⊢; rw [en]; exact nD e1
    · rw [e0 j (by omega)]; exact gD j (by omega) e1
  · have e40 : ∀ y, sN s' 40 y = sN s 40 y := fun y => by unfold sN; rw [eF 40 (by omega)]
    obtain ⟨q1, q2, q3, q4, q5⟩ := KS.gn (s' := s') k4 G (fun x _ => by rw [eF 40 (by omega)]) (fun x hx => by
      obtain ⟨z1, z2, z3, z4, z5, z6, z7, z8, -⟩ := k4 x hx
      exact ⟨dP _ (by omega) (nL _ (by omega)) (by rw [z5]; decide), dP _ (by omega) (nL _ (by omega)) (by rw [z8]; decide)⟩) e he
    refine ⟨q1, q2, q3, fun j hj => ?_, q5⟩
    by_cases z : j = n
    · rw [z, en, e40]
      have := (k4 e he).2.1
      exact Or.inr (by omega)
    · rw [e0 j (by omega)]; exact q4 j (by omega)
  · obtain ⟨q1, q2, -⟩ := k4 e he
    exact dI _ (by omega) (nL _ (by omega)) (by omega)
  · intro j hj
    by_cases z : j = n
    · rw [z]
      have e6 : sN s' 6 n = hr := sN_of n6 (by omega)
      rw [e6]
      exact ⟨nC, fun t t1 t2 => by omega⟩
    · have hj' : j < n := by omega
      obtain ⟨j1, j2⟩ := k7 j hj'
      have e6 : sN s' 6 j = sN s 6 j := by unfold sN; rw [eP j hj' 6 (by omega) (by omega)]
      have e5 : sN s' 5 j = sN s 5 j := by unfold sN; rw [eP j hj' 5 (by omega) (by omega)]
      have eR : ∀ t k, k < 6 → Rt s' j t k = Rt s j t k := fun t k hk => by
        have e9 : sN s' 10 (160 * k + j) = sN s 10 (160 * k + j) := by unfold sN; rw [(eC j hj' k hk).1]
        unfold Rt
        rw [(eC j hj' k hk).1, e9]
      rw [e6, e5]
      refine ⟨fun k hk => by rw [eR _ _ hk]; exact j1 k hk, fun t ht1 ht2 k hk => ?_⟩
      rw [(G.2.2.2 (X + 3) (by omega)).2.2.2 (dI _ (by omega) (nLs _ (by omega)) (by omega)), eR _ _ hk, eR _ _ hk, j2 t ht1 ht2 k hk]
      congr 1
      exact anyB_congr (fun k' hk' => by rw [eR _ _ hk'])
end MD
