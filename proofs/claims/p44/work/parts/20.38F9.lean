section FX
variable {h h' : nk_H} {X n w a c hr : Nat} {pa cp : Nat → Nat} {s s' m : Nat → Nat → Int32}
/-- the relation, when a part told in a record changes -/
theorem WR.told (W : WR h X n w a c hr pa cp s m) {q : Nat} (hq : q < a) (G : Gn h h' (fun x => x = ac s pa q + 2) no) (e : ∀ k, k ≠ 33 → s' k = s k) (e33 : ∀ x, x < a → s' 33 (6 * x + 1) = s 33 (6 * x + 1)) (e3 : AI h' a pa s') (hI' : Inv s' n w a c hr) : WR h' X n w a c hr pa cp s' m := by
  obtain ⟨H, h2, h3, h4, h5, hI⟩ := W
  have hN := H.2.2.2.2.2.2.2
  obtain ⟨r1', r2', r3', r4'⟩ := rg_pw hI
  have hqn := (r3' q hq).1
  have hpa := H.1.2.2.1
  have hq1 := (hpa _ hqn).1
  have kk := (H.1.2.2.2.2.2.2.2.2.1 q hq).2.2.2.2.1
  have hac : ac s pa q = pa (sN s 32 q) := rfl
  obtain ⟨m1, m2⟩ := MR.gn h3 G (by omega) (fun x x1 x2 => ⟨by omega, id⟩)
  have hO := CL.lt H.2.2.2.2.2.1
  refine ⟨?_, h2.gn G hN (fun _ _ _ => id) hO, m1, by rw [m2]; exact h4, h5.gn G hN, hI'⟩
  obtain ⟨⟨h1, h2, h3, h4, h5, h6, h7, h8, h9, h10⟩, k2, k3, k4, k5, ⟨l1, l2, l3, l4⟩, k7, k8⟩ := H
  obtain ⟨r1, r2, r3, r4⟩ := rg_pw hI
  have dj : ∀ j, j < n → ¬ pa j = ac s pa q + 2 ∧ ¬ pa j + 1 = ac s pa q + 2 := fun j hj => by
    have p1 := (h4 j hj).1
    have p2 := (h4 _ hqn).2.2.1
    have p3 : nk_K h (pa j) ≠ 1 := by
      rcases pk_cases hI hj with ⟨-, e⟩ | ⟨-, e⟩ | ⟨-, e⟩ | ⟨-, e⟩ <;> rw [p1, e] <;> decide
    refine ⟨fun e => p3 (by rw [e]; exact kk), fun e => p3 ?_⟩
    have e2 : pa j = pa (sN s 32 q) + 1 := by omega
    rw [e2]; exact p2
  have ee : ∀ k j, k ≠ 33 → s' k j = s k j := fun k j hk => by rw [e k hk]
  have es : ∀ k j, k ≠ 33 → sN s' k j = sN s k j := fun k j hk => by unfold sN; rw [e k hk]
  have ha : ∀ r, ac s' pa r = ac s pa r := fun r => by unfold ac; rw [es _ _ (by decide)]
  have eW : eqW s s' w := fun q _ k hk1 _ => ee k q (by omega)
  have hd : ∀ d, nk_P h X 6 = some d → ¬ d = ac s pa q + 2 := fun d hd e => by
    obtain ⟨d', e1, -, -, e2, -⟩ := k3
    rw [hd] at e1
    cases e1
    rw [e, kk] at e2
    cases e2
  refine ⟨⟨h1.gn G hN (fun _ _ _ => id), h2.gn G (by omega) (by omega) id (fun _ _ => id), h3.gn G, PS.gn h3 h4 G (fun j _ => ee 4 j (by decide)) (fun _ _ => id), PI.gn h3 h5 G dj (fun j _ => ee 5 j (by decide)) (fun j _ => ee 6 j (by decide)) (fun j _ k _ => ee 10 _ (by decide)) (fun j _ k _ => ee 11 _ (by decide)),
    PW.gn h3 h6 G r1 r2 eW (fun q hq => ⟨(dj _ (r1 q hq)).1, id⟩), PR.gn (w := w) h3 h7 G (fun j _ => ee 4 j (by decide)) (fun j _ => ee 7 j (by decide)) r4 eW (fun _ _ => id), PD.gn h3 h8 G (fun j _ => ⟨ee 4 j (by decide), ee 7 j (by decide), ee 8 j (by decide), ee 9 j (by decide)⟩) (fun j hj _ => (dj j hj).1),
    AS.gn (w := w) h3 h9 G r3 eW (fun x hx => ⟨ee 32 x (by decide), e33 x hx⟩) (fun _ _ => id), e3⟩,
    k2.gn G k8 (by omega) (by omega) (fun k _ => by omega) (ee 1 0 (by decide)) (ee 27 0 (by decide)) (ee 28 0 (by decide)) (fun k _ => ee 2 k (by decide)), k3.gn G (by omega) id hd (fun k hk _ => ee k 0 (by omega)), k4.gn G (fun x _ => ee 40 x (by decide)) (fun _ _ => ⟨id, id⟩), KI.gn k4 k5 G (fun x _ => ⟨ee 38 x (by decide), ee 39 x (by decide), ee 40 x (by decide), ee 41 x (by decide), ee 42 x (by decide), fun i _ => ⟨ee 44 _ (by decide), fun p _ => ee 43 _ (by decide)⟩⟩) (fun e he x hx hx2 hx3 => by
      have hx4 : x = ac s pa q + 2 := hx3
      have g := (k4 e he).2.2.2.1 _ hqn
      have g2 := (k4 e he).2.2.2.2.1
      have g3 : x = cp e := by omega
      rw [← g3, hx4, kk] at g2
      exact absurd g2 (by decide)), ?_, ?_, Nat.le_trans k8 G.1⟩
  · refine ⟨l1.gn G (by omega) (by omega) id (fun _ _ => id), LSq.el (l2.gn G (by omega) (by omega) id (fun _ _ => id)) (fun q hq => eW.epw hq), fun k hk => ?_, l4.gn G (by omega) (by omega) id (fun _ _ => id)⟩
    rw [es _ _ (by decide)]
    refine LSq.el ((l3 k hk).gn G (by omega) (by omega) id (fun _ _ => id)) (fun r hr9 => ?_)
    rw [es _ _ (by decide), ha]
  · intro j hj
    obtain ⟨j1, j2⟩ := k7 j hj
    have eR : ∀ t k, Rt s' j t k = Rt s j t k := fun t k => by
      unfold Rt
      rw [ee 10 _ (by decide), es _ _ (by decide)]
    refine ⟨fun k hk => by rw [es _ _ (by decide), es _ _ (by decide), eR]; exact j1 k hk, fun t ht1 ht2 k hk => ?_⟩
    rw [es _ _ (by decide)] at ht1
    rw [(G.2.2.2 (X + 3) (by omega)).2.2.2 (by omega), eR, eR, j2 t ht1 ht2 k hk]
    congr 1
    exact anyB_congr (fun k' _ => by rw [eR])
end FX
