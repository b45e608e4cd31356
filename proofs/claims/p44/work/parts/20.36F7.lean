section FX
variable {h h' : nk_H} {X n w a c hr : Nat} {pa cp : Nat → Nat} {s s' m : Nat → Nat → Int32}
/-- the relation, when a part told in a copy changes -/
theorem WR.part (W : WR h X n w a c hr pa cp s m) {q i : Nat} (hq : q < c) (hi : i < sN s 40 q) (G : Gn h h' (fun x => x = cp q + 2 + i) no) (e : ∀ k, k ≠ 43 → s' k = s k) (e3 : KI h' c cp s') (hI' : Inv s' n w a c hr) : WR h' X n w a c hr pa cp s' m := by
  obtain ⟨H, h2, h3, h4, h5, hI⟩ := W
  have hN := H.2.2.2.2.2.2.2
  have Kq := H.2.2.2.1 q hq
  have hq1 := Kq.1
  have hdj := Kq.2.2.2.1
  have kk := (Kq.2.2.2.2.2.2.2.2.2.2.2 i hi).2.1
  obtain ⟨m1, m2⟩ := MR.gn h3 G (by omega) (fun x x1 x2 => ⟨by omega, id⟩)
  have hO := CL.lt H.2.2.2.2.2.1
  refine ⟨?_, h2.gn G hN (fun _ _ _ => id) hO, m1, by rw [m2]; exact h4, h5.gn G hN, hI'⟩
  obtain ⟨⟨h1, h2, h3, h4, h5, h6, h7, h8, h9, h10⟩, k2, k3, k4, k5, ⟨l1, l2, l3, l4⟩, k7, k8⟩ := H
  obtain ⟨r1, r2, r3, r4⟩ := rg_pw hI
  have dj : ∀ j, j < n → ¬ pa j = cp q + 2 + i ∧ ¬ pa j + 1 = cp q + 2 + i ∧ ¬ pa j - 1 = cp q + 2 + i ∧ ¬ pa j + 2 = cp q + 2 + i := fun j hj => by
    have := (h3 j hj).1
    have := hdj j hj
    omega
  have ee : ∀ k j, k ≠ 43 → s' k j = s k j := fun k j hk => by rw [e k hk]
  have es : ∀ k j, k ≠ 43 → sN s' k j = sN s k j := fun k j hk => by unfold sN; rw [e k hk]
  have ha : ∀ r, ac s' pa r = ac s pa r := fun r => by unfold ac; rw [es _ _ (by decide)]
  have eW : eqW s s' w := fun q _ k hk1 _ => ee k q (by omega)
  have hd : ∀ d, nk_P h X 6 = some d → ¬ d = cp q + 2 + i := fun d hd e => by
    obtain ⟨d', e1, -, -, e2, -⟩ := k3
    rw [hd] at e1
    cases e1
    rw [e, kk] at e2
    cases e2
  refine ⟨⟨h1.gn G hN (fun _ _ _ => id), h2.gn G (by omega) (by omega) id (fun _ _ => id), h3.gn G, PS.gn h3 h4 G (fun j _ => ee 4 j (by decide)) (fun _ _ => id), PI.gn h3 h5 G (fun j hj => ⟨(dj j hj).1, (dj j hj).2.1⟩) (fun j _ => ee 5 j (by decide)) (fun j _ => ee 6 j (by decide)) (fun j _ k _ => ee 10 _ (by decide)) (fun j _ k _ => ee 11 _ (by decide)),
    PW.gn h3 h6 G r1 r2 eW (fun q hq => ⟨(dj _ (r1 q hq)).1, id⟩), PR.gn (w := w) h3 h7 G (fun j _ => ee 4 j (by decide)) (fun j _ => ee 7 j (by decide)) r4 eW (fun _ _ => id), PD.gn h3 h8 G (fun j _ => ⟨ee 4 j (by decide), ee 7 j (by decide), ee 8 j (by decide), ee 9 j (by decide)⟩) (fun j hj _ => (dj j hj).1),
    AS.gn (w := w) h3 h9 G r3 eW (fun x _ => ⟨ee 32 x (by decide), ee 33 _ (by decide)⟩) (fun _ _ => id), AI.gn h3 h9 h10 G (fun x hx => (r3 x hx).1) (fun x _ => ⟨ee 32 x (by decide), ee 34 x (by decide), ee 35 x (by decide), ee 36 x (by decide), fun i _ => ee 33 _ (by decide)⟩) (fun j _ => ⟨ee 5 j (by decide), ee 6 j (by decide)⟩) (fun e he => ⟨(dj _ (r3 e he).1).1, (dj _ (r3 e he).1).2.2.1, (dj _ (r3 e he).1).2.2.2⟩)⟩,
    k2.gn G k8 (by omega) (by omega) (fun k _ => by omega) (ee 1 0 (by decide)) (ee 27 0 (by decide)) (ee 28 0 (by decide)) (fun k _ => ee 2 k (by decide)), k3.gn G (by omega) id hd (fun k hk _ => ee k 0 (by omega)), k4.gn G (fun x _ => ee 40 x (by decide)) (fun _ _ => ⟨id, id⟩), e3, ?_, ?_, Nat.le_trans k8 G.1⟩
  · refine ⟨l1.gn G (by omega) (by omega) id (fun _ _ => id), LSq.el (l2.gn G (by omega) (by omega) id (fun _ _ => id)) (fun q hq => eW.epw hq), fun k hk => ?_, l4.gn G (by omega) (by omega) id (fun _ _ => id)⟩
    rw [es _ _ (by decide)]
    refine LSq.el ((l3 k hk).gn G (by omega) (by omega) id (fun _ _ => id)) (fun r hr9 => ?_)
    rw [es _ _ (by decide), ha]
  · intro j hj
    obtain ⟨j1, j2⟩ := k7 j hj
    have eR : ∀ t k, Rt s' j t k = Rt s j t k := fun t k => by
      unfold Rt
      rw [ee 10 _ (by decide), es _ _ (by decide)]
    refine ⟨fun k hk => by rw [es _ _ (by decide), es _ _ (by decide), eR]; exact j1 k hk, fun t ht1 ht2 k hk => ?_⟩
    rw [es _ _ (by decide)] at ht1
    rw [(G.2.2.2 (X + 3) (by omega)).2.2.2 (by omega), eR, eR, j2 t ht1 ht2 k hk]
    congr 1
    exact anyB_congr (fun k' _ => by rw [eR])
end FX
