section FX
variable {h h' : nk_H} {X n w a c hr : Nat} {pa cp : Nat → Nat} {s s' m : Nat → Nat → Int32}
/-- the relation, when the class's own fields, the links or the draft change -/
theorem WR.fix (W : WR h X n w a c hr pa cp s m) (G : Gn h h' (fun x => x = X ∨ x = X + 2) (fun x => x = X)) (e : ∀ k, k ≠ 2 → ¬ (22 ≤ k ∧ k ≤ 28) → s' k = s k) (hCF : CF h' X) (hCG : CG h' X s') (hCD : CD h' X s') (hI' : Inv s' n w a c hr) : WR h' X n w a c hr pa cp s' m := by
  obtain ⟨H, h2, h3, h4, h5, hI⟩ := W
  have hN := H.2.2.2.2.2.2.2
  obtain ⟨m1, m2⟩ := MR.gn h3 G (by omega) (fun x x1 x2 => ⟨by omega, by omega⟩)
  have hO := CL.lt H.2.2.2.2.2.1
  refine ⟨?_, ?_, m1, by rw [m2]; exact h4, h5.gn G hN, hI'⟩
  rotate_left
  · obtain ⟨ow, ho⟩ := h2
    refine ⟨ow, fun l e9 hl hp hk => ?_⟩
    have el : l < nk_N h ∧ l ≠ X := by rcases hl with rfl | rfl | rfl | ⟨k, hk, rfl⟩ <;> omega
    rw [(G.2.2.2 l el.1).2.2.1 el.2] at hp
    have he := hO l e9 hl hp
    rw [(G.2.2.2 e9 he).1] at hk
    exact ho l e9 hl hp hk
  obtain ⟨⟨h1, h2, h3, h4, h5, h6, h7, h8, h9, h10⟩, k2, k3, k4, k5, ⟨l1, l2, l3, l4⟩, k7, k8⟩ := H
  obtain ⟨r1, r2, r3, r4⟩ := rg_pw hI
  have dj : ∀ j, j < n → ¬ (pa j = X ∨ pa j = X + 2) ∧ ¬ (pa j + 1 = X ∨ pa j + 1 = X + 2) ∧ ¬ (pa j - 1 = X ∨ pa j - 1 = X + 2) ∧ ¬ (pa j + 2 = X ∨ pa j + 2 = X + 2) := fun j hj => by
    have := (h3 j hj).1
    omega
  have dp : ∀ j, j < n → ¬ pa j = X := fun j hj => by have := (h3 j hj).1; omega
  have lsX : ∀ {l m : Nat} {el : Nat → Nat}, LSq h l m el → ∀ e, nk_P h l 1 = some e → ¬ e = X := fun L e he e9 => by
    obtain ⟨-, -, -, e', q1, -, q2⟩ := L
    rw [he] at q1
    cases q1
    have k18 := h1.1
    rw [e9] at q2
    rcases q2 with ⟨q, -⟩ | ⟨q, -⟩ <;> omega
  have ee : ∀ k j, k ≠ 2 → ¬ (22 ≤ k ∧ k ≤ 28) → s' k j = s k j := fun k j hk hk2 => by rw [e k hk hk2]
  have es : ∀ k j, k ≠ 2 → ¬ (22 ≤ k ∧ k ≤ 28) → sN s' k j = sN s k j := fun k j hk hk2 => by unfold sN; rw [e k hk hk2]
  have ha : ∀ r, ac s' pa r = ac s pa r := fun r => by unfold ac; rw [es _ _ (by decide) (by decide)]
  have eW : eqW s s' w := fun q _ k hk1 hk2 => ee k q (by omega) (by omega)
  refine ⟨⟨hCF, h2.gn G (by omega) (by omega) (by omega) (lsX h2), h3.gn G, PS.gn h3 h4 G (fun j _ => ee 4 j (by decide) (by decide)) dp, PI.gn h3 h5 G (fun j hj => ⟨(dj j hj).1, (dj j hj).2.1⟩) (fun j _ => ee 5 j (by decide) (by decide)) (fun j _ => ee 6 j (by decide) (by decide)) (fun j _ k _ => ee 10 _ (by decide) (by decide)) (fun j _ k _ => ee 11 _ (by decide) (by decide)),
    PW.gn h3 h6 G r1 r2 eW (fun q hq => ⟨(dj _ (r1 q hq)).1, dp _ (r1 q hq)⟩), PR.gn (w := w) h3 h7 G (fun j _ => ee 4 j (by decide) (by decide)) (fun j _ => ee 7 j (by decide) (by decide)) r4 eW dp, PD.gn h3 h8 G (fun j _ => ⟨ee 4 j (by decide) (by decide), ee 7 j (by decide) (by decide), ee 8 j (by decide) (by decide), ee 9 j (by decide) (by decide)⟩) (fun j hj _ => (dj j hj).1),
    AS.gn (w := w) h3 h9 G r3 eW (fun x _ => ⟨ee 32 x (by decide) (by decide), ee 33 _ (by decide) (by decide)⟩) (fun e he => dp _ (r3 e he).1), AI.gn h3 h9 h10 G (fun x hx => (r3 x hx).1) (fun x _ => ⟨ee 32 x (by decide) (by decide), ee 34 x (by decide) (by decide), ee 35 x (by decide) (by decide), ee 36 x (by decide) (by decide), fun i _ => ee 33 _ (by decide) (by decide)⟩) (fun j _ => ⟨ee 5 j (by decide) (by decide), ee 6 j (by decide) (by decide)⟩) (fun e he => ⟨(dj _ (r3 e he).1).1, (dj _ (r3 e he).1).2.2.1, (dj _ (r3 e he).1).2.2.2⟩)⟩,
    hCG, hCD, k4.gn G (fun x _ => ee 40 x (by decide) (by decide)) (fun q hq => by have := (k4 q hq).1; exact ⟨by omega, by omega⟩), KI.gn k4 k5 G (fun x _ => ⟨ee 38 x (by decide) (by decide), ee 39 x (by decide) (by decide), ee 40 x (by decide) (by decide), ee 41 x (by decide) (by decide), ee 42 x (by decide) (by decide), fun i _ => ⟨ee 44 _ (by decide) (by decide), fun p _ => ee 43 _ (by decide) (by decide)⟩⟩) (fun e he x hx _ => by have := (k4 e he).1; omega), ?_, ?_, Nat.le_trans k8 G.1⟩
  · refine ⟨l1.gn G (by omega) (by omega) (by omega) (lsX l1), LSq.el (l2.gn G (by omega) (by omega) (by omega) (lsX l2)) (fun q hq => eW.epw hq), fun k hk => ?_, l4.gn G (by omega) (by omega) (by omega) (lsX l4)⟩
    rw [es _ _ (by decide) (by decide)]
    refine LSq.el ((l3 k hk).gn G (by omega) (by omega) (by omega) (lsX (l3 k hk))) (fun r hr9 => ?_)
    rw [es _ _ (by decide) (by decide), ha]
  · intro j hj
    obtain ⟨j1, j2⟩ := k7 j hj
    have eR : ∀ t k, Rt s' j t k = Rt s j t k := fun t k => by
      unfold Rt
      rw [ee 10 _ (by decide) (by decide), es _ _ (by decide) (by decide)]
    refine ⟨fun k hk => by rw [es _ _ (by decide) (by decide), es _ _ (by decide) (by decide), eR]; exact j1 k hk, fun t ht1 ht2 k hk => ?_⟩
    rw [es _ _ (by decide) (by decide)] at ht1
    rw [(G.2.2.2 (X + 3) (by omega)).2.2.2 (by omega), eR, eR, j2 t ht1 ht2 k hk]
    congr 1
    exact anyB_congr (fun k' _ => by rw [eR])
end FX
