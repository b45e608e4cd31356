/-! ===== changes: the parts of the invariant, by the fields that they speak of ===== -/
section CG
variable {s s' : Nat → Nat → Int32} {n w a c hr : Nat}
theorem I0.cg (e : ∀ k, k = 1 ∨ k = 3 ∨ k = 12 ∨ k = 29 ∨ k = 37 → s' k = s k) (H : I0 s n w a c hr) : I0 s' n w a c hr := by
  unfold I0 at *
  rw [e 1 (by decide), e 3 (by decide), e 12 (by decide), e 29 (by decide), e 37 (by decide)]; exact H
theorem I1.cg (e : ∀ k, k = 4 ∨ k = 5 ∨ k = 6 ∨ k = 7 ∨ k = 13 ∨ k = 32 → s' k = s k) (H : I1 s n w a hr) : I1 s' n w a hr := by
  unfold I1 at *
  rw [e 4 (by decide), e 5 (by decide), e 6 (by decide), e 7 (by decide), e 13 (by decide), e 32 (by decide)]; exact H
theorem I2.cg (e : ∀ k, k = 6 ∨ k = 10 ∨ k = 11 → s' k = s k) (H : I2 s n hr) : I2 s' n hr := by
  unfold I2 sN at *
  rw [e 6 (by decide), e 10 (by decide), e 11 (by decide)]; exact H
theorem I3.cg (e : ∀ k, k = 4 ∨ k = 7 ∨ k = 13 ∨ k = 16 → s' k = s k) (H : I3 s n w) : I3 s' n w := by
  unfold I3 at *
  rw [e 4 (by decide), e 7 (by decide), e 13 (by decide), e 16 (by decide)]; exact H
theorem I4.cg (e : ∀ k, k = 4 ∨ k = 7 ∨ k = 32 ∨ k = 33 ∨ k = 36 → s' k = s k) (H : I4 s n w a) : I4 s' n w a := by
  unfold I4 at *
  rw [e 4 (by decide), e 7 (by decide), e 32 (by decide), e 33 (by decide), e 36 (by decide)]; exact H
theorem I5.cg (e : ∀ k, k = 30 ∨ k = 31 → s' k = s k) (H : I5 s a) : I5 s' a := by
  unfold I5 sN at *
  rw [e 30 (by decide), e 31 (by decide)]; exact H
theorem I6.cg (e : ∀ k, k = 30 ∨ k = 38 ∨ k = 39 ∨ k = 40 ∨ k = 41 → s' k = s k) (H : I6 s c) : I6 s' c := by
  unfold I6 sN at *
  rw [e 30 (by decide), e 38 (by decide), e 39 (by decide), e 40 (by decide), e 41 (by decide)]; exact H
theorem I7.cg (e : ∀ k, k = 2 ∨ k = 27 ∨ k = 28 → s' k = s k) (H : I7 s) : I7 s' := by
  unfold I7 at *
  rw [e 2 (by decide), e 27 (by decide), e 28 (by decide)]; exact H
theorem I8.cg (e : ∀ k, k = 5 ∨ k = 6 ∨ k = 10 → s' k = s k) (H : I8 s n) : I8 s' n := by
  unfold I8 sN at *
  rw [e 5 (by decide), e 6 (by decide), e 10 (by decide)]; exact H
theorem I9.cg (e : ∀ k, k = 30 ∨ k = 31 ∨ k = 36 → s' k = s k) (H : I9 s a) : I9 s' a := by
  unfold I9 sN at *
  rw [e 30 (by decide), e 31 (by decide), e 36 (by decide)]; exact H
end CG
/-- two kiosks joined, or cut -/
def uJ (s : Nat → Nat → Int32) (v u : Nat) : Nat → Nat → Int32 :=
  nk_u2 (nk_u2 s 2 v (s 2 v ^^^ (1 <<< (Int32.ofNat u &&& 31)))) 2 u (s 2 u ^^^ (1 <<< (Int32.ofNat v &&& 31)))
section JN
variable {h h' : nk_H} {X n w a c hr : Nat} {pa cp : Nat → Nat} {s s' m : Nat → Nat → Int32}
theorem uJ_k (s : Nat → Nat → Int32) (v u : Nat) {k : Nat} (hk : k ≠ 2) : uJ s v u k = s k := by
  funext j
  unfold uJ
  rw [u2_k _ _ _ _ _ hk, u2_k _ _ _ _ _ hk]
theorem six_xor {x : Int32} (hx : six x) {k : Nat} (hk : k < 6) : six (x ^^^ (1 <<< (Int32.ofNat k &&& 31))) := fun j h1 h2 => by
  rw [gb_xor, hx j h1 h2, gb_bit hk, decide_eq_false (by omega)]; rfl
theorem uJ_I (hI : Inv s n w a c hr) {v u : Nat} (hv : v < 6) (hu : u < 6) : Inv (uJ s v u) n w a c hr := by
  obtain ⟨i0, i1, i2, i3, i4, i5, i6, i7, i8, i9⟩ := hI
  have e : ∀ k, k ≠ 2 → uJ s v u k = s k := fun k hk => uJ_k s v u hk
  refine ⟨i0.cg (fun k hk => e k (by omega)), i1.cg (fun k hk => e k (by omega)), i2.cg (fun k hk => e k (by omega)), i3.cg (fun k hk => e k (by omega)), i4.cg (fun k hk => e k (by omega)), i5.cg (fun k hk => e k (by omega)), i6.cg (fun k hk => e k (by omega)), ?_, i8.cg (fun k hk => e k (by omega)), i9.cg (fun k hk => e k (by omega))⟩
  obtain ⟨j1, j2, j3⟩ := i7
  refine ⟨by rw [e 27 (by decide)]; exact j1, by rw [e 28 (by decide)]; exact j2, fun k hk => ?_⟩
  have sx : ∀ k, k < 6 → six (s 2 k) := fun k hk => by
    obtain ⟨b, hb, eb⟩ := j3 k hk
    rw [eb]; exact six_of hb
  have : six (uJ s v u 2 k) := by
    unfold uJ
    by_cases h1 : k = u
    · rw [h1, u2_eq]; exact six_xor (sx u hu) hv
    · rw [u2_j _ _ _ _ _ h1]
      by_cases h2 : k = v
      · rw [h2, u2_eq]; exact six_xor (sx v hv) hu
      · rw [u2_j _ _ _ _ _ h2]; exact sx k hk
  obtain ⟨b, hb, eb⟩ := six_ex this
  exact ⟨b, hb, eb⟩
/-- the relation, when the links alone change -/
theorem WR.links (W : WR h X n w a c hr pa cp s m) (G : Gn h h' (fun x => x = X + 2) no) (e : ∀ k, k ≠ 2 → s' k = s k) (e2 : ∀ k, k < 6 → nk_I h' (X + 2) k = s' 2 k) (hI' : Inv s' n w a c hr) : WR h' X n w a c hr pa cp s' m := by
  obtain ⟨H, h2, h3, h4, h5, hI⟩ := W
  have hN := H.2.2.2.2.2.2.2
  obtain ⟨m1, m2⟩ := MR.gn h3 G (by omega) (fun x x1 x2 => ⟨by omega, id⟩)
  have hO := CL.lt H.2.2.2.2.2.1
  refine ⟨?_, h2.gn G hN (fun _ _ _ => id) hO, m1, by rw [m2]; exact h4, h5.gn G hN, hI'⟩
  obtain ⟨⟨h1, h2, h3, h4, h5, h6, h7, h8, h9, h10⟩, k2, k3, k4, k5, ⟨l1, l2, l3, l4⟩, k7, k8⟩ := H
  obtain ⟨r1, r2, r3, r4⟩ := rg_pw hI
  have dj : ∀ j, j < n → ¬ pa j = X + 2 ∧ ¬ pa j + 1 = X + 2 ∧ ¬ pa j - 1 = X + 2 ∧ ¬ pa j + 2 = X + 2 := fun j hj => by
    have := (h3 j hj).1
    omega
  have ee : ∀ k j, k ≠ 2 → s' k j = s k j := fun k j hk => by rw [e k hk]
  have es : ∀ k j, k ≠ 2 → sN s' k j = sN s k j := fun k j hk => by unfold sN; rw [e k hk]
  have ha : ∀ r, ac s' pa r = ac s pa r := fun r => by unfold ac; rw [es _ _ (by decide)]
  have eW : eqW s s' w := fun q _ k hk1 _ => ee k q (by omega)
  have hd : ∀ d, nk_P h X 6 = some d → ¬ d = X + 2 := fun d hd e => by
    obtain ⟨d', e1, -, e3, e2, -⟩ := k3
    rw [hd] at e1
    cases e1
    omega
  refine ⟨⟨h1.gn G hN (fun _ _ _ => id), h2.gn G (by omega) (by omega) id (fun _ _ => id), h3.gn G, PS.gn h3 h4 G (fun j _ => ee 4 j (by decide)) (fun _ _ => id), PI.gn h3 h5 G (fun j hj => ⟨(dj j hj).1, (dj j hj).2.1⟩) (fun j _ => ee 5 j (by decide)) (fun j _ => ee 6 j (by decide)) (fun j _ k _ => ee 10 _ (by decide)) (fun j _ k _ => ee 11 _ (by decide)),
    PW.gn h3 h6 G r1 r2 eW (fun q hq => ⟨(dj _ (r1 q hq)).1, id⟩), PR.gn (w := w) h3 h7 G (fun j _ => ee 4 j (by decide)) (fun j _ => ee 7 j (by decide)) r4 eW (fun _ _ => id), PD.gn h3 h8 G (fun j _ => ⟨ee 4 j (by decide), ee 7 j (by decide), ee 8 j (by decide), ee 9 j (by decide)⟩) (fun j hj _ => (dj j hj).1),
    AS.gn (w := w) h3 h9 G r3 eW (fun x _ => ⟨ee 32 x (by decide), ee 33 _ (by decide)⟩) (fun _ _ => id), AI.gn h3 h9 h10 G (fun x hx => (r3 x hx).1) (fun x _ => ⟨ee 32 x (by decide), ee 34 x (by decide), ee 35 x (by decide), ee 36 x (by decide), fun i _ => ee 33 _ (by decide)⟩) (fun j _ => ⟨ee 5 j (by decide), ee 6 j (by decide)⟩) (fun e he => ⟨(dj _ (r3 e he).1).1, (dj _ (r3 e he).1).2.2.1, (dj _ (r3 e he).1).2.2.2⟩)⟩,
    ?_, k3.gn G (by omega) id hd (fun k hk _ => ee k 0 (by omega)), k4.gn G (fun x _ => ee 40 x (by decide)) (fun _ _ => ⟨id, id⟩), KI.gn k4 k5 G (fun x _ => ⟨ee 38 x (by decide), ee 39 x (by decide), ee 40 x (by decide), ee 41 x (by decide), ee 42 x (by decide), fun i _ => ⟨ee 44 _ (by decide), fun p _ => ee 43 _ (by decide)⟩⟩) (fun e he x hx _ => by have := (k4 e he).1; omega), ?_, ?_, Nat.le_trans k8 G.1⟩
  · obtain ⟨g1, g2, g3, g4⟩ := k2
    unfold CG
    rw [(G.2.2.2 X (by omega)).2.2.2 (by omega), ee 1 0 (by decide), ee 27 0 (by decide), ee 28 0 (by decide)]
    refine ⟨g1, g2, g3, fun k hk => ⟨e2 k hk, ?_⟩⟩
    rw [(G.2.2.2 (X + 9 + 2 * k) (by omega)).2.2.2 (by omega)]
    exact (g4 k hk).2
  · refine ⟨l1.gn G (by omega) (by omega) id (fun _ _ => id), LSq.el (l2.gn G (by omega) (by omega) id (fun _ _ => id)) (fun q hq => eW.epw hq), fun k hk => ?_, l4.gn G (by omega) (by omega) id (fun _ _ => id)⟩
    rw [es _ _ (by decide)]
    refine LSq.el ((l3 k hk).gn G (by omega) (by omega) id (fun _ _ => id)) (fun r hr9 => ?_)
    rw [es _ _ (by decide), ha]
  · intro j hj
    obtain ⟨j1, j2⟩ := k7 j hj
    have eR : ∀ t k, Rt s' j t k = Rt s j t k := fun t k => by
      unfold Rt
      rw [ee 10 _ (by decide), es _ _ (by decide)]
    refine ⟨fun k hk => by rw [es _ _ (by decide), es _ _ (by decide), eR]; exact j1 k hk, fun t ht1 ht2 k hk => ?_⟩
    rw [es _ _ (by decide)] at ht1
    rw [(G.2.2.2 (X + 3) (by omega)).2.2.2 (by omega), eR, eR, j2 t ht1 ht2 k hk]
    congr 1
    exact anyB_congr (fun k' _ => by rw [eR])
end JN
