/-! ===== what a change leaves ===== -/
/-- the cells that were there keep their kind and length; the pointers but in DP, the ints but in DI -/
def Gn (h h' : nk_H) (DI DP : Nat → Prop) : Prop := nk_N h ≤ nk_N h' ∧ nk_E h' = nk_E h ∧ nk_M h' = nk_M h ∧ ∀ x, x < nk_N h → nk_K h' x = nk_K h x ∧ nk_L h' x = nk_L h x ∧ (¬ DP x → nk_P h' x = nk_P h x) ∧ (¬ DI x → nk_I h' x = nk_I h x)
def no : Nat → Prop := fun _ => False
theorem Gn.refl (h : nk_H) (DI DP : Nat → Prop) : Gn h h DI DP := ⟨Nat.le_refl _, rfl, rfl, fun _ _ => ⟨rfl, rfl, fun _ => rfl, fun _ => rfl⟩⟩
theorem Gn.trans {h h1 h2 : nk_H} {DI DP : Nat → Prop} (a : Gn h h1 DI DP) (b : Gn h1 h2 DI DP) : Gn h h2 DI DP := by
  obtain ⟨a1, a2, a3, a4⟩ := a
  obtain ⟨b1, b2, b3, b4⟩ := b
  refine ⟨Nat.le_trans a1 b1, b2.trans a2, b3.trans a3, fun x hx => ?_⟩
  obtain ⟨c1, c2, c3, c4⟩ := a4 x hx
  obtain ⟨d1, d2, d3, d4⟩ := b4 x (Nat.lt_of_lt_of_le hx a1)
  exact ⟨d1.trans c1, d2.trans c2, fun z => (d3 z).trans (c3 z), fun z => (d4 z).trans (c4 z)⟩
theorem Gn.mono {h h1 : nk_H} {DI DP DI' DP' : Nat → Prop} (a : Gn h h1 DI DP) (hI : ∀ x, DI x → DI' x) (hP : ∀ x, DP x → DP' x) : Gn h h1 DI' DP' := by
  obtain ⟨a1, a2, a3, a4⟩ := a
  refine ⟨a1, a2, a3, fun x hx => ?_⟩
  obtain ⟨c1, c2, c3, c4⟩ := a4 x hx
  exact ⟨c1, c2, fun z => c3 (fun y => z (hP x y)), fun z => c4 (fun y => z (hI x y))⟩
theorem Gn_al (h : nk_H) (c n w : Nat) (DI DP : Nat → Prop) : Gn h (nk_al h c n w) DI DP := by
  refine ⟨by rw [nk_N_al]; omega, rfl, rfl, fun x hx => ?_⟩
  have e : x ≠ nk_N h := by omega
  refine ⟨?_, ?_, fun _ => ?_, fun _ => ?_⟩
  · rw [nk_K_al, nk_u1_ne _ _ _ e]
  · rw [nk_L_al, nk_u1_ne _ _ _ e]
  · rw [nk_P_al, nk_u1_ne _ _ _ e]
  · rw [nk_I_al, nk_u1_ne _ _ _ e]
theorem Gn_sI (h : nk_H) (b j : Nat) (v : Int32) (DP : Nat → Prop) {DI : Nat → Prop} (hb : DI b ∨ nk_N h ≤ b) : Gn h (nk_sI h b j v) DI DP := by
  refine ⟨Nat.le_refl _, rfl, rfl, fun x hx => ⟨rfl, rfl, fun _ => rfl, fun z => ?_⟩⟩
  funext y
  refine nk_u2_ne _ _ _ _ y (fun e => ?_)
  rcases hb with hb | hb
  · exact z (by rw [e]; exact hb)
  · omega
theorem Gn_sP (h : nk_H) (b j : Nat) (v : Option Nat) (DI : Nat → Prop) {DP : Nat → Prop} (hb : DP b ∨ nk_N h ≤ b) : Gn h (nk_sP h b j v) DI DP := by
  refine ⟨Nat.le_refl _, rfl, rfl, fun x hx => ⟨rfl, rfl, fun z => ?_, fun _ => rfl⟩⟩
  funext y
  refine nk_u2_ne _ _ _ _ y (fun e => ?_)
  rcases hb with hb | hb
  · exact z (by rw [e]; exact hb)
  · omega
section CGN
variable {h h' : nk_H} {DI DP : Nat → Prop} {X n w a c : Nat} {pa cp : Nat → Nat} {s s' : Nat → Nat → Int32}
theorem CF.gn (H : CF h X) (G : Gn h h' DI DP) (hN : X + 57 ≤ nk_N h) (hD : ∀ x, X ≤ x → x ≤ X + 22 → ¬ DP x) : CF h' X := by
  have e : ∀ x, X ≤ x → x ≤ X + 22 → nk_K h' x = nk_K h x ∧ nk_L h' x = nk_L h x ∧ nk_P h' x = nk_P h x := fun x h1 h2 => by
    obtain ⟨g1, g2, g3, -⟩ := G.2.2.2 x (by omega)
    exact ⟨g1, g2, g3 (hD x h1 h2)⟩
  obtain ⟨a1, a2, a3, a4, a5, a6, ⟨b1, b2, b3, b4, b5, b6, b7⟩, ⟨c1, c2, c3, c4, c5⟩, ⟨d1, d2⟩, f⟩ := H
  unfold CF
  rw [(e X (by omega) (by omega)).1, (e X (by omega) (by omega)).2.2, (e (X + 1) (by omega) (by omega)).1, (e (X + 1) (by omega) (by omega)).2.2, (e (X + 2) (by omega) (by omega)).1, (e (X + 2) (by omega) (by omega)).2.1, (e (X + 3) (by omega) (by omega)).1, (e (X + 3) (by omega) (by omega)).2.1, (e (X + 4) (by omega) (by omega)).1, (e (X + 4) (by omega) (by omega)).2.2, (e (X + 6) (by omega) (by omega)).1, (e (X + 6) (by omega) (by omega)).2.1, (e (X + 8) (by omega) (by omega)).1, (e (X + 8) (by omega) (by omega)).2.1, (e (X + 8) (by omega) (by omega)).2.2]
  refine ⟨a1, a2, a3, a4, a5, a6, ⟨b1, b2, b3, b4, b5, b6, b7⟩, ⟨c1, c2, c3, c4, c5⟩, ⟨d1, d2⟩, fun k hk => ?_⟩
  rw [(e (X + 9 + 2 * k) (by omega) (by omega)).1, (e (X + 9 + 2 * k) (by omega) (by omega)).2.2]
  exact f k hk
theorem LSq.gn {l m : Nat} {el : Nat → Nat} (H : LSq h l m el) (G : Gn h h' DI DP) (hl : l < nk_N h) (d1 : ¬ DI l) (d2 : ¬ DP l) (d3 : ∀ e, nk_P h l 1 = some e → ¬ DP e) : LSq h' l m el := by
  obtain ⟨h1, h2, h3, e, h4, h5, hh⟩ := H
  obtain ⟨g1, g2, g3, g4⟩ := G.2.2.2 l hl
  obtain ⟨k1, k2, k3, -⟩ := G.2.2.2 e h5
  refine ⟨by rw [g1]; exact h1, by rw [g4 d1]; exact h2, h3, e, by rw [g3 d2]; exact h4, Nat.lt_of_lt_of_le h5 G.1, ?_⟩
  rcases hh with ⟨q1, q2, q3⟩ | ⟨q1, q2, q3, q4, q5⟩
  · exact Or.inl ⟨by rw [k1]; exact q1, q2, by rw [G.2.1]; exact q3⟩
  · refine Or.inr ⟨by rw [k1]; exact q1, by rw [k2]; exact q2, by rw [k2]; exact q3, by rw [k2]; exact q4, fun i hi => ?_⟩
    obtain ⟨r1, r2, r3, r4⟩ := q5 i hi
    have r5 := (G.2.2.2 (el i) r2).1
    exact ⟨by rw [k3 (d3 e h4)]; exact r1, Nat.lt_of_lt_of_le r2 G.1, by rw [r5]; exact r3, by rw [r5]; exact r4⟩
theorem PA.gn (H : PA h X n pa) (G : Gn h h' DI DP) : PA h' X n pa := fun j hj => ⟨(H j hj).1, Nat.le_trans (H j hj).2.1 G.1, (H j hj).2.2⟩
theorem PS.gn (A : PA h X n pa) (H : PS h n pa s) (G : Gn h h' DI DP) (hs : ∀ j, j < n → s' 4 j = s 4 j) (hD : ∀ j, j < n → ¬ DP (pa j)) : PS h' n pa s' := by
  intro j hj
  have hN := (A j hj).2.1
  obtain ⟨g1, g2, g3, -⟩ := G.2.2.2 (pa j) (by omega)
  obtain ⟨k1, k2, -, -⟩ := G.2.2.2 (pa j + 1) (by omega)
  rw [hs j hj, g1, g3 (hD j hj), k1, k2]
  exact H j hj
/-- one piece's ints -/
def PI1 (h : nk_H) (p j : Nat) (s : Nat → Nat → Int32) : Prop := nk_I h p 0 = Int32.ofNat j ∧ nk_I h p 1 = s 5 j ∧ nk_I h p 2 = s 6 j ∧
  (∀ k, k < 32 → gb (nk_I h p 3) k = (decide (k < 6) && !decide (s 10 (160 * k + j) = -1))) ∧ (∀ k, k < 32 → gb (nk_I h p 4) k = (decide (k < 6) && decide (s 11 (160 * k + j) = 1))) ∧
  ∀ k, k < 6 → nk_I h (p + 1) k = s 10 (160 * k + j)
theorem PI1.gn {j : Nat} {p : Nat} (H : PI1 h p j s) (G : Gn h h' DI DP) (hN : p + 1 < nk_N h) (d1 : ¬ DI p) (d2 : ¬ DI (p + 1)) (e5 : s' 5 j = s 5 j) (e6 : s' 6 j = s 6 j) (e10 : ∀ k, k < 6 → s' 10 (160 * k + j) = s 10 (160 * k + j)) (e11 : ∀ k, k < 6 → s' 11 (160 * k + j) = s 11 (160 * k + j)) : PI1 h' p j s' := by
  obtain ⟨-, -, -, g4⟩ := G.2.2.2 p (by omega)
  obtain ⟨-, -, -, k4⟩ := G.2.2.2 (p + 1) hN
  unfold PI1
  rw [g4 d1, k4 d2, e5, e6]
  obtain ⟨h1, h2, h3, h4, h5, h6⟩ := H
  refine ⟨h1, h2, h3, fun k hk => ?_, fun k hk => ?_, fun k hk => ?_⟩
  · rw [h4 k hk]
    by_cases h9 : k < 6
    · rw [e10 k h9]
    · rw [decide_eq_false h9, Bool.false_and, Bool.false_and]
  · rw [h5 k hk]
    by_cases h9 : k < 6
    · rw [e11 k h9]
    · rw [decide_eq_false h9, Bool.false_and, Bool.false_and]
  · rw [e10 k hk]; exact h6 k hk
theorem PI.gn (A : PA h X n pa) (H : PI h n pa s) (G : Gn h h' DI DP) (d : ∀ j, j < n → ¬ DI (pa j) ∧ ¬ DI (pa j + 1)) (e5 : ∀ j, j < n → s' 5 j = s 5 j) (e6 : ∀ j, j < n → s' 6 j = s 6 j) (e10 : ∀ j, j < n → ∀ k, k < 6 → s' 10 (160 * k + j) = s 10 (160 * k + j)) (e11 : ∀ j, j < n → ∀ k, k < 6 → s' 11 (160 * k + j) = s 11 (160 * k + j)) : PI h' n pa s' := by
  intro j hj
  have hN := (A j hj).2.1
  exact PI1.gn (H j hj) G (by omega) (d j hj).1 (d j hj).2 (e5 j hj) (e6 j hj) (e10 j hj) (e11 j hj)
/-- the powers' part of the state is the same -/
def eqW (s s' : Nat → Nat → Int32) (w : Nat) : Prop := ∀ q, q < w → ∀ k, 13 ≤ k → k ≤ 21 → s' k q = s k q
theorem eqW.epw (e : eqW s s' w) {q : Nat} (hq : q < w) : pw s' pa q = pw s pa q := by
  unfold pw sN; rw [e q hq 13 (by omega) (by omega)]
theorem omap_congr {α : Type} {f g : Nat → α} (o : Option Nat) (e : ∀ r, o = some r → f r = g r) : o.map f = o.map g := by
  cases o with
  | none => rfl
  | some r => exact congrArg some (e r rfl)
theorem src_congr {q : Nat} (e : s' 16 q = s 16 q) : src s' q = src s q := by
  unfold src sN
  rw [e]
theorem PW.gn (A : PA h X n pa) (H : PW h w pa s) (G : Gn h h' DI DP) (hp : ∀ q, q < w → sN s 13 q < n) (hsrc : ∀ q r, q < w → src s q = some r → r < w) (e : eqW s s' w) (d : ∀ q, q < w → ¬ DI (pw s pa q) ∧ ¬ DP (pw s pa q)) : PW h' w pa s' := by
  intro q hq
  have hN := (A _ (hp q hq)).2.1
  obtain ⟨-, -, g3, g4⟩ := G.2.2.2 (pw s pa q) (by show pa (sN s 13 q) < _; omega)
  rw [e.epw hq, g3 (d q hq).2, g4 (d q hq).1]
  have e9 : src s' q = src s q := src_congr (e q hq 16 (by omega) (by omega))
  have e14 := e q hq 14 (by omega) (by omega)
  have e15 := e q hq 15 (by omega) (by omega)
  have e17 := e q hq 17 (by omega) (by omega)
  have e18 := e q hq 18 (by omega) (by omega)
  have e19 := e q hq 19 (by omega) (by omega)
  have e20 := e q hq 20 (by omega) (by omega)
  have e21 := e q hq 21 (by omega) (by omega)
  have e8 : (src s q).map (pw s' pa) = (src s q).map (pw s pa) := omap_congr (src s q) (fun r hr => e.epw (hsrc q r hq hr))
  obtain ⟨r1, r2, r3, r4, r5, r6, r7, r8, r9⟩ := H q hq
  exact ⟨r1, r2.trans (by rw [e9, e8]), r3.trans e14.symm, r4.trans e15.symm, r5.trans e17.symm, r6.trans e18.symm, r7.trans e19.symm, r8.trans e20.symm, r9.trans e21.symm⟩
theorem PR.gn (A : PA h X n pa) (H : PR h n pa s) (G : Gn h h' DI DP) (e4 : ∀ j, j < n → s' 4 j = s 4 j) (e7 : ∀ j, j < n → s' 7 j = s 7 j) (hw : ∀ j, j < n → s 4 j = 1 → sN s 7 j < w) (e : eqW s s' w) (d : ∀ j, j < n → ¬ DP (pa j)) : PR h' n pa s' := by
  intro j hj h1
  have hN := (A j hj).2.1
  obtain ⟨-, -, g3, -⟩ := G.2.2.2 (pa j) (by omega)
  rw [e4 j hj] at h1
  have e9 : sN s' 7 j = sN s 7 j := by unfold sN; rw [e7 j hj]
  rw [g3 (d j hj), e9, e.epw (hw j hj h1)]
  exact H j hj h1
theorem PD.gn (A : PA h X n pa) (H : PD h n pa s) (G : Gn h h' DI DP) (e : ∀ j, j < n → s' 4 j = s 4 j ∧ s' 7 j = s 7 j ∧ s' 8 j = s 8 j ∧ s' 9 j = s 9 j) (d : ∀ j, j < n → s 4 j = 2 → ¬ DI (pa j)) : PD h' n pa s' := by
  intro j hj h1
  have hN := (A j hj).2.1
  obtain ⟨-, -, -, g4⟩ := G.2.2.2 (pa j) (by omega)
  obtain ⟨e4, e7, e8, e9⟩ := e j hj
  rw [e4] at h1
  rw [g4 (d j hj h1), e7, e8, e9]
  exact H j hj h1
/-- one act's structure, ints -/
theorem AS.gn (A : PA h X n pa) (H : AS h X a pa s) (G : Gn h h' DI DP) (hp : ∀ e, e < a → sN s 32 e < n ∧ sN s 33 (6 * e + 1) < w) (e : eqW s s' w) (e32 : ∀ e, e < a → s' 32 e = s 32 e ∧ s' 33 (6 * e + 1) = s 33 (6 * e + 1)) (d : ∀ e, e < a → ¬ DP (ac s pa e)) : AS h' X a pa s' := by
  intro x hx
  obtain ⟨p1, p2⟩ := hp x hx
  have hN := (A _ p1).2.1
  have hX := (A _ p1).1
  obtain ⟨q1, q2⟩ := e32 x hx
  have ea : ac s' pa x = ac s pa x := by unfold ac sN; rw [q1]
  have eb : sN s' 33 (6 * x + 1) = sN s 33 (6 * x + 1) := by unfold sN; rw [q2]
  have hacd : ac s pa x = pa (sN s 32 x) := rfl
  obtain ⟨z1, z2, z3, z4, z5, z6, z7, z8⟩ := H x hx
  obtain ⟨-, -, g3, -⟩ := G.2.2.2 (ac s pa x) (by omega)
  obtain ⟨k1, -, -, -⟩ := G.2.2.2 (ac s pa x - 1) (by omega)
  obtain ⟨l1, l2, -, -⟩ := G.2.2.2 (ac s pa x + 2) (by omega)
  rw [ea, g3 (d x hx), k1, l1, l2, eb, e.epw p2]
  exact ⟨z1, z2, z3, z4, z5, z6, z7, Nat.le_trans z8 G.1⟩
def eqA (s s' : Nat → Nat → Int32) (e : Nat) : Prop := s' 32 e = s 32 e ∧ s' 34 e = s 34 e ∧ s' 35 e = s 35 e ∧ s' 36 e = s 36 e ∧ ∀ i, i < 6 → s' 33 (6 * e + i) = s 33 (6 * e + i)
theorem AI.gn (A : PA h X n pa) (S : AS h X a pa s) (H : AI h a pa s) (G : Gn h h' DI DP) (hp : ∀ e, e < a → sN s 32 e < n) (e : ∀ e, e < a → eqA s s' e) (e5 : ∀ j, j < n → s' 5 j = s 5 j ∧ s' 6 j = s 6 j) (d : ∀ e, e < a → ¬ DI (ac s pa e) ∧ ¬ DI (ac s pa e - 1) ∧ ¬ DI (ac s pa e + 2)) : AI h' a pa s' := by
  intro x hx
  have p1 := hp x hx
  have hN := (A _ p1).2.1
  have hX := (A _ p1).1
  obtain ⟨q1, q2, q3, q4, q5⟩ := e x hx
  have ea : ac s' pa x = ac s pa x := by unfold ac sN; rw [q1]
  have eb : sN s' 32 x = sN s 32 x := by unfold sN; rw [q1]
  have hacd : ac s pa x = pa (sN s 32 x) := rfl
  obtain ⟨d1, d2, d3⟩ := d x hx
  obtain ⟨z7, z8⟩ := (S x hx).2.2.2.2.2.2
  obtain ⟨-, -, -, g4⟩ := G.2.2.2 (ac s pa x) (by omega)
  obtain ⟨-, -, -, k4⟩ := G.2.2.2 (ac s pa x - 1) (by omega)
  obtain ⟨-, -, -, l4⟩ := G.2.2.2 (ac s pa x + 2) (by omega)
  obtain ⟨r1, r2, r3, r4, r5, r6, r7, r8, r9⟩ := H x hx
  have q50 := q5 0 (by omega)
  have q52 := q5 2 (by omega)
  have q54 := q5 4 (by omega)
  rw [Nat.add_zero] at q50
  rw [ea, eb, g4 d1, k4 d2, l4 d3, q2, q3, q4, (e5 _ p1).1, (e5 _ p1).2, q50, q52, q54]
  exact ⟨r1, r2, fun i hi => by rw [q5 i hi]; exact r3 i hi, r4, r5, r6, r7, r8, r9⟩
theorem CD.gn (H : CD h X s) (G : Gn h h' DI DP) (hN : X < nk_N h) (d1 : ¬ DP X) (d2 : ∀ d, nk_P h X 6 = some d → ¬ DI d) (e : ∀ k, 22 ≤ k → k ≤ 26 → s' k 0 = s k 0) : CD h' X s' := by
  obtain ⟨d, h1, h2, h9, h3, h4, h5, h6, h7, h8⟩ := H
  obtain ⟨-, -, g3, -⟩ := G.2.2.2 X hN
  obtain ⟨k1, -, -, k4⟩ := G.2.2.2 d h2
  refine ⟨d, by rw [g3 d1]; exact h1, Nat.lt_of_lt_of_le h2 G.1, h9, by rw [k1]; exact h3, ?_⟩
  rw [k4 (d2 d h1), e 22 (by omega) (by omega), e 23 (by omega) (by omega), e 24 (by omega) (by omega), e 25 (by omega) (by omega), e 26 (by omega) (by omega)]
  exact ⟨h4, h5, h6, h7, h8⟩
theorem CG.gn (H : CG h X s) (G : Gn h h' DI DP) (hN : X + 57 ≤ nk_N h) (d1 : ¬ DI X) (d2 : ¬ DI (X + 2)) (d3 : ∀ k, k < 6 → ¬ DI (X + 9 + 2 * k)) (e1 : s' 1 0 = s 1 0) (e2 : s' 27 0 = s 27 0) (e3 : s' 28 0 = s 28 0) (e4 : ∀ k, k < 6 → s' 2 k = s 2 k) : CG h' X s' := by
  obtain ⟨h1, h2, h3, h4⟩ := H
  unfold CG
  rw [(G.2.2.2 X (by omega)).2.2.2 d1, (G.2.2.2 (X + 2) (by omega)).2.2.2 d2, e1, e2, e3]
  refine ⟨h1, h2, h3, fun k hk => ?_⟩
  rw [e4 k hk, (G.2.2.2 (X + 9 + 2 * k) (by omega)).2.2.2 (d3 k hk)]
  exact h4 k hk
theorem KS.gn (H : KS h X c n pa cp s) (G : Gn h h' DI DP) (e40 : ∀ e, e < c → s' 40 e = s 40 e) (d : ∀ e, e < c → ¬ DP (cp e) ∧ ¬ DP (cp e + 1)) : KS h' X c n pa cp s' := by
  intro x hx
  have es : ∀ y, y < c → sN s' 40 y = sN s 40 y := fun y hy => by unfold sN; rw [e40 y hy]
  obtain ⟨h1, h2, h3, h4, h5, h6, h7, h8, h9, h10, h11, h12⟩ := H x hx
  obtain ⟨g1, -, g3, -⟩ := G.2.2.2 (cp x) (by omega)
  obtain ⟨k1, k2, k3, -⟩ := G.2.2.2 (cp x + 1) (by omega)
  obtain ⟨l1, l2, -, -⟩ := G.2.2.2 (cp x + 2 + sN s 40 x) (by omega)
  obtain ⟨d1, d2⟩ := d x hx
  rw [es x hx, g1, g3 d1, k1, k2, k3 d2, l1, l2]
  refine ⟨h1, Nat.le_trans h2 G.1, fun i hi => by rw [es i (by omega)]; exact h3 i hi, h4, h5, h6, h7, h8, h9, h10, h11, fun i hi => ?_⟩
  obtain ⟨m1, m2, -, -⟩ := G.2.2.2 (cp x + 2 + i) (by omega)
  rw [m1, m2]
  exact h12 i hi
def eqK (s s' : Nat → Nat → Int32) (e : Nat) : Prop := s' 38 e = s 38 e ∧ s' 39 e = s 39 e ∧ s' 40 e = s 40 e ∧ s' 41 e = s 41 e ∧ s' 42 e = s 42 e ∧ ∀ i, i < sN s 40 e → s' 44 (160 * e + i) = s 44 (160 * e + i) ∧ ∀ p, p < 6 → s' 43 (6 * (160 * e + i) + p) = s 43 (6 * (160 * e + i) + p)
theorem KI.gn (K : KS h X c n pa cp s) (H : KI h c cp s) (G : Gn h h' DI DP) (e : ∀ e, e < c → eqK s s' e) (d : ∀ e, e < c → ∀ x, cp e ≤ x → x ≤ cp e + 2 + sN s 40 e → ¬ DI x) : KI h' c cp s' := by
  intro x hx
  have hN := (K x hx).2.1
  obtain ⟨q1, q2, q3, q4, q5, q6⟩ := e x hx
  have es : sN s' 40 x = sN s 40 x := by unfold sN; rw [q3]
  obtain ⟨h1, h2, h3, h4, h5, h6⟩ := H x hx
  have gI : ∀ y, cp x ≤ y → y ≤ cp x + 2 + sN s 40 x → nk_I h' y = nk_I h y := fun y y1 y2 => (G.2.2.2 y (by omega)).2.2.2 (d x hx y y1 y2)
  rw [es, gI (cp x) (by omega) (by omega), gI (cp x + 2 + sN s 40 x) (by omega) (by omega), q1, q2, q3, q4, q5]
  refine ⟨h1, h2, h3, h4, h5, fun i hi => ?_⟩
  obtain ⟨r1, r2⟩ := q6 i hi
  obtain ⟨t1, t2⟩ := h6 i hi
  rw [r1]
  refine ⟨t1, fun p hp => ?_⟩
  rw [gI (cp x + 2 + i) (by omega) (by omega), r2 p hp]
  exact t2 p hp
end CGN
