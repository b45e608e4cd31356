/-! ===== an object of the class somewhere in a heap, in a state of the reference: a ghost of its own tells its story ===== -/
def gX : Nat := 2
/-- nothing lies behind the last cell -/
def HC (h : nk_H) : Prop := ∀ i, nk_K h (nk_N h + i) = 0
def sameC (h h' : nk_H) (y : Nat) : Prop := nk_K h' y = nk_K h y ∧ nk_L h' y = nk_L h y ∧ (∀ j, nk_I h' y j = nk_I h y j) ∧ ∀ j, nk_P h' y j = nk_P h y j
def OB (h : nk_H) (x : Nat) (im : Nat → Prop) (m : Nat → Nat → Int32) : Prop := ∃ (ρ : Nat → Nat) (D : Nat → Prop) (g : nk_H),
  (∀ a, D a → a < nk_N g ∧ ρ a < nk_N h ∧ (a < gX + 23 ∨ gX + 56 < a)) ∧ (∀ a b, D a → D b → ρ a = ρ b → a = b) ∧ (∀ a, D a → nk_K h (ρ a) = nk_K g a) ∧
  (∀ a, D a → nk_K g a ≠ 0 → nk_K g a ≠ 20 → nk_L h (ρ a) = nk_L g a ∧ (∀ j, nk_I h (ρ a) j = nk_I g a j) ∧ (∀ j, nk_P h (ρ a) j = (nk_P g a j).map ρ) ∧ ∀ j b, nk_P g a j = some b → D b) ∧
  (D (nk_E g) ∧ ρ (nk_E g) = nk_E h) ∧ HC g ∧ (D gX ∧ ρ gX = x) ∧ WS g gX ∧ nm g (gX + 23) = m ∧ (∀ y, im y ↔ ∃ a, D a ∧ nk_K g a ≠ 0 ∧ nk_K g a ≠ 20 ∧ ρ a = y)
/-- the ghost's reference and array apart, nothing has changed -/
def GS (g g' : nk_H) : Prop := nk_K g' = nk_K g ∧ nk_P g' = nk_P g ∧ nk_L g' = nk_L g ∧ nk_N g' = nk_N g ∧ nk_E g' = nk_E g ∧ ∀ a, (a < gX + 23 ∨ gX + 56 < a) → nk_I g' a = nk_I g a
theorem WS.n57 {g : nk_H} {X : Nat} (W : WS g X) : X + 57 ≤ nk_N g := by
  obtain ⟨_, _, _, _, _, _, _, W⟩ := W
  exact W.N
theorem ob_run {α : Type} {h : nk_H} {x : Nat} {im : Nat → Prop} {m m2 : Nat → Nat → Int32} (O : OB h x im m) (C : HC h) {f : nk_H → Nat → Option (nk_H × α)} {Q : α → Prop} {bN bS : Nat}
    (nat : ∀ {ρ : Nat → Nat} {D F : Nat → Prop} {h0 : nk_H} {u v : Nat} {g h : nk_H}, nt_R ρ D F h0 u v h g → ∀ {a b : Nat}, nt_A ρ D (nk_N g) a b → nt_F ρ D F h0 u v (nk_N g) nt_q (f g a) (f h b))
    (run : ∀ g, WS g gX → nm g (gX + 23) = m → ∃ g1 r g2, f g gX = some (g1, r) ∧ Q r ∧ nk_N g1 ≤ nk_N g + bN ∧ nk_S g1 ≤ nk_S g + bS ∧ GS g1 g2 ∧ WS g2 gX ∧ nm g2 (gX + 23) = m2) :
    ∃ h1 r im1, f h x = some (h1, r) ∧ Q r ∧ OB h1 x im1 m2 ∧ HC h1 ∧ nk_E h1 = nk_E h ∧ nk_N h ≤ nk_N h1 ∧ nk_N h1 ≤ nk_N h + bN ∧ nk_S h1 ≤ nk_S h + bS ∧ (∀ y, y < nk_N h → ¬ im y → sameC h h1 y) ∧ (∀ y, y < nk_N h → nk_K h1 y = nk_K h y) ∧ ∀ y, im1 y → im y ∨ nk_N h ≤ y := by
  obtain ⟨ρ, D, g, o1, o2, o3, o4, o5, o6, o7, o8, o9, o10⟩ := O
  obtain ⟨g1, r, g2, e1, q, bn, bs, ⟨s1, s2, s3, s4, s5, s6⟩, w2, m2e⟩ := run g o8 o9
  have hN57 := o8.n57
  obtain ⟨D', hD⟩ : ∃ D' : Nat → Prop, ∀ a, D' a ↔ (D a ∨ nk_N g ≤ a) := ⟨_, fun _ => Iff.rfl⟩
  obtain ⟨ρ', ρo, ρn⟩ : ∃ ρ' : Nat → Nat, (∀ a, a < nk_N g → ρ' a = ρ a) ∧ ∀ a, nk_N g ≤ a → ρ' a = nk_N h + (a - nk_N g) := ⟨fun a => if a < nk_N g then ρ a else nk_N h + (a - nk_N g), fun a ha => if_pos ha, fun a ha => if_neg (by omega)⟩
  have dl : ∀ a, D' a → a < nk_N g → D a := fun a ha hl => ((hD a).mp ha).elim id (fun z => absurd z (by omega))
  have Kn : ∀ a, nk_N g ≤ a → nk_K g a = 0 := fun a ha => by
    have := o6 (a - nk_N g)
    rwa [show nk_N g + (a - nk_N g) = a by omega] at this
  have R0 : nt_R ρ' D' (fun y => y < nk_N h ∧ ¬ im y) h (nk_S g) (nk_S h) h g := by
    refine ⟨fun a b ha hb e => ?_, fun a ha => ?_, fun a ha k0 k1 => ?_, fun i => ⟨(hD _).mpr (Or.inr (by omega)), ?_, o6 i⟩, ⟨(hD _).mpr (Or.inl o5.1), by rw [ρo _ (o1 _ o5.1).1]; exact o5.2, rfl, (o1 _ o5.1).1⟩, ⟨by omega, Nat.le_refl _, fun _ _ => rfl⟩, fun y hy => ⟨hy.1, fun a ha k0 k1 e => ?_, rfl, rfl, fun _ => rfl, fun _ => rfl⟩⟩
    · by_cases ca : a < nk_N g
      · have da := dl a ha ca
        by_cases cb : b < nk_N g
        · rw [ρo a ca, ρo b cb] at e
          exact o2 a b da (dl b hb cb) e
        · rw [ρo a ca, ρn b (by omega)] at e
          have := (o1 a da).2.1
          omega
      · by_cases cb : b < nk_N g
        · rw [ρn a (by omega), ρo b cb] at e
          have := (o1 b (dl b hb cb)).2.1
          omega
        · rw [ρn a (by omega), ρn b (by omega)] at e
          omega
    · by_cases ca : a < nk_N g
      · rw [ρo a ca]; exact o3 a (dl a ha ca)
      · rw [ρn a (by omega), Kn a (by omega)]; exact C _
    · by_cases ca : a < nk_N g
      · obtain ⟨q1, q2, q3, q4⟩ := o4 a (dl a ha ca) k0 k1
        rw [ρo a ca]
        refine ⟨q1, q2, fun j => ?_, fun j b hb => ⟨(hD b).mpr (Or.inl (q4 j b hb)), (o1 b (q4 j b hb)).1⟩⟩
        rw [q3 j]
        cases hp : nk_P g a j with
        | none => rfl
        | some b =>
          show some (ρ b) = some (ρ' b)
          rw [ρo b (o1 b (q4 j b hp)).1]
      · exact absurd (Kn a (by omega)) k0
    · rw [ρn _ (by omega)]; omega
    · by_cases ca : a < nk_N g
      · rw [ρo a ca] at e
        exact hy.2 ((o10 y).mpr ⟨a, dl a ha ca, k0, k1, e⟩)
      · exact absurd (Kn a (by omega)) k0
  have hx : ρ' gX = x := (ρo gX (o1 _ o7.1).1).trans o7.2
  obtain ⟨h1, r', e2, R1, er, le⟩ := nat R0 (a := gX) (b := ρ' gX) ⟨⟨(hD gX).mpr (Or.inl o7.1), (o1 _ o7.1).1⟩, rfl⟩ g1 r e1
  have er2 : r = r' := er
  subst er2
  rw [hx] at e2
  obtain ⟨r1, r2, r3, r4, r5, r7, r8⟩ := R1
  have n1 := (r4 0).2.1
  rw [ρn _ (by omega)] at n1
  have KO : ∀ a, D a → nk_K g1 a = nk_K g a := fun a da => by
    have ca := (o1 a da).1
    have z1 := r2 a ((hD a).mpr (Or.inl da))
    rw [ρo a ca] at z1
    rw [← z1, r7.2.2 _ (o1 a da).2.1]
    exact o3 a da
  refine ⟨h1, r, fun y => ∃ a, (D' a ∧ a < nk_N g1) ∧ nk_K g2 a ≠ 0 ∧ nk_K g2 a ≠ 20 ∧ ρ' a = y, e2, q, ⟨ρ', fun a => D' a ∧ a < nk_N g1, g2, fun a ha => ?_, fun a b ha hb e => r1 a b ha.1 hb.1 e, fun a ha => ?_, fun a ha k0 k1 => ?_, ?_, fun i => ?_, ⟨⟨(hD gX).mpr (Or.inl o7.1), Nat.lt_of_lt_of_le (o1 _ o7.1).1 le⟩, hx⟩, w2, m2e, fun y => Iff.rfl⟩, fun i => ?_, r5.2.2.1, by omega, by omega, by omega, fun y hy hi => ?_, r7.2.2, fun y hy => ?_⟩
  · refine ⟨by rw [s4]; exact ha.2, ?_, ?_⟩
    · by_cases ca : a < nk_N g
      · rw [ρo a ca]
        have := (o1 a (dl a ha.1 ca)).2.1
        omega
      · rw [ρn a (by omega)]; omega
    · by_cases ca : a < nk_N g
      · exact (o1 a (dl a ha.1 ca)).2.2
      · right; omega
  · rw [s1]; exact r2 a ha.1
  · rw [s1] at k0 k1
    obtain ⟨q1, q2, q3, q4⟩ := r3 a ha.1 k0 k1
    have out : a < gX + 23 ∨ gX + 56 < a := by
      by_cases ca : a < nk_N g
      · exact (o1 a (dl a ha.1 ca)).2.2
      · right; omega
    rw [s3, s2, s6 a out]
    exact ⟨q1, q2, q3, fun j b hb => q4 j b hb⟩
  · rw [s5]
    exact ⟨⟨r5.1, r5.2.2.2⟩, r5.2.1⟩
  · rw [s1, s4]; exact (r4 i).2.2
  · have := r2 (nk_N g1 + i) (r4 i).1
    rw [(r4 i).2.1, (r4 i).2.2] at this
    exact this
  · obtain ⟨-, -, q3, q4, q5, q6⟩ := r8 y ⟨hy, hi⟩
    exact ⟨q3, q4, q5, q6⟩
  · obtain ⟨a, ha, k0, k1, e⟩ := hy
    by_cases ca : a < nk_N g
    · left
      have da := dl a ha.1 ca
      rw [s1, KO a da] at k0 k1
      rw [ρo a ca] at e
      exact (o10 y).mpr ⟨a, da, k0, k1, e⟩
    · right
      rw [ρn a (by omega)] at e
      omega
/-- another object is not touched -/
theorem OB.kept {h h1 : nk_H} {x : Nat} {im : Nat → Prop} {m : Nat → Nat → Int32} (O : OB h x im m) (hN : nk_N h ≤ nk_N h1) (hE : nk_E h1 = nk_E h) (hK : ∀ y, y < nk_N h → nk_K h1 y = nk_K h y) (hs : ∀ y, y < nk_N h → im y → sameC h h1 y) : OB h1 x im m := by
  obtain ⟨ρ, D, g, o1, o2, o3, o4, o5, o6, o7, o8, o9, o10⟩ := O
  refine ⟨ρ, D, g, fun a ha => ⟨(o1 a ha).1, Nat.lt_of_lt_of_le (o1 a ha).2.1 hN, (o1 a ha).2.2⟩, o2, fun a ha => by rw [hK _ (o1 a ha).2.1]; exact o3 a ha, fun a ha k0 k1 => ?_, ⟨o5.1, by rw [hE]; exact o5.2⟩, o6, o7, o8, o9, o10⟩
  obtain ⟨q1, q2, q3, q4⟩ := o4 a ha k0 k1
  obtain ⟨-, t2, t3, t4⟩ := hs (ρ a) (o1 a ha).2.1 ((o10 _).mpr ⟨a, ha, k0, k1, rfl⟩)
  exact ⟨t2.trans q1, fun j => (t3 j).trans (q2 j), fun j => (t4 j).trans (q3 j), q4⟩
theorem OB.im_lt {h : nk_H} {x : Nat} {im : Nat → Prop} {m : Nat → Nat → Int32} (O : OB h x im m) {y : Nat} (hy : im y) : y < nk_N h := by
  obtain ⟨ρ, D, g, o1, o2, o3, o4, o5, o6, o7, o8, o9, o10⟩ := O
  obtain ⟨a, ha, -, -, e⟩ := (o10 y).mp hy
  rw [← e]; exact (o1 a ha).2.1
/-- two objects, apart -/
def ZX (m : Nat → Nat → Int32) : Prop := m 0 0 = 0 ∧ NX m
def TW (h : nk_H) (x y : Nat) (m m' : Nat → Nat → Int32) : Prop := (HC h ∧ ZX m ∧ ZX m') ∧ ∃ ix iy, OB h x ix m ∧ OB h y iy m' ∧ ∀ z, ix z → ¬ iy z
theorem TW.symm {h : nk_H} {x y : Nat} {m m' : Nat → Nat → Int32} (T : TW h x y m m') : TW h y x m' m := by
  obtain ⟨⟨C, z1, z2⟩, ix, iy, A, B, d⟩ := T
  exact ⟨⟨C, z2, z1⟩, iy, ix, B, A, fun z a b => d z b a⟩
theorem tw_run {α : Type} {h : nk_H} {x y : Nat} {m m' m2 : Nat → Nat → Int32} (T : TW h x y m m') (z2 : ZX m2) {f : nk_H → Nat → Option (nk_H × α)} {Q : α → Prop} {bN bS : Nat}
    (nat : ∀ {ρ : Nat → Nat} {D F : Nat → Prop} {h0 : nk_H} {u v : Nat} {g h : nk_H}, nt_R ρ D F h0 u v h g → ∀ {a b : Nat}, nt_A ρ D (nk_N g) a b → nt_F ρ D F h0 u v (nk_N g) nt_q (f g a) (f h b))
    (run : ∀ g, WS g gX → nm g (gX + 23) = m → ∃ g1 r g2, f g gX = some (g1, r) ∧ Q r ∧ nk_N g1 ≤ nk_N g + bN ∧ nk_S g1 ≤ nk_S g + bS ∧ GS g1 g2 ∧ WS g2 gX ∧ nm g2 (gX + 23) = m2) :
    ∃ h1 r, f h x = some (h1, r) ∧ Q r ∧ TW h1 x y m2 m' ∧ nk_N h1 ≤ nk_N h + bN ∧ nk_S h1 ≤ nk_S h + bS := by
  obtain ⟨⟨C, z1, z3⟩, ix, iy, A, B, d⟩ := T
  obtain ⟨h1, r, im1, e, q, O1, C1, hE, n1, n2, n3, k1, k2, k3⟩ := ob_run A C nat run
  refine ⟨h1, r, e, q, ⟨⟨C1, z2, z3⟩, im1, iy, O1, B.kept n1 hE k2 (fun z hz hy => k1 z hz (fun hx => d z hx hy)), fun z hz hy => ?_⟩, n2, n3⟩
  rcases k3 z hz with h2 | h2
  · exact d z h2 hy
  · exact absurd (B.im_lt hy) (by omega)
theorem OB.K18 {h : nk_H} {x : Nat} {im : Nat → Prop} {m : Nat → Nat → Int32} (O : OB h x im m) : nk_K h x = 18 := by
  obtain ⟨ρ, D, g, o1, o2, o3, o4, o5, o6, o7, o8, o9, o10⟩ := O
  rw [← o7.2, o3 _ o7.1]
  obtain ⟨_, _, _, _, _, _, _, W⟩ := o8
  exact W.1.1.1.1
theorem TW.rc {h : nk_H} {x y : Nat} {m m' : Nat → Nat → Int32} (T : TW h x y m m') {α : Type} (K : Nat → Option α) : (nk_rcv [18] h (some x)).bind K = K x := by
  obtain ⟨C, ix, iy, A, B, d⟩ := T
  simp [nk_rcv, A.K18]
theorem TW.inv {h : nk_H} {x y : Nat} {m m' : Nat → Nat → Int32} (T : TW h x y m m') : ∃ n w a c hr, Inv m n w a c hr := by
  obtain ⟨C, ix, iy, A, B, d⟩ := T
  obtain ⟨ρ, D, g, o1, o2, o3, o4, o5, o6, o7, ⟨n, w, a, c, hr, pa, cp, W⟩, o9, o10⟩ := A
  have := W.I
  rw [o9] at this
  exact ⟨n, w, a, c, hr, this⟩
