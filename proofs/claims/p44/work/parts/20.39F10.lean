section FX
variable {h h' : nk_H} {X n w a c hr : Nat} {pa cp : Nat → Nat} {s s' m : Nat → Nat → Int32}
theorem act_inj (hI : Inv s n w a c hr) {x q : Nat} (hx : x < a) (hq : q < a) (e : sN s 32 x = sN s 32 q) : x = q := by
  have ha : a ≤ 160 := by have := hI.1.2.2.2.2.2.2.1; have := hI.1.2.1; omega
  have hn := hI.1.2.1
  obtain ⟨⟨p, hp, ep, -, e7⟩, -⟩ := hI.2.2.2.2.1 x hx
  obtain ⟨⟨p', hp', ep', -, e7'⟩, -⟩ := hI.2.2.2.2.1 q hq
  rw [sN_of ep (by omega), sN_of ep' (by omega)] at e
  subst e
  exact (ia_eq (by omega) (by omega)).mp (e7.symm.trans e7')
theorem WR.tampered (W : WR h X n w a c hr pa cp s m) {q : Nat} (hq : q < a) (v : Int32) : WR (nk_sI h (ac s pa q + 2) 3 v) X n w a c hr pa cp (nk_u2 s 33 (6 * q + 3) v) m := by
  have ek : ∀ k, k ≠ 33 → nk_u2 s 33 (6 * q + 3) v k = s k := fun k hk => funext fun j => u2_k _ _ _ _ _ hk
  obtain ⟨r1, r2, r3, r4⟩ := rg_pw W.I
  have hpa := W.1.1.2.2.1
  have e32 : ∀ x, ac (nk_u2 s 33 (6 * q + 3) v) pa x = ac s pa x := fun x => by unfold ac sN; rw [ek 32 (by decide)]
  refine W.told hq (Gn_sI (DI := fun x => x = ac s pa q + 2) h _ _ _ _ (Or.inl rfl)) ek (fun x hx => u2_j _ _ _ _ _ (by omega)) ?_ ?_
  · intro x hx
    obtain ⟨g1, g2, g3, g4, g5, g6, g7, g8, g9⟩ := W.1.1.2.2.2.2.2.2.2.2.2 x hx
    have hac : ac s pa q = pa (sN s 32 q) := rfl
    have hax : ac s pa x = pa (sN s 32 x) := rfl
    have hqn := (r3 q hq).1
    have hxn := (r3 x hx).1
    have hq1 := (hpa _ hqn).1
    have kq := (W.1.1.2.2.2.2.2.2.2.2.1 q hq).2.2.2.2.1
    have kx1 := (W.1.1.2.2.2.2.2.2.2.2.1 x hx).2.2.1
    have kx := (act_K W hx).1
    have hne : ac s pa x ≠ ac s pa q + 2 ∧ ac s pa x - 1 ≠ ac s pa q + 2 ∧ (x ≠ q → ac s pa x + 2 ≠ ac s pa q + 2) := by
      refine ⟨fun e => ?_, fun e => ?_, fun z e => z ?_⟩
      · rw [e, kq] at kx; exact absurd kx (by decide)
      · rw [e, kq] at kx1; exact absurd kx1 (by decide)
      · exact act_inj W.I hx hq (pa_inj hpa hxn hqn (by omega))
    have es : ∀ k j, k ≠ 33 → sN (nk_u2 s 33 (6 * q + 3) v) k j = sN s k j := fun k j hk => by unfold sN; rw [ek k hk]
    rw [e32, ek 35 (by decide), ek 36 (by decide), ek 5 (by decide), ek 6 (by decide), ek 34 (by decide), es 32 x (by decide), u2_j s 33 (6 * q + 3) v 33 (y := 6 * x) (by omega), u2_j s 33 (6 * q + 3) v 33 (y := 6 * x + 2) (by omega), u2_j s 33 (6 * q + 3) v 33 (y := 6 * x + 4) (by omega)]
    simp only [nk_I_sI, nk_u2_ne _ _ _ _ _ hne.1, nk_u2_ne _ _ _ _ _ hne.2.1]
    refine ⟨g1, g2, fun i hi => ?_, g4, g5, g6, g7, g8, g9⟩
    by_cases q1 : x = q
    · subst q1
      by_cases q2 : i = 3
      · subst q2; rw [nk_u2_eq, u2_eq]
      · rw [nk_u2_nk _ _ _ _ _ q2, u2_j _ _ _ _ _ (by omega)]; exact g3 i hi
    · rw [nk_u2_ne _ _ _ _ _ (hne.2.2 q1), u2_j _ _ _ _ _ (by omega)]; exact g3 i hi
  · obtain ⟨i0, i1, i2, i3, i4, i5, i6, i7, i8, i9⟩ := W.I
    refine ⟨i0.cg (fun k hk => ek k (by omega)), i1.cg (fun k hk => ek k (by omega)), i2.cg (fun k hk => ek k (by omega)), i3.cg (fun k hk => ek k (by omega)), fun x hx => ?_, i5.cg (fun k hk => ek k (by omega)), i6.cg (fun k hk => ek k (by omega)), i7.cg (fun k hk => ek k (by omega)), i8.cg (fun k hk => ek k (by omega)), i9.cg (fun k hk => ek k (by omega))⟩
    obtain ⟨p1, p2, p3, p4, p5⟩ := i4 x hx
    rw [ek 32 (by decide), ek 4 (by decide), ek 7 (by decide), ek 36 (by decide), u2_j s 33 (6 * q + 3) v 33 (y := 6 * x + 1) (by omega), u2_j s 33 (6 * q + 3) v 33 (y := 6 * x + 2) (by omega), u2_j s 33 (6 * q + 3) v 33 (y := 6 * x + 4) (by omega)]
    exact ⟨p1, p2, p3, p4, p5⟩
end FX
