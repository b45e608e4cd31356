/-! ===== the start: class and reference, new ===== -/
section CW
variable {h0 g1 g2 : nk_H} {X : Nat}
theorem CF.gn0 {h h' : nk_H} {DI DP : Nat → Prop} (H : CF h X) (G : Gn h h' DI DP) (hN : X + 23 ≤ nk_N h) (hD : ∀ x, X ≤ x → x ≤ X + 22 → ¬ DP x) : CF h' X := by
  have e : ∀ x, X ≤ x → x ≤ X + 22 → nk_K h' x = nk_K h x ∧ nk_L h' x = nk_L h x ∧ nk_P h' x = nk_P h x := fun x h1 h2 => by
    obtain ⟨g1, g2, g3, -⟩ := G.2.2.2 x (by omega)
    exact ⟨g1, g2, g3 (hD x h1 h2)⟩
  obtain ⟨a1, a2, a3, a4, a5, a6, ⟨b1, b2, b3, b4, b5, b6, b7⟩, ⟨c1, c2, c3, c4, c5⟩, ⟨d1, d2⟩, f⟩ := H
  unfold CF
  rw [(e X (by omega) (by omega)).1, (e X (by omega) (by omega)).2.2, (e (X + 1) (by omega) (by omega)).1, (e (X + 1) (by omega) (by omega)).2.2, (e (X + 2) (by omega) (by omega)).1, (e (X + 2) (by omega) (by omega)).2.1, (e (X + 3) (by omega) (by omega)).1, (e (X + 3) (by omega) (by omega)).2.1, (e (X + 4) (by omega) (by omega)).1, (e (X + 4) (by omega) (by omega)).2.2, (e (X + 6) (by omega) (by omega)).1, (e (X + 6) (by omega) (by omega)).2.1, (e (X + 8) (by omega) (by omega)).1, (e (X + 8) (by omega) (by omega)).2.1, (e (X + 8) (by omega) (by omega)).2.2]
  refine ⟨a1, a2, a3, a4, a5, a6, ⟨b1, b2, b3, b4, b5, b6, b7⟩, ⟨c1, c2, c3, c4, c5⟩, ⟨d1, d2⟩, fun k hk => ?_⟩
  rw [(e (X + 9 + 2 * k) (by omega) (by omega)).1, (e (X + 9 + 2 * k) (by omega) (by omega)).2.2]
  exact f k hk
theorem sum0 (f : Nat → Int32) : sumB f 0 = 0 := rfl
/-- the reference's invariant at the start -/
theorem inv0 {s : Nat → Nat → Int32} (v0 : ∀ k, mo k = 0 → s k 0 = if k = 25 then 100 else if k = 24 then 100000 else if k = 23 then 10000 else if k = 22 then 63 else 0) (va : ∀ k j, mo k ≠ 0 → k ≠ 10 → s k j = 0) (v10 : ∀ j, j < 960 → s 10 j = -1) : Inv s 0 0 0 0 0 := by
  have z30 : ∀ k, s 30 k = 0 := fun k => va 30 k (by decide) (by decide)
  have n30 : ∀ k, sN s 30 k = 0 := fun k => by unfold sN; rw [z30 k]; rfl
  refine ⟨⟨?_, by omega, ?_, by omega, by omega, ?_, by omega, ?_, by omega, ?_, by omega⟩, fun j hj => absurd hj (Nat.not_lt_zero _), fun k hk j hj => ⟨Or.inl (v10 _ (by omega)), Or.inl (va 11 _ (by decide) (by decide))⟩, fun j hj => absurd hj (Nat.not_lt_zero _), fun j hj => absurd hj (Nat.not_lt_zero _), ⟨fun k hk => ⟨0, z30 k, by omega, fun i hi => absurd hi (Nat.not_lt_zero _)⟩, ?_⟩, fun j hj => absurd hj (Nat.not_lt_zero _), ⟨⟨false, ?_⟩, ⟨0, by omega, ?_⟩, fun k _ => ⟨0, by omega, va 2 k (by decide) (by decide)⟩⟩, fun j hj => absurd hj (Nat.not_lt_zero _), ?_⟩
  · rw [v0 3 (by decide)]; rfl
  · rw [v0 12 (by decide)]; rfl
  · rw [v0 29 (by decide)]; rfl
  · rw [v0 37 (by decide)]; rfl
  · rw [v0 1 (by decide)]; rfl
  · rw [n30, n30, n30, n30, n30, n30]
  · rw [v0 27 (by decide)]; rfl
  · rw [v0 28 (by decide)]; rfl
  · unfold I9
    simp only [n30, sum0]
    rfl
theorem mo_at : ∀ j, j < 32 → ∃ k, k < 45 ∧ mo k = j + 1 := by decide +kernel
/-- class and reference as they are made -/
theorem ws_init (hK : ∀ a, nk_K h0 a = if a = nk_E h0 then 20 else 0) (hX : nk_N h0 = X) (G1 : Gn h0 g1 no no) (N1 : nk_N g1 = X + 23) (C1 : CF g1 X) (I1 : nk_I g1 X 5 = 0 ∧ nk_I g1 X 7 = 0 ∧ nk_I g1 X 8 = 0) (L2 : ∀ k, nk_I g1 (X + 2) k = 0) (J1 : ∀ k, k < 6 → nk_I g1 (X + 9 + 2 * k) 0 = Int32.ofNat k) (D1 : nk_P g1 X 6 = some (X + 22) ∧ nk_K g1 (X + 22) = 13 ∧ nk_I g1 (X + 22) 0 = 63 ∧ nk_I g1 (X + 22) 1 = 10000 ∧ nk_I g1 (X + 22) 2 = 100000 ∧ nk_I g1 (X + 22) 3 = 100 ∧ nk_I g1 (X + 22) 4 = 0) (l5 : LZ g1 (X + 5)) (l7 : LZ g1 (X + 7)) (l21 : LZ g1 (X + 21)) (lc : ∀ k, k < 6 → LZ g1 (X + 10 + 2 * k)) (G2 : Gn g1 g2 no no) (N2 : nk_N g2 = X + 23 + 33) (M2 : MR g2 (X + 23)) (v0 : ∀ k, mo k = 0 → nm g2 (X + 23) k 0 = if k = 25 then 100 else if k = 24 then 100000 else if k = 23 then 10000 else if k = 22 then 63 else 0) (va : ∀ k j, mo k ≠ 0 → k ≠ 10 → nm g2 (X + 23) k j = 0) (v10 : ∀ j, j < 960 → nm g2 (X + 23) 10 j = -1) : WS (nk_al g2 6 1 1) X := by
  have A := Gn_al g2 6 1 1 no no
  obtain ⟨M3, en⟩ := M2.gn A (by omega) (fun x _ _ => ⟨id, id⟩)
  have G3 : Gn g1 (nk_al g2 6 1 1) no no := G2.al 6 1 1
  have N3 : nk_N (nk_al g2 6 1 1) = X + 57 := by show nk_N g2 + 1 = _; omega
  have kO : nk_K (nk_al g2 6 1 1) (X + 56) = 6 := by
    have e : nk_N g2 = X + 56 := by omega
    rw [← e]; exact al_K g2 6 1 1
  have lO : nk_L (nk_al g2 6 1 1) (X + 56) = 1 := by
    have e : nk_N g2 = X + 56 := by omega
    rw [← e, nk_L_al, nk_u1_eq]
  rw [← en] at v0 va v10
  generalize hh : nk_al g2 6 1 1 = h at *
  have CF3 : CF h X := C1.gn0 G3 (by omega) (fun _ _ _ => id)
  have I : Inv (nm h (X + 23)) 0 0 0 0 0 := inv0 v0 va v10
  have z2 : ∀ k, nm h (X + 23) 2 k = 0 := fun k => va 2 k (by decide) (by decide)
  have n30 : ∀ k, sN (nm h (X + 23)) 30 k = 0 := fun k => by unfold sN; rw [va 30 k (by decide) (by decide)]; rfl
  have q5 := l5.gn G3 (by omega) id id
  have q7 := l7.gn G3 (by omega) id id
  have q21 := l21.gn G3 (by omega) id id
  have qc : ∀ k, k < 6 → LZ h (X + 10 + 2 * k) := fun k hk => (lc k hk).gn G3 (by omega) id id
  have uX := G3.2.2.2 X (by omega)
  have u2 := G3.2.2.2 (X + 2) (by omega)
  have u22 := G3.2.2.2 (X + 22) (by omega)
  obtain ⟨d0, d1, d2, d3, d4, d5, d6⟩ := D1
  obtain ⟨i5, i7, i8⟩ := I1
  have lt0 : ∀ {P : Prop} {j : Nat}, j < 0 → P := fun hj => absurd hj (Nat.not_lt_zero _)
  have eE : ∀ {l e : Nat}, LZ h l → nk_P h l 1 = some e → nk_K h e = 4 → False := fun L hp hk => by
    obtain ⟨-, -, a, b, -⟩ := L
    rw [a] at hp
    cases hp
    rw [b] at hk
    exact absurd hk (by decide)
  refine ⟨0, 0, 0, 0, 0, fun _ => 0, fun _ => 0, ⟨⟨CF3, q5.ls _, fun _ hj => lt0 hj, fun _ hj => lt0 hj, fun _ hj => lt0 hj, fun _ hj => lt0 hj, fun _ hj => lt0 hj, fun _ hj => lt0 hj, fun _ hj => lt0 hj, fun _ hj => lt0 hj⟩, ⟨?_, ?_, ?_, fun k hk => ⟨?_, ?_⟩⟩, ⟨X + 22, ?_, by omega, Or.inl rfl, ?_, ?_, ?_, ?_, ?_, ?_⟩, fun _ hj => lt0 hj, fun _ hj => lt0 hj, ⟨q5.ls _, q7.ls _, fun k hk => by rw [n30]; exact (qc k hk).ls _, q21.ls _⟩, fun _ hj => lt0 hj, by omega⟩, ⟨fun _ => 0, fun l e hl hp hk => ?_⟩, M3, rfl, ⟨kO, lO⟩, I⟩
  · rw [uX.2.2.2 id, v0 1 (by decide), i5]; rfl
  · rw [uX.2.2.2 id, v0 27 (by decide), i7]; rfl
  · rw [uX.2.2.2 id, v0 28 (by decide), i8]; rfl
  · rw [u2.2.2.2 id, z2, L2]
  · rw [(G3.2.2.2 (X + 9 + 2 * k) (by omega)).2.2.2 id]; exact J1 k hk
  · rw [uX.2.2.1 id]; exact d0
  · rw [u22.1]; exact d1
  · rw [u22.2.2.2 id, v0 22 (by decide), d2]; rfl
  · rw [u22.2.2.2 id, v0 23 (by decide), d3]; rfl
  · rw [u22.2.2.2 id, v0 24 (by decide), d4]; rfl
  · rw [u22.2.2.2 id, v0 25 (by decide), d5]; rfl
  · rw [u22.2.2.2 id, v0 26 (by decide), d6]; rfl
  · exfalso
    rcases hl with rfl | rfl | rfl | ⟨k, hk6, rfl⟩
    · exact eE q5 hp hk
    · exact eE q7 hp hk
    · exact eE q21 hp hk
    · exact eE (qc k hk6) hp hk
/-- a ghost: the class's object alone; then with the reference and the law's array behind it -/
theorem gh_start (h0 : nk_H) (hK : ∀ a, nk_K h0 a = if a = nk_E h0 then 20 else 0) (hE : nk_E h0 < nk_N h0) : ∃ g1 g, f_X11_init (nk_al h0 18 0 9) (nk_N h0) = some (g1, ()) ∧ nk_N g1 = nk_N h0 + 23 ∧ nk_S g1 ≤ nk_S h0 + 3000 ∧ Gn g1 g no no ∧ nk_N g = nk_N h0 + 57 ∧ WS g (nk_N h0) := by
  have E : EH h0 := ⟨by rw [hK, if_pos rfl], hE⟩
  obtain ⟨g1, e1, G1, N1, S1, C1, I1, L2, J1, D1, l5, l7, l21, lc⟩ := cls_init E rfl
  obtain ⟨g2, e2, G2, N2, S2, M2, v0, va, v10⟩ := mdl_init (g := g1) N1
  have W := ws_init hK rfl G1 N1 C1 I1 L2 J1 D1 l5 l7 l21 lc G2 N2 M2 v0 va v10
  exact ⟨g1, nk_al g2 6 1 1, e1, N1, S1, G2.al 6 1 1, by rw [nk_N_al]; omega, W⟩
end CW
