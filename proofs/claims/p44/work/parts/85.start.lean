/-! ===== both objects, new; the law's run ===== -/
section U85
theorem zx0 {s : Nat → Nat → Int32} (v0 : ∀ k, mo k = 0 → s k 0 = if k = 25 then 100 else if k = 24 then 100000 else if k = 23 then 10000 else if k = 22 then 63 else 0) (va : ∀ k j, mo k ≠ 0 → k ≠ 10 → s k j = 0) : ZX s := by
  have z1 : ∀ k, mo k = 0 → ¬ (22 ≤ k ∧ k ≤ 25) → sN s k 0 = 0 := fun k hk h => by
    unfold sN
    rw [v0 k hk, if_neg (by omega), if_neg (by omega), if_neg (by omega), if_neg (by omega)]; rfl
  have z30 : ∀ k, sN s 30 k = 0 := fun k => by unfold sN; rw [va 30 k (by decide) (by decide)]; rfl
  refine ⟨?_, fun k hk => ?_, fun e he => ?_, fun j hj => ?_, fun e he => ?_, fun q hq => ?_, fun k hk i hi => ?_⟩
  · rw [v0 0 (by decide)]; rfl
  · rw [va 2 k (by decide) (by decide)]; exact gb_0 k
  · rw [z1 29 (by decide) (by omega)] at he; omega
  · rw [va 33 j (by decide) (by decide)]; decide
  · rw [z1 37 (by decide) (by omega)] at he; omega
  · rw [z1 12 (by decide) (by omega)] at hq; omega
  · rw [z30] at hi; omega
theorem gh_startZ (h0 : nk_H) (hK : ∀ a, nk_K h0 a = if a = nk_E h0 then 20 else 0) (hE : nk_E h0 < nk_N h0) : ∃ g1 g, f_X11_init (nk_al h0 18 0 9) (nk_N h0) = some (g1, ()) ∧ nk_N g1 = nk_N h0 + 23 ∧ Gn g1 g no no ∧ nk_N g = nk_N h0 + 57 ∧ WS g (nk_N h0) ∧ ZX (nm g (nk_N h0 + 23)) ∧ nk_S g1 ≤ nk_S h0 + 3000 := by
  have E : EH h0 := ⟨by rw [hK, if_pos rfl], hE⟩
  obtain ⟨g1, e1, G1, N1, S1, C1, I1, L2, J1, D1, l5, l7, l21, lc⟩ := cls_init E rfl
  obtain ⟨g2, e2, G2, N2, S2, M2, v0, va, v10⟩ := mdl_init (g := g1) N1
  have W := ws_init hK rfl G1 N1 C1 I1 L2 J1 D1 l5 l7 l21 lc G2 N2 M2 v0 va v10
  have A := Gn_al g2 6 1 1 no no
  obtain ⟨M3, en⟩ := M2.gn A (by omega) (fun x _ _ => ⟨id, id⟩)
  refine ⟨g1, nk_al g2 6 1 1, e1, N1, G2.al 6 1 1, by rw [nk_N_al]; omega, W, ?_, S1⟩
  rw [en]
  exact zx0 v0 va
/-- the ghost's heap at its start -/
def gh0 : nk_H := (fun a => if a = 1 then 20 else 0, fun _ _ => 0, fun _ _ => none, fun _ => 0, 2, 0, 1, 0)
theorem gh_have : ∃ g1 g m0, f_X11_init (nk_al gh0 18 0 9) gX = some (g1, ()) ∧ nk_N g1 = 25 ∧ nk_S g1 ≤ 3000 ∧ Gn g1 g no no ∧ nk_N g = 59 ∧ HC g ∧ WS g gX ∧ nm g (gX + 23) = m0 ∧ ZX m0 := by
  obtain ⟨g1, g, e1, n1, G1, n2, W, z, s1⟩ := gh_startZ gh0 (fun a => rfl) (by decide)
  have n2' : nk_N g = 59 := n2
  obtain ⟨g9, hg9⟩ : ∃ g9 : nk_H, g9 = (fun a => if a < nk_N g then nk_K g a else 0, g.2) := ⟨_, rfl⟩
  have N9 : nk_N g9 = nk_N g := by rw [hg9]; rfl
  have K9 : ∀ a, nk_K g9 a = if a < nk_N g then nk_K g a else 0 := fun a => by rw [hg9]; rfl
  have G9 : ∀ DI DP, Gn g g9 DI DP := fun DI DP => by
    refine ⟨by rw [N9]; exact Nat.le_refl _, by rw [hg9]; rfl, by rw [hg9]; rfl, fun x hx => ⟨by rw [K9, if_pos hx], by rw [hg9]; rfl, fun _ => by rw [hg9]; rfl, fun _ => by rw [hg9]; rfl⟩⟩
  have en : nm g9 (gX + 23) = nm g (gX + 23) := by rw [hg9]; rfl
  refine ⟨g1, g9, nm g (gX + 23), e1, n1, by have : nk_S gh0 = 0 := rfl; omega, G1.trans (G9 _ _), by rw [N9]; exact n2, fun i => by rw [K9, N9, if_neg (by omega)], ?_, en, z⟩
  obtain ⟨n, w, a, c, hr, pa, cp, WW⟩ := W
  refine ⟨n, w, a, c, hr, pa, cp, ?_⟩
  rw [en]
  exact WW.gn (G9 _ _)
/-- an object is made -/
theorem ob_new {h : nk_H} (C : HC h) (hE : nk_K h (nk_E h) = 20) (lE : nk_E h < nk_N h) {g1 g : nk_H} {m0 : Nat → Nat → Int32} (e1 : f_X11_init (nk_al gh0 18 0 9) gX = some (g1, ())) (n1 : nk_N g1 = 25) (s1 : nk_S g1 ≤ 3000) (G1 : Gn g1 g no no) (n2 : nk_N g = 59) (Cg : HC g) (W : WS g gX) (em : nm g (gX + 23) = m0) :
    ∃ h1 im, f_X11_init (nk_al h 18 0 9) (nk_N h) = some (h1, ()) ∧ OB h1 (nk_N h) im m0 ∧ HC h1 ∧ nk_E h1 = nk_E h ∧ nk_N h1 = nk_N h + 23 ∧ nk_S h1 ≤ nk_S h + 3000 ∧ (∀ y, y < nk_N h → sameC h h1 y) ∧ ∀ y, im y → nk_N h ≤ y := by
  obtain ⟨ρ, ρ1, ρ2⟩ : ∃ ρ : Nat → Nat, ρ 1 = nk_E h ∧ ∀ a, 2 ≤ a → ρ a = nk_N h + (a - 2) := ⟨fun a => if a = 1 then nk_E h else nk_N h + (a - 2), if_pos rfl, fun a ha => if_neg (by omega)⟩
  have K0 : ∀ a, nk_K gh0 a = if a = 1 then 20 else 0 := fun a => rfl
  have R0 : nt_R ρ (fun a => 1 ≤ a) (fun y => y < nk_N h) h 0 (nk_S h) h gh0 := by
    refine ⟨fun a b ha hb e => ?_, fun a ha => ?_, fun a ha k0 k1 => ?_, fun i => ⟨by show 1 ≤ 2 + i; omega, ?_, ?_⟩, ⟨Nat.le_refl 1, ρ1, rfl, by decide⟩, ⟨by have : nk_S gh0 = 0 := rfl; omega, Nat.le_refl _, fun _ _ => rfl⟩, fun x hx => ⟨hx, fun a ha k0 k1 => ?_, rfl, rfl, fun _ => rfl, fun _ => rfl⟩⟩
    · by_cases ca : a = 1
      · by_cases cb : b = 1
        · omega
        · rw [ca, ρ1, ρ2 b (by omega)] at e; omega
      · by_cases cb : b = 1
        · rw [cb, ρ1, ρ2 a (by omega)] at e; omega
        · rw [ρ2 a (by omega), ρ2 b (by omega)] at e; omega
    · by_cases ca : a = 1
      · rw [ca, ρ1, hE]; rfl
      · rw [ρ2 a (by omega), C, K0, if_neg ca]
    · by_cases ca : a = 1
      · exact absurd (by rw [K0, if_pos ca]) k1
      · exact absurd (by rw [K0, if_neg ca]) k0
    · show ρ (2 + i) = _
      rw [ρ2 _ (by omega)]; omega
    · show nk_K gh0 (2 + i) = 0
      rw [K0, if_neg (by omega)]
    · by_cases ca : a = 1
      · exact absurd (by rw [K0, if_pos ca]) k1
      · exact absurd (by rw [K0, if_neg ca]) k0
  have R1 := nt_alR R0 18 0 9
  have r2' : ρ 2 = nk_N h := by rw [ρ2 2 (by omega)]; rfl
  obtain ⟨h1, r', e2, R2, -, -⟩ := n_X11_init R1 (t0 := gX) (yt0 := ρ 2) ⟨⟨by decide, by decide⟩, rfl⟩ g1 () e1
  rw [r2'] at e2
  obtain ⟨r1, r2, r3, r4, r5, r7, r8⟩ := R2
  obtain ⟨gN, gE, gM, gx⟩ := G1
  have nh1 : nk_N h1 = nk_N h + 23 := by
    have := (r4 0).2.1
    rw [n1, ρ2 _ (by omega)] at this
    omega
  have sm : ∀ y, y < nk_N h → sameC h h1 y := fun y hy => by
    obtain ⟨-, -, q3, q4, q5, q6⟩ := r8 y hy
    exact ⟨q3, q4, q5, q6⟩
  have Kg : ∀ a, 1 ≤ a → a < 25 → nk_K h1 (ρ a) = nk_K g a := fun a h1 h2 => by
    rw [r2 a h1, (gx a (by omega)).1]
  have e1' : h1 = h1 := rfl
  refine ⟨h1, fun y => ∃ a, (1 ≤ a ∧ a < 25) ∧ nk_K g a ≠ 0 ∧ nk_K g a ≠ 20 ∧ ρ a = y, e2, ⟨ρ, fun a => 1 ≤ a ∧ a < 25, g, fun a ha => ⟨by omega, ?_, Or.inl (by show a < 2 + 23; omega)⟩, fun a b ha hb e => r1 a b ha.1 hb.1 e, fun a ha => Kg a ha.1 ha.2, fun a ha k0 k1 => ?_, ?_, Cg, ⟨by decide, r2'⟩, W, em, fun y => Iff.rfl⟩, fun i => ?_, r5.2.2.1, nh1, ?_, sm, fun y hy => ?_⟩
  · by_cases ca : a = 1
    · rw [ca, ρ1]; omega
    · rw [ρ2 a (by omega)]; omega
  · obtain ⟨x1, x2, x3, x4⟩ := gx a (by omega)
    rw [x1] at k0 k1
    obtain ⟨q1, q2, q3, q4⟩ := r3 a ha.1 k0 k1
    rw [x2, x3 id, x4 id]
    exact ⟨q1, q2, q3, fun j b hb => ⟨(q4 j b hb).1, by rw [← n1]; exact (q4 j b hb).2⟩⟩
  · rw [gE]
    exact ⟨⟨r5.1, by rw [← n1]; exact r5.2.2.2⟩, r5.2.1⟩
  · obtain ⟨d, e, k⟩ := r4 i
    rw [← e, r2 _ d, k]
  · have := r7.1
    omega
  · obtain ⟨a, ha, k0, k1, e⟩ := hy
    by_cases ca : a = 1
    · subst ca
      exfalso
      apply k1
      rw [← Kg 1 ha.1 ha.2, ρ1, (sm _ lE).1, hE]
    · rw [← e, ρ2 a (by omega)]; omega
/-- the law's run -/
theorem law_run (G : nk_G) (h0 : nk_H) (hL : nk_gL G ≤ 260) (hK : ∀ a, nk_K h0 a = if a = nk_E h0 then 20 else 0) (hE : nk_E h0 < nk_N h0) (hS : nk_S h0 = 0) : ∃ h', f_L_law G h0 = some (h', 1) ∧ nk_N h' ≤ nk_N h0 + 603975 ∧ nk_S h' ≤ 7289772 := by
  obtain ⟨g1, g, m0, e1, n1, s1, G1, n2, Cg, W, em, z⟩ := gh_have
  have C0 : HC h0 := fun i => by rw [hK, if_neg (by omega)]
  obtain ⟨h1, im1, f1, O1, C1, E1, N1, S1, sm1, im1'⟩ := ob_new C0 (by rw [hK, if_pos rfl]) hE e1 n1 s1 G1 n2 Cg W em
  obtain ⟨h2, im2, f2, O2, C2, E2, N2, S2, sm2, im2'⟩ := ob_new C1 (by rw [E1, (sm1 _ hE).1, hK, if_pos rfl]) (by rw [E1]; omega) e1 n1 s1 G1 n2 Cg W em
  have O1' : OB h2 (nk_N h0) im1 m0 := O1.kept (by omega) E2 (fun y hy => (sm2 y hy).1) (fun y hy _ => sm2 y hy)
  have T : TW h2 (nk_N h0) (nk_N h1) m0 m0 := ⟨⟨C2, z, z⟩, im1, im2, O1', O2, fun y a b => by
    have := O1.im_lt a
    have := im2' y b
    omega⟩
  have B : TB h2 (nk_N h0) (nk_N h1) m0 m0 (nk_N h0 + 46 + preN 0) (6000 + preS 0) := ⟨T, by show nk_N h2 ≤ nk_N h0 + 46 + 0; omega, by show nk_S h2 ≤ 6000 + 0; omega⟩
  obtain ⟨h', r, e, hr, b1, b2⟩ := law_loop hL 4096 0 h2 m0 B (by omega) (by omega)
  subst hr
  have p := pre_100
  refine ⟨h', ?_, by omega, by omega⟩
  unfold f_L_law
  rw [Option.bind_some, do_eq f1, Option.bind_some, do_eq f2]
  exact e
end U85
