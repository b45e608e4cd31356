/-- the same but for the place of the exception -/
def eq0 (s s' : Nat → Nat → Int32) : Prop := ∀ k j, k ≠ 0 → s' k j = s k j
theorem eq0_u (s : Nat → Nat → Int32) (v : Int32) : eq0 s (nk_u2 s 0 0 v) := fun k j hk => u2_k s 0 0 v j hk
section EQ
variable {h h' : nk_H} {X n w a c hr : Nat} {pa cp : Nat → Nat} {s s' : Nat → Nat → Int32}
theorem eq0.esN (e : eq0 s s') {k : Nat} (hk : k ≠ 0) (j : Nat) : sN s' k j = sN s k j := by unfold sN; rw [e k j hk]
theorem Inv.eq0 (e : eq0 s s') (hI : Inv s n w a c hr) : Inv s' n w a c hr := by
  have n1 := fun (k j : Nat) (hk : k ≠ 0) => e k j hk
  obtain ⟨⟨a1, a2, a3, a4, a5, a6, a7, a8, a9, a10, a11⟩, b, c', d, e', f, g, ⟨h1, h2, h3⟩, i, i9⟩ := hI
  refine ⟨⟨by rw [e 3 0 (by decide)]; exact a1, a2, by rw [e 12 0 (by decide)]; exact a3, a4, a5, by rw [e 29 0 (by decide)]; exact a6, a7, by rw [e 37 0 (by decide)]; exact a8, a9, by rw [e 1 0 (by decide)]; exact a10, a11⟩, ?_, ?_, ?_, ?_, ?_, ?_, ⟨?_, ?_, ?_⟩, ?_, ?_⟩
  · intro j hj
    obtain ⟨p1, p2, p3⟩ := b j hj
    rw [e 5 j (by decide), e 6 j (by decide), e 4 j (by decide), e 7 j (by decide)]
    refine ⟨p1, p2, ?_⟩
    rcases p3 with ⟨q1, q, q2, q3, q4⟩ | p3 | p3 | ⟨q1, q, q2, q3, q4⟩
    · exact Or.inl ⟨q1, q, q2, q3, by rw [e 13 q (by decide)]; exact q4⟩
    · exact Or.inr (Or.inl p3)
    · exact Or.inr (Or.inr (Or.inl p3))
    · exact Or.inr (Or.inr (Or.inr ⟨q1, q, q2, q3, by rw [e 32 q (by decide)]; exact q4⟩))
  · intro k hk j hj
    rw [e 10 _ (by decide), e 11 _ (by decide), e.esN (by decide)]
    exact c' k hk j hj
  · intro q hq
    obtain ⟨⟨p, p1, p2, p3, p4⟩, p5⟩ := d q hq
    rw [e 16 q (by decide), e 13 q (by decide)]
    exact ⟨⟨p, p1, p2, by rw [e 4 p (by decide)]; exact p3, by rw [e 7 p (by decide)]; exact p4⟩, p5⟩
  · intro x hx
    obtain ⟨⟨p, p1, p2, p3, p4⟩, p5, p6, p7, p8⟩ := e' x hx
    rw [e 32 x (by decide), e 33 _ (by decide), e 33 _ (by decide), e 33 _ (by decide), e 36 x (by decide)]
    exact ⟨⟨p, p1, p2, by rw [e 4 p (by decide)]; exact p3, by rw [e 7 p (by decide)]; exact p4⟩, p5, p6, p7, p8⟩
  · obtain ⟨f1, f2⟩ := f
    refine ⟨fun k hk => ?_, by rw [e.esN (by decide), e.esN (by decide), e.esN (by decide), e.esN (by decide), e.esN (by decide), e.esN (by decide)]; exact f2⟩
    obtain ⟨r, r1, r2, r3⟩ := f1 k hk
    rw [e 30 k (by decide)]
    refine ⟨r, r1, r2, fun i hi => ?_⟩
    rw [e 31 _ (by decide)]
    exact r3 i hi
  · intro x hx
    obtain ⟨⟨k, f0, z, g1, g2, g3, g4, g5, g6⟩, g7⟩ := g x hx
    rw [e 38 x (by decide), e 39 x (by decide), e 40 x (by decide), e 41 x (by decide)]
    exact ⟨⟨k, f0, z, g1, g2, g3, g4, g5, by rw [e.esN (by decide)]; exact g6⟩, g7⟩
  · rw [e 27 0 (by decide)]; exact h1
  · rw [e 28 0 (by decide)]; exact h2
  · intro k hk
    rw [e 2 k (by decide)]; exact h3 k hk
  · intro j hj
    rw [e.esN (by decide), e 10 _ (by decide), e 6 j (by decide), e.esN (by decide)]
    refine ⟨(i j hj).1, fun x hx => ?_⟩
    rw [e.esN (by decide)]
    exact (i j hj).2 x hx
  · unfold I9 sN
    rw [show s' 36 = s 36 from funext fun j => e 36 j (by decide), show s' 31 = s 31 from funext fun j => e 31 j (by decide), show s' 30 = s 30 from funext fun j => e 30 j (by decide)]
    exact i9
theorem LSq.el {l m : Nat} {el el' : Nat → Nat} (H : LSq h l m el) (e : ∀ i, i < m → el' i = el i) : LSq h l m el' := by
  obtain ⟨h1, h2, h3, e1, h4, h5, hh⟩ := H
  refine ⟨h1, h2, h3, e1, h4, h5, ?_⟩
  rcases hh with q | ⟨q1, q2, q3, q4, q5⟩
  · exact Or.inl q
  · exact Or.inr ⟨q1, q2, q3, q4, fun i hi => by rw [e i hi]; exact q5 i hi⟩
theorem CR.eq0 (e : eq0 s s') (hI : Inv s n w a c hr) (H : CR h X n w a c hr pa cp s) : CR h X n w a c hr pa cp s' := by
  obtain ⟨⟨h1, h2, h3, h4, h5, h6, h7, h8, h9, h10⟩, k2, k3, k4, k5, ⟨l1, l2, l3, l4⟩, k7, k8⟩ := H
  obtain ⟨r1, r2, r3, r4⟩ := rg_pw hI
  have G : Gn h h no no := Gn.refl h _ _
  have eW : eqW s s' w := fun q _ k hk1 _ => e k q (by omega)
  have ha : ∀ r, ac s' pa r = ac s pa r := fun r => by unfold ac; rw [e.esN (by decide)]
  refine ⟨⟨h1, h2, h3, PS.gn h3 h4 G (fun j _ => e 4 j (by decide)) (fun _ _ => id), PI.gn h3 h5 G (fun _ _ => ⟨id, id⟩) (fun j _ => e 5 j (by decide)) (fun j _ => e 6 j (by decide)) (fun j _ k _ => e 10 _ (by decide)) (fun j _ k _ => e 11 _ (by decide)),
    PW.gn h3 h6 G r1 r2 eW (fun _ _ => ⟨id, id⟩), PR.gn (w := w) h3 h7 G (fun j _ => e 4 j (by decide)) (fun j _ => e 7 j (by decide)) r4 eW (fun _ _ => id), PD.gn h3 h8 G (fun j _ => ⟨e 4 j (by decide), e 7 j (by decide), e 8 j (by decide), e 9 j (by decide)⟩) (fun _ _ _ => id),
    AS.gn (w := w) h3 h9 G r3 eW (fun x _ => ⟨e 32 x (by decide), e 33 _ (by decide)⟩) (fun _ _ => id), AI.gn h3 h9 h10 G (fun x hx => (r3 x hx).1) (fun x _ => ⟨e 32 x (by decide), e 34 x (by decide), e 35 x (by decide), e 36 x (by decide), fun i _ => e 33 _ (by decide)⟩) (fun j _ => ⟨e 5 j (by decide), e 6 j (by decide)⟩) (fun _ _ => ⟨id, id, id⟩)⟩,
    k2.gn G k8 id id (fun _ _ => id) (e 1 0 (by decide)) (e 27 0 (by decide)) (e 28 0 (by decide)) (fun k _ => e 2 k (by decide)), k3.gn G (by omega) id (fun _ _ => id) (fun k hk _ => e k 0 (by omega)), k4.gn G (fun x _ => e 40 x (by decide)) (fun _ _ => ⟨id, id⟩), KI.gn k4 k5 G (fun x _ => ⟨e 38 x (by decide), e 39 x (by decide), e 40 x (by decide), e 41 x (by decide), e 42 x (by decide), fun i _ => ⟨e 44 _ (by decide), fun p _ => e 43 _ (by decide)⟩⟩) (fun _ _ _ _ _ => id), ⟨l1, ?_, ?_, l4⟩, ?_, k8⟩
  · exact l2.el (fun q hq => eW.epw hq)
  · intro k hk
    rw [e.esN (by decide)]
    refine (l3 k hk).el (fun r hr9 => ?_)
    rw [e.esN (by decide), ha]
  · intro j hj
    obtain ⟨j1, j2⟩ := k7 j hj
    have eR : ∀ t k, Rt s' j t k = Rt s j t k := fun t k => by
      unfold Rt
      rw [e 10 _ (by decide), e.esN (by decide)]
    refine ⟨fun k hk => by rw [e.esN (by decide), e.esN (by decide), eR]; exact j1 k hk, fun t ht1 ht2 k hk => ?_⟩
    rw [e.esN (by decide)] at ht1
    rw [eR, eR, j2 t ht1 ht2 k hk]
    congr 1
    exact anyB_congr (fun k' _ => by rw [eR])
theorem MR.gn {M : Nat} {DI DP : Nat → Prop} (H : MR h M) (G : Gn h h' DI DP) (hN : M + 33 ≤ nk_N h) (d : ∀ x, M ≤ x → x ≤ M + 32 → ¬ DI x ∧ ¬ DP x) : MR h' M ∧ nm h' M = nm h M := by
  have g : ∀ x, M ≤ x → x ≤ M + 32 → nk_K h' x = nk_K h x ∧ nk_L h' x = nk_L h x ∧ nk_P h' x = nk_P h x ∧ nk_I h' x = nk_I h x := fun x h1 h2 => by
    obtain ⟨a1, a2, a3, a4⟩ := G.2.2.2 x (by omega)
    exact ⟨a1, a2, a3 (d x h1 h2).2, a4 (d x h1 h2).1⟩
  obtain ⟨H1, H2⟩ := H
  refine ⟨⟨by rw [(g M (by omega) (by omega)).1]; exact H1, fun k hk h0 => ?_⟩, ?_⟩
  · have hm := mo_le k
    obtain ⟨b1, b2, b3⟩ := H2 k hk h0
    rw [(g M (by omega) (by omega)).2.2.1, (g (M + mo k) (by omega) (by omega)).1, (g (M + mo k) (by omega) (by omega)).2.1]
    exact ⟨b1, b2, b3⟩
  · funext k j
    unfold nm
    have hm := mo_le k
    rw [(g M (by omega) (by omega)).2.2.2, (g (M + mo k) (by omega) (by omega)).2.2.2]
end EQ
