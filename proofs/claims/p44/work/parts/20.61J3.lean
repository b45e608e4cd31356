section CK
variable {h g h' : nk_H} {X n w a c hr : Nat} {pa cp : Nat → Nat} {s s' m : Nat → Nat → Int32}
theorem uC_O (s : Nat → Nat → Int32) (c k f z b : Nat) {x : Nat} (hx : x < 37) : uC s c k f z b x = s x := by
  funext y
  unfold uC
  rw [u2_k _ _ _ _ _ (by omega), cyS_O _ _ _ _ _ _ (by omega) (by omega), uC0_O _ _ _ _ _ _ (by omega)]
theorem uC_4 (s : Nat → Nat → Int32) (c k f z b : Nat) {x : Nat} (h1 : 38 ≤ x) (h2 : x ≤ 42) (y : Nat) : uC s c k f z b x y = uC0 s c k f z b x y := by
  unfold uC
  rw [u2_k _ _ _ _ _ (by omega), cyS_O _ _ _ _ _ _ (by omega) (by omega)]
theorem uC_43 (s : Nat → Nat → Int32) (c k f z b : Nat) {i p : Nat} (hi : i < z) (hp : p < 6) : uC s c k f z b 43 (6 * (160 * c + i) + p) = tpS s k f b i p := by
  have e1 : (6 * (160 * c + i) + p - 960 * c) / 6 = i := by omega
  have e2 : (6 * (160 * c + i) + p - 960 * c) % 6 = p := by omega
  unfold uC
  rw [u2_k _ _ _ _ _ (by omega)]
  unfold cyS
  rw [if_pos ⟨rfl, by omega, by omega⟩, e1, e2]
theorem uC_44 (s : Nat → Nat → Int32) (c k f z b : Nat) {i : Nat} (hi : i < z) : uC s c k f z b 44 (160 * c + i) = slS s k f i := by
  have e1 : 160 * c + i - 160 * c = i := by omega
  unfold uC
  rw [u2_k _ _ _ _ _ (by omega)]
  unfold cyS
  rw [if_neg (by omega), if_pos ⟨rfl, by omega, by omega⟩, e1]
theorem uC_old (s : Nat → Nat → Int32) (c k f z b : Nat) {x y : Nat} (hx : (x = 43 ∧ y < 960 * c) ∨ (x = 44 ∧ y < 160 * c)) : uC s c k f z b x y = s x y := by
  unfold uC
  rw [u2_k _ _ _ _ _ (by omega)]
  unfold cyS
  rw [if_neg (by omega), if_neg (by omega), uC0_O _ _ _ _ _ _ (by omega)]
theorem uC_I (hI : Inv s n w a c hr) {k f z b : Nat} (hc : c < 12) (hk : k < 6) (hz : 1 ≤ z) (hfz : f + z ≤ sN s 30 k) (hb : b < 64) : Inv (uC s c k f z b) n w a (c + 1) hr := by
  have e : ∀ x, x < 37 → uC s c k f z b x = s x := fun x hx => uC_O s c k f z b hx
  obtain ⟨t38, t39, t40, t41, t42⟩ := uC0_c s c k f z b
  obtain ⟨⟨j1, j2, j3, j4, j5, j6, j7, j8, j9, j10, j11⟩, i1, i2, i3, i4, i5, i6, i7, i8, i9⟩ := hI
  refine ⟨⟨by rw [e 3 (by decide)]; exact j1, j2, by rw [e 12 (by decide)]; exact j3, j4, j5, by rw [e 29 (by decide)]; exact j6, j7, by unfold uC; rw [u2_eq], by omega, by rw [e 1 (by decide)]; exact j10, j11⟩, i1.cg (fun k hk => e k (by omega)), i2.cg (fun k hk => e k (by omega)), i3.cg (fun k hk => e k (by omega)), i4.cg (fun k hk => e k (by omega)), i5.cg (fun k hk => e k (by omega)), fun q hq => ?_, i7.cg (fun k hk => e k (by omega)), i8.cg (fun k hk => e k (by omega)), i9.cg (fun k hk => e k (by omega))⟩
  have e30 : ∀ k, sN (uC s c k f z b) 30 k = sN s 30 k := fun k => by unfold sN; rw [uC_O _ _ _ _ _ _ (by decide)]
  have e30' : ∀ k', sN (uC s c k f z b) 30 k' = sN s 30 k' := fun k' => by unfold sN; rw [e 30 (by decide)]
  rw [uC_4 _ _ _ _ _ _ (by decide) (by decide), uC_4 _ _ _ _ _ _ (by decide) (by decide), uC_4 _ _ _ _ _ _ (by decide) (by decide), uC_4 _ _ _ _ _ _ (by decide) (by decide)]
  by_cases y : q = c
  · subst y
    rw [t38, t39, t40, t41]
    exact ⟨⟨k, f, z, hk, rfl, rfl, rfl, hz, by rw [e30']; exact hfz⟩, b, hb, rfl⟩
  · rw [uC0_q _ _ _ _ _ _ y, uC0_q _ _ _ _ _ _ y, uC0_q _ _ _ _ _ _ y, uC0_q _ _ _ _ _ _ y]
    obtain ⟨⟨k', f', z', q1, q2, q3, q4, q5, q6⟩, q7⟩ := i6 q (by omega)
    exact ⟨⟨k', f', z', q1, q2, q3, q4, q5, by rw [e30']; exact q6⟩, q7⟩
theorem JX.ofC {t : Nat → Nat → Int32} {code : Int32} (e : eq0 s t) (hI : Inv s n w a c hr) {k f z b : Nat} (hc : c < 12) (hk : k < 6) (hfz : f + z ≤ sN s 30 k) : JX s (uC t c k f z b) code (Int32.ofNat c) := fun N => by
  obtain ⟨n1, n2, n3, n4, n5, n6⟩ := N
  have ex : ∀ x, x < 37 → x ≠ 0 → uC t c k f z b x = s x := fun x h1 h2 => (uC_O _ _ _ _ _ _ h1).trans (funext fun j => e x j h2)
  have hc37 := hI.1.2.2.2.2.2.2.2.1
  have e37 : uC t c k f z b 37 0 = Int32.ofNat (c + 1) := by unfold uC; rw [u2_eq]
  have o4 : ∀ x y, 38 ≤ x → x ≤ 42 → y ≠ c → uC t c k f z b x y = s x y := fun x y x1 x2 hy => by rw [uC_4 _ _ _ _ _ _ x1 x2, uC0_q _ _ _ _ _ _ hy]; exact e x y (by omega)
  obtain ⟨t38, t39, t40, t41, t42⟩ := uC0_c t c k f z b
  rw [← uC_4 t c k f z b (by decide) (by decide)] at t38 t39 t40 t41 t42
  obtain ⟨r, er, hr9, hact⟩ := hI.2.2.2.2.2.1.1 k hk
  have ha : a ≤ 160 := by have := hI.1.2.1; have := hI.1.2.2.2.2.2.2.1; omega
  have hrr : sN s 30 k = r := sN_of er (by omega)
  refine ⟨⟨?_, ?_, ?_, fun x hx i hi p hp hg => ?_, ?_, ?_⟩, fun _ => ia_n0 (by omega)⟩
  · rw [ex 2 (by omega) (by decide)]; exact n1
  · unfold sN at n2 ⊢
    rw [ex 29 (by omega) (by decide), ex 33 (by omega) (by decide)]; exact n2
  · rw [ex 33 (by omega) (by decide)]; exact n3
  · rw [sN_of e37 (by omega)] at hx
    by_cases y : x = c
    · subst y
      rw [sN_of t40 (by omega)] at hi
      rw [uC_43 _ _ _ _ _ _ hi hp]
      rw [t41] at hg
      unfold tpS
      rw [if_neg (by rw [hg]; decide)]
      obtain ⟨q, hq, eq9⟩ := hact (f + i) (by omega)
      have e31 : t 31 (160 * k + (f + i)) = Int32.ofNat q := (e 31 _ (by decide)).trans eq9
      rw [sN_of e31 (by omega), e 33 _ (by decide)]
      exact n3 _ (by omega)
    · obtain ⟨-, k', f', z', b', -, -, -, -, -, ez, -, -, hf, hka, -, -⟩ := co_I hI (q := x) (by omega)
      have e40 : sN (uC t c k f z b) 40 x = sN s 40 x := by unfold sN; rw [o4 40 x (by decide) (by decide) y]
      rw [e40] at hi
      rw [o4 41 x (by decide) (by decide) y] at hg
      rw [uC_old _ _ _ _ _ _ (Or.inl ⟨rfl, by omega⟩), e 43 _ (by decide)]
      exact n4 x (by rw [sN_of hc37 (by omega)]; omega) i hi p hp hg
  · unfold sN at n5 ⊢
    rw [ex 12 (by omega) (by decide), ex 15 (by omega) (by decide)]; exact n5
  · unfold sN at n6 ⊢
    rw [ex 29 (by omega) (by decide), ex 30 (by omega) (by decide), ex 31 (by omega) (by decide)]; exact n6
theorem WR.copied (W : WR h X n w a c hr pa cp s m) {q k f z b : Nat} (hq : nk_N h = q) (hc : c < 12) (hk : k < 6) (hz : 1 ≤ z) (hfz : f + z ≤ sN s 30 k) (hb : b < 64) (G0 : Gn h g no no) (K : KC g q z) (i0 : nk_I g q 0 = Int32.ofNat k) (i1 : nk_I g q 1 = Int32.ofNat f) (i2 : nk_I g q 2 = Int32.ofNat z) (i3 : nk_I g q 3 = Int32.ofNat b) (i6 : nk_I g q 6 = aheadS s k f) (vv : ∀ y, y < z → nk_I g (q + 2 + z) y = slS s k f y ∧ ∀ p, p < 6 → nk_I g (q + 2 + y) p = tpS s k f b y p) (Ng : nk_N g = q + 3 + z)
    (G1 : Gn g h' (fun y => y = X + 21) (dL g (X + 21))) (L' : LSq h' (X + 21) (c + 1) (pax cp c q)) (fr : ∀ e', nk_P h' (X + 21) 1 = some e' → nk_P g (X + 21) 1 = some e' ∨ e' = nk_N g) : WR h' X n w a (c + 1) hr pa (pax cp c q) (uC s c k f z b) m := by
  have hI' := uC_I W.I hc hk hz hfz hb
  have e : ∀ x, x < 37 → uC s c k f z b x = s x := fun x hx => uC_O s c k f z b hx
  obtain ⟨t38, t39, t40, t41, t42⟩ := uC0_c s c k f z b
  have n43 : ∀ i p, i < z → p < 6 → uC s c k f z b 43 (6 * (160 * c + i) + p) = tpS s k f b i p := fun i p hi hp => uC_43 s c k f z b hi hp
  have n44 : ∀ i, i < z → uC s c k f z b 44 (160 * c + i) = slS s k f i := fun i hi => uC_44 s c k f z b hi
  have o4 : ∀ x y, 38 ≤ x → x ≤ 42 → y ≠ c → uC s c k f z b x y = s x y := fun x y x1 x2 hy => by rw [uC_4 _ _ _ _ _ _ x1 x2, uC0_q _ _ _ _ _ _ hy]
  have ol : ∀ x y, ((x = 43 ∧ y < 960 * c) ∨ (x = 44 ∧ y < 160 * c)) → uC s c k f z b x y = s x y := fun x y hx => uC_old s c k f z b hx
  rw [← uC_4 s c k f z b (by decide) (by decide)] at t38 t39 t40 t41 t42
  generalize uC s c k f z b = s' at *
  have hbb := W.b
  have LLh : LL h X := W.1.2.2.2.2.2.1.ll W.N
  have LLg : LL g X := LLh.gn G0 (fun _ _ => id)
  have OWg : OW g X := W.2.1.gn2 LLh G0 (fun _ _ => id)
  have isL21 : isL X (X + 21) := Or.inr (Or.inr (Or.inl rfl))
  have G : Gn h h' (fun y => y = X + 21) (dL g (X + 21)) := (G0.mono (DI' := fun y => y = X + 21) (DP' := dL g (X + 21)) (fun _ z => z.elim) (fun _ z => z.elim)).on G1 (fun x z => Or.inl z) (fun x z => Or.inl z)
  obtain ⟨H, h2, h3, h4, h5, hI⟩ := W
  have hN := H.2.2.2.2.2.2.2
  have dP : ∀ x, x < nk_N h → x ≠ X + 21 → nk_K h x ≠ 4 → ¬ dL g (X + 21) x := fun x hx z y y2 => by
    rcases y2 with y2 | ⟨-, y2⟩
    · exact z y2
    · rw [(G0.2.2.2 x hx).1] at y2; exact y y2
  have kM : ∀ x, X + 23 ≤ x → x ≤ X + 55 → nk_K h x ≠ 4 := fun x x1 x2 e => by
    obtain ⟨q1, q2⟩ := h3
    by_cases z : x = X + 23
    · rw [z, q1] at e; exact absurd e (by decide)
    · have key : ∀ y, 1 ≤ y → y ≤ 32 → ∃ k, k < 45 ∧ mo k = y := by
        intro y y1 y2
        have : ∀ y, y ≤ 32 → 1 ≤ y → (List.range 45).any (fun k => mo k == y) = true := by decide +kernel
        have := this y y2 y1
        rw [List.any_eq_true] at this
        obtain ⟨k, k1, k2⟩ := this
        exact ⟨k, by simpa using k1, by simpa using k2⟩
      obtain ⟨k, k1, k2⟩ := key (x - (X + 23)) (by omega) (by omega)
      obtain ⟨-, q3, -⟩ := q2 k k1 (by omega)
      have : X + 23 + mo k = x := by omega
      rw [this, e] at q3
      unfold mk at q3
      split at q3 <;> omega
  obtain ⟨m1, m2⟩ := MR.gn h3 G (by omega) (fun x x1 x2 => ⟨by omega, dP x (by omega) (by omega) (kM x x1 (by omega))⟩)
  refine ⟨?_, OWg.add LLg isL21 G1 fr, m1, by rw [m2]; exact h4, h5.gn G hN, hI'⟩
  obtain ⟨⟨h1, h2, h3, h4, h5, h6, h7, h8, h9, h10⟩, k2, k3, k4, k5, ⟨l1, l2, l3, l4⟩, k7, k8⟩ := H
  obtain ⟨r1, r2, r3, r4⟩ := rg_pw hI
  have pj : ∀ j, j < n → pa j + 1 < nk_N h := fun j hj => by have := (h3 j hj).2.1; omega
  have pK : ∀ j, j < n → nk_K h (pa j) ≠ 4 := fun j hj e => by
    have p1 := (h4 j hj).1
    rcases pk_cases hI hj with ⟨-, q⟩ | ⟨-, q⟩ | ⟨-, q⟩ | ⟨-, q⟩ <;> omega
  have dj : ∀ j, j < n → ¬ (pa j = X + 21) ∧ ¬ (pa j + 1 = X + 21) := fun j hj => by
    have := (h3 j hj).1
    omega
  have dp : ∀ j, j < n → ¬ dL g (X + 21) (pa j) := fun j hj => by
    have := (h3 j hj).1
    have := pj j hj
    exact dP _ (by omega) (by omega) (pK j hj)
  have da : ∀ e, e < a → ¬ (ac s pa e = X + 21) ∧ ¬ (ac s pa e - 1 = X + 21) ∧ ¬ (ac s pa e + 2 = X + 21) := fun e he => by
    obtain ⟨-, -, -, -, -, -, z7, z8⟩ := h9 e he
    omega
  have hd : ∀ d, nk_P h X 6 = some d → ¬ d = X + 21 := fun d hd => by
    obtain ⟨d', e1, e2, e3, -⟩ := k3
    rw [hd] at e1
    cases e1
    omega
  have ee : ∀ x y, x < 37 → s' x y = s x y := fun x y hx => by rw [e x hx]
  have es : ∀ x y, x < 37 → sN s' x y = sN s x y := fun x y hx => by unfold sN; rw [e x hx]
  have eW : eqW s s' w := fun q _ k _ hk2 => ee k q (by omega)
  have ha : ∀ r, ac s' pa r = ac s pa r := fun r => by unfold ac; rw [es _ _ (by decide)]
  have sz : ∀ x, x < c → sN s 40 x ≤ 160 := fun x hx => by
    obtain ⟨-, k', f', z', b', -, -, -, -, -, ez, -, -, hf, hka, hha, -⟩ := co_I hI hx
    omega
  have gK : KS h' X c n pa cp s' := KS.gn k4 G (fun x hx => o4 40 x (by decide) (by decide) (by omega)) (fun x hx => by
    obtain ⟨z1, z2, z3, z4, z5, z6, z7, z8, -⟩ := k4 x hx
    exact ⟨dP _ (by omega) (by omega) (by rw [z5]; decide), dP _ (by omega) (by omega) (by rw [z8]; decide)⟩)
  have gI : KI h' c cp s' := KI.gn k4 k5 G (fun x hx => ⟨o4 38 x (by decide) (by decide) (by omega), o4 39 x (by decide) (by decide) (by omega), o4 40 x (by decide) (by decide) (by omega), o4 41 x (by decide) (by decide) (by omega), o4 42 x (by decide) (by decide) (by omega), fun i hi => by
    have := sz x hx
    exact ⟨ol 44 _ (Or.inr ⟨rfl, by omega⟩), fun p hp => ol 43 _ (Or.inl ⟨rfl, by omega⟩)⟩⟩) (fun e he x x1 x2 => by have := (k4 e he).1; omega)
  have hka : sN s 30 k ≤ 160 := by
    obtain ⟨x, ex, hx, -⟩ := hI.2.2.2.2.2.1.1 k hk
    rw [sN_of ex (by omega)]; omega
  have q40 : sN s' 40 c = z := sN_of t40 (by omega)
  obtain ⟨c1, c2, c3, c4, c5, c6, c7, c8⟩ := K
  have f1 : ∀ x, q ≤ x → x < q + 3 + z → nk_K h' x = nk_K g x ∧ nk_L h' x = nk_L g x ∧ nk_I h' x = nk_I g x := fun x x1 x2 => by
    obtain ⟨u1, u2, -, u4⟩ := G1.2.2.2 x (by omega)
    exact ⟨u1, u2, u4 (by omega)⟩
  have fp : ∀ x, q ≤ x → x < q + 3 + z → nk_K g x ≠ 4 → nk_P h' x = nk_P g x := fun x x1 x2 hx => (G1.2.2.2 x (by omega)).2.2.1 (fun y => by
    rcases y with y | ⟨-, y⟩
    · omega
    · exact hx y)
  have NN := G1.1
  have cpl : ∀ x, x < c → pax cp c q x = cp x := pax_lt cp c q
  have cpn : pax cp c q c = q := pax_n cp c q
  refine ⟨⟨h1.gn2 G hN (fun x hx => ?_), ?_, h3.gn G, PS.gn h3 h4 G (fun j hj => ee 4 j (by decide)) dp, PI.gn h3 h5 G dj (fun j hj => ee 5 j (by decide)) (fun j hj => ee 6 j (by decide)) (fun j hj k hk => ee 10 _ (by decide)) (fun j hj k hk => ee 11 _ (by decide)), PW.gn h3 h6 G r1 r2 eW (fun q hq => ⟨(dj _ (r1 q hq)).1, dp _ (r1 q hq)⟩), PR.gn (w := w) h3 h7 G (fun j hj => ee 4 j (by decide)) (fun j hj => ee 7 j (by decide)) r4 eW dp, PD.gn h3 h8 G (fun j hj => ⟨ee 4 j (by decide), ee 7 j (by decide), ee 8 j (by decide), ee 9 j (by decide)⟩) (fun j hj _ => (dj j hj).1), AS.gn (w := w) h3 h9 G r3 eW (fun x hx => ⟨ee 32 x (by decide), ee 33 _ (by decide)⟩) (fun e he => dp _ (r3 e he).1), AI.gn h3 h9 h10 G (fun x hx => (r3 x hx).1) (fun x _ => ⟨ee 32 x (by decide), ee 34 x (by decide), ee 35 x (by decide), ee 36 x (by decide), fun i _ => ee 33 _ (by decide)⟩) (fun j hj => ⟨ee 5 j (by decide), ee 6 j (by decide)⟩) da⟩,
    k2.gn G hN (by omega) (by omega) (fun k hk => by omega) (ee 1 0 (by decide)) (ee 27 0 (by decide)) (ee 28 0 (by decide)) (fun k _ => ee 2 k (by decide)), k3.gn G (by omega) (dP _ (by omega) (by omega) (by rw [h1.1]; decide)) hd (fun k hk1 hk2 => ee k 0 (by omega)), fun e he => ?_, fun e he => ?_, ⟨?_, ?_, fun k hk => ?_, L'⟩, ?_, by omega⟩
  · obtain ⟨c1, -, -, -, -, -, ⟨c2, -⟩, ⟨c3, -⟩, ⟨c4, -⟩, c5⟩ := h1
    rcases hx with rfl | rfl | rfl | rfl | ⟨k, hk, rfl⟩
    · exact dP _ (by omega) (by omega) (by rw [c1]; decide)
    · exact dP _ (by omega) (by omega) (by rw [c2]; decide)
    · exact dP _ (by omega) (by omega) (by rw [c3]; decide)
    · exact dP _ (by omega) (by omega) (by rw [c4]; decide)
    · exact dP _ (by omega) (by omega) (by rw [(c5 k hk).2.1]; decide)
  · exact (h2.gn G0 (by omega) id id (fun _ _ => id)).keep OWg LLg isL21 (Or.inl rfl) (by omega) G1 (by omega)
  · by_cases y : e = c
    · subst y
      rw [cpn, q40, (f1 q (by omega) (by omega)).1, fp q (by omega) (by omega) (by rw [c1]; decide), (f1 (q + 1) (by omega) (by omega)).1, (f1 (q + 1) (by omega) (by omega)).2.1, fp (q + 1) (by omega) (by omega) (by rw [c4]; decide), (f1 (q + 2 + z) (by omega) (by omega)).1, (f1 (q + 2 + z) (by omega) (by omega)).2.1]
      refine ⟨by omega, by omega, fun i hi => ?_, fun j hj => Or.inl (by have := (h3 j hj).2.1; omega), c1, c2, c3, c4, c5, c6, c7, fun i hi => ?_⟩
      · rw [cpl i hi]
        have := (gK i hi).2.1
        have k42 := (k4 i hi).2.1
        have : sN s' 40 i = sN s 40 i := by unfold sN; rw [o4 40 i (by decide) (by decide) (by omega)]
        omega
      · rw [(f1 (q + 2 + i) (by omega) (by omega)).1, (f1 (q + 2 + i) (by omega) (by omega)).2.1]
        exact c8 i hi
    · have he' : e < c := by omega
      rw [cpl e he']
      obtain ⟨g1, g2, g3, g4⟩ := gK e he'
      exact ⟨g1, g2, fun i hi => by rw [cpl i (by omega)]; exact g3 i hi, g4⟩
  · by_cases y : e = c
    · subst y
      rw [cpn, q40, (f1 q (by omega) (by omega)).2.2, (f1 (q + 2 + z) (by omega) (by omega)).2.2, t38, t39, t40, t41, t42]
      refine ⟨i0, i1, i2, i3, i6, fun i hi => ⟨by rw [n44 i hi]; exact (vv i hi).1, fun p hp => ?_⟩⟩
      rw [(f1 (q + 2 + i) (by omega) (by omega)).2.2, n43 i p hi hp]
      exact (vv i hi).2 p hp
    · have he' : e < c := by omega
      rw [cpl e he']
      exact gI e he'
  · exact (l1.gn G0 (by omega) id id (fun _ _ => id)).keep OWg LLg isL21 (Or.inl rfl) (by omega) G1 (by omega)
  · exact LSq.el ((l2.gn G0 (by omega) id id (fun _ _ => id)).keep OWg LLg isL21 (Or.inr (Or.inl rfl)) (by omega) G1 (by omega)) (fun q hq => eW.epw hq)
  · rw [es 30 k (by decide)]
    refine LSq.el (((l3 k hk).gn G0 (by omega) id id (fun _ _ => id)).keep OWg LLg isL21 (Or.inr (Or.inr (Or.inr ⟨k, hk, rfl⟩))) (by omega) G1 (by omega)) (fun r hr9 => ?_)
    rw [es 31 _ (by decide), ha]
  · exact k7.same ((G.2.2.2 (X + 3) (by omega)).2.2.2 (by omega)) (e 5 (by decide)) (e 6 (by decide)) (e 10 (by decide))
theorem rec_f (hI : Inv s n w a c hr) {v r : Int32} (hb : recB s v r = true) : ∃ k i, v = Int32.ofNat k ∧ k < 6 ∧ r = Int32.ofNat i ∧ i < sN s 30 k ∧ sN s 30 k ≤ a := by
  obtain ⟨k, i, e, e1, e2, e3, e4, e5, -⟩ := rec_ex hI hb
  exact ⟨k, i, e1, e2, e3, e4, e5⟩
def ecoS (s : Nat → Nat → Int32) (c : Nat) (v u p q : Int32) : Int32 := if (recB s v u && recB s v p) = true then (if (decide (u ≤ p) && wi q 0 63) = true then (if decide (c < 12) = true then 0 else 3) else 2) else 1
theorem bi_copy (W : WR h X n w a c hr pa cp s s) (v u p l : Int32) : BI h X s (f_W_copy h (some X) v u p l (some (X + 56))) (fun h1 => f_X12_copy h1 (X + 23) v u p l) := by
  have hb := W.b
  have hI := W.I
  have eM : ∀ h1, St h1 (X + 23) s → f_X12_copy h1 (X + 23) v u p l = f_X12_copy_c69 h1 (X + 23) v u p l (ecoS s c v u p l) (some (X + 23)) := fun h1 H1 => by
    unfold f_X12_copy f_X12_copy_c22 f_X12_copy_c23 f_X12_copy_c51 ecoS
    rw [w_rcv H1, do_eq (m_isRecord H1 hI.2.2.2.2.2.1 hb.2.2.1 v u), ite_b]
    cases recB s v u with
    | false => rfl
    | true =>
      rw [if_pos rfl, w_rcv H1, do_eq (m_isRecord H1 hI.2.2.2.2.2.1 hb.2.2.1 v p), ite_b]
      cases recB s v p with
      | false => rfl
      | true =>
        rw [if_pos rfl, if_neg (by decide)]
        by_cases z : u ≤ p
        · rw [if_neg (Int32.not_lt.mpr z), decide_eq_true z, do_eq (m_in h1 l 0 63), ite_b]
          change (if wi l 0 63 = true then _ else _) = _
          cases wi l 0 63 with
          | false => rfl
          | true =>
            rw [if_pos rfl, w_gIv H1 37 hI.1.2.2.2.2.2.2.2.1]
            by_cases z2 : c = 12
            · subst z2; rfl
            · rw [if_neg (show ¬ Int32.ofNat c = 12 from fun e => z2 ((ia_eq (b := 12) (by omega) (by omega)).mp e)), decide_eq_true (show c < 12 by omega)]; rfl
        · rw [if_pos (Int32.not_le.mp z), decide_eq_false z]; rfl
  have err : ∀ (k : Int32), k ≠ 0 → ecoS s c v u p l = k → ∀ h1, St h1 (X + 23) s → ∃ r, Ok h1 (X + 23) (nk_u2 s 0 0 k) r (f_X12_copy h1 (X + 23) v u p l) := fun k hk ek h1 H1 => by
    rw [eM h1 H1, ek]
    unfold f_X12_copy_c69
    rw [w_rcv H1]
    refine ⟨0, w_do (w_holds H1 _) (fun h2 H2 => ?_)⟩
    rw [decide_eq_false hk]
    exact Ok.here H2
  unfold f_W_copy
  rw [rX W]
  cases h0 : recB s v u with
  | false =>
    refine BI.errV W (E := nk_IX) (v := 1) ?_ rfl rfl (by decide) (err 1 (by decide) (by unfold ecoS; rw [h0]; rfl))
    unfold f_X11_copy
    rw [rX W, dt_if (mb_record W v u), h0]
    exact VOK.thrown W _
  | true =>
    cases h1 : recB s v p with
    | false =>
      refine BI.errV W (E := nk_IX) (v := 1) ?_ rfl rfl (by decide) (err 1 (by decide) (by unfold ecoS; rw [h0, h1]; rfl))
      unfold f_X11_copy
      rw [rX W, dt_if (mb_record W v u), h0, if_pos rfl, rX W, dt_if (mb_record W v p), h1]
      exact VOK.thrown W _
    | true =>
      cases h2 : wi l 0 63 with
      | false =>
        refine BI.errV W (E := nk_IA) (v := 2) ?_ rfl rfl (by decide) (err 2 (by decide) (by unfold ecoS; rw [h0, h1, h2, Bool.and_false]; rfl))
        unfold f_X11_copy
        rw [rX W, dt_if (mb_record W v u), h0, if_pos rfl, rX W, dt_if (mb_record W v p), h1, if_pos rfl, dt_if (mb_within h l 0 63), h2]
        exact VOK.thrown W _
      | true =>
        by_cases z : u ≤ p
        · obtain ⟨k, f, rfl, hk, rfl, hf, hka⟩ := rec_f hI h0
          obtain ⟨k', l', ek, hk', rfl, hl, -⟩ := rec_f hI h1
          have : k = k' := (ia_eq (by omega) (by omega)).mp ek
          subst this
          have hfl : f ≤ l' := (ia_le (by omega) (by omega)).mp z
          obtain ⟨b, rfl, hb63⟩ := wi_ex (hi := 63) (by decide) h2
          obtain ⟨p1, -, -, -, p4, p5, -, -, ⟨p8, p9⟩, -⟩ := W.1.1.1
          have k18 : nk_K h X ∈ [18] := by rw [p1]; decide
          have L21 := W.1.2.2.2.2.2.1.2.2.2
          generalize hz : l' - f + 1 = z' at *
          have el : Int32.ofNat l' - Int32.ofNat f + 1 = Int32.ofNat z' := by rw [ia_sub hfl, ia_1, hz]
          cases h3 : decide (c < 12) with
          | false =>
            have hc : ¬ c < 12 := of_decide_eq_false h3
            refine BI.errV W (E := nk_IS) (v := 3) ?_ rfl rfl (by decide) (err 3 (by decide) (by unfold ecoS; rw [h0, h1, h2, h3, decide_eq_true z]; rfl))
            unfold f_X11_copy
            rw [rX W, dt_if (mb_record W _ _), h0, if_pos rfl, rX W, dt_if (mb_record W _ _), h1, if_pos rfl, dt_if (mb_within h _ 0 63), h2, if_pos rfl, if_pos z, rd_P [18] k18 p5, rd_r [7] (by rw [L21.1]; decide), do_eq (ls_size L21), if_neg (show ¬ Int32.ofNat c < 12 from fun e => hc ((ia_lt (b := 12) (by omega) (by omega)).mp e))]
            exact VOK.thrown W _
          | true =>
            have hc : c < 12 := of_decide_eq_true h3
            have hN := W.N
            obtain ⟨g, eg, Gg, Kg, i0, i1, i2, i3, Ng, Sg⟩ := cp_init h (k := k) (f := f) (z := z') (b := b) (by omega)
            generalize hq : nk_N h = q at *
            have Wg : WR g X n w a c hr pa cp s s := W.gn (Gg.mono (fun _ z => z.elim) (fun _ => id))
            have hfz : f + z' ≤ sN s 30 k := by omega
            have k10 : nk_K g q ∈ [10] := by rw [Kg.1]; decide
            obtain ⟨f1, f2, f3, Lk⟩ := ch_at Wg hk
            have o6 : ∀ x y, (x ≠ q ∨ y ≠ 6) → nk_I (nk_sI g q 6 (aheadS s k f)) x y = nk_I g x y := fun x y hxy => by
              rw [nk_I_sI]
              by_cases t : x = q
              · rw [t, nk_u2_nk _ _ _ _ _ (by rcases hxy with hxy | hxy; exact absurd t hxy; exact hxy)]
              · rw [nk_u2_ne _ _ _ _ _ t]
            obtain ⟨g2, e2, S2, G2, iq2, vv⟩ := tf_loop W (q := q) (k := k) (f := f) (z := z') (b := b) (by omega) hk (by omega) hfz 4096 0 (nk_sI g q 6 (aheadS s k f)) (Gg.sI _ _ (Or.inr (by omega))) (Kg.si ((SI.refl g).sI _ _ _)) (by rw [o6 _ _ (Or.inr (by decide))]; exact i0) (by rw [o6 _ _ (Or.inr (by decide))]; exact i1) (by rw [o6 _ _ (Or.inr (by decide))]; exact i2) (by rw [o6 _ _ (Or.inr (by decide))]; exact i3) (by omega) (by omega) (fun y hy => by omega)
            have e2' : f_X2_takeFrom_b14 4096 (nk_sI g q 6 (aheadS s k f)) q (some (X + 9 + 2 * k)) 0 = some (g2, ()) := e2
            have SS : SI g g2 := ((SI.refl g).sI q 6 (aheadS s k f)).trans S2
            have K2 : KC g2 q z' := Kg.si SS
            have N2 : nk_N g2 = q + 3 + z' := by rw [SS.2.2.2.1]; exact Ng
            have W2 : WR g2 X n w a c hr pa cp s s := W.gn (G2.mono (fun _ z => z.elim) (fun _ => id))
            have L2 := W2.1.2.2.2.2.2.1.2.2.2
            obtain ⟨h9, e9, G9, L9, b9, s9, fr9⟩ := ls_add L2 (show X + 21 < nk_N g2 by omega) (by omega) (x := q) (by omega) (by rw [K2.1]; decide) (el' := pax cp c q) (pax_lt cp c q) (pax_n cp c q)
            have W9 := W.copied hq hc hk (by omega) hfz (by omega) G2 K2 (by rw [iq2, o6 _ _ (Or.inr (by decide))]; exact i0) (by rw [iq2, o6 _ _ (Or.inr (by decide))]; exact i1) (by rw [iq2, o6 _ _ (Or.inr (by decide))]; exact i2) (by rw [iq2, o6 _ _ (Or.inr (by decide))]; exact i3) (by rw [iq2, nk_I_sI, nk_u2_eq]) vv N2 G9 L9 fr9
            refine BI.okV (v := Int32.ofNat c) (s' := uC s c k f z' b) (s2 := uC (nk_u2 s 0 0 0) c k f z' b) (n' := n) (w' := w) (a' := a) (c' := c + 1) (hr' := hr) ?_ (fun h1' H1 => ?_) (uC_e (eq0_u s 0) _ _ _ _ _) ?_ (JX.ofC (eq0_u s 0) W.I hc hk hfz)
            · refine ⟨h9, pa, _, ?_, W9, by omega, ?_⟩
              · unfold f_X11_copy f_X2_takeFrom
                obtain ⟨-, -, -, -, r4, r5, -, -, ⟨r8, r9⟩, -⟩ := Wg.1.1.1
                have r1 := Wg.1.1.1.1
                have t1 := W2.1.1.1.1
                have t5 := W2.1.1.1.2.2.2.2.2.1
                have y1 := W9.1.1.1.1
                have y5 := W9.1.1.1.2.2.2.2.2.1
                rw [rX W, dt_if (mb_record W _ _), h0, if_pos rfl, rX W, dt_if (mb_record W _ _), h1, if_pos rfl, dt_if (mb_within h _ 0 63), h2, if_pos rfl, if_pos z, rd_P [18] k18 p5, rd_r [7] (by rw [L21.1]; decide), do_eq (ls_size L21), if_pos (show Int32.ofNat c < 12 from (ia_lt (b := 12) (by omega) (by omega)).mpr hc), Option.bind_some, hq, el, do_eq eg, rd_P (h := g) [18] (by rw [r1]; decide) r4, rd_q 3 r8 (by omega) (by omega) f1, rd_r [10] k10, rd_I [10] k10 i1, rd_r [9] (by rw [f2]; decide), do_eq (q_sealAhead Wg hk (by omega)), wr_I [10] 6 _ k10, e2', do_s, rd_P (h := g2) [18] (by rw [t1]; decide) t5, rd_r [7] (by rw [L2.1]; decide), do_eq e9, rd_P (h := h9) [18] (by rw [y1]; decide) y5, rd_r [7] (by rw [L9.1]; decide), do_eq (ls_size L9), ia_s1]
              · have : nk_S g2 = nk_S g := SS.2.2.2.2.1
                omega
            · show Ok h1' (X + 23) _ _ (f_X12_copy h1' (X + 23) _ _ _ _)
              have ec : ecoS s c (Int32.ofNat k) (Int32.ofNat f) (Int32.ofNat l') (Int32.ofNat b) = 0 := by
                unfold ecoS; rw [h0, h1, h2, h3, decide_eq_true z]; rfl
              rw [eM h1' H1, ec]
              unfold f_X12_copy_c69
              rw [w_rcv H1]
              refine w_do (w_holds H1 _) (fun h2 H2 => ?_)
              show Ok h2 (X + 23) _ _ (if (1 : Int32) = 0 then _ else _)
              have e37 : nk_u2 s 0 0 0 37 0 = Int32.ofNat c := by rw [u2_k _ _ _ _ _ (by decide)]; exact hI.1.2.2.2.2.2.2.2.1
              have act : ∀ i, i < z' → ∃ e, e < 160 ∧ nk_u2 s 0 0 0 31 (160 * k + (f + i)) = Int32.ofNat e := fun i hi => by
                obtain ⟨x, ex, hx, hact⟩ := hI.2.2.2.2.2.1.1 k hk
                have := sN_of ex (by omega)
                obtain ⟨e, he, ee⟩ := hact (f + i) (by omega)
                exact ⟨e, by omega, by rw [u2_k _ _ _ _ _ (by decide)]; exact ee⟩
              have ahd : ∀ (S : Nat → Nat → Int32) h3, St h3 (X + 23) S → S 35 = (nk_u2 s 0 0 0) 35 → S 31 = (nk_u2 s 0 0 0) 31 → f_X12_sealAhead h3 (X + 23) (Int32.ofNat k) (Int32.ofNat f) = some (h3, aheadS (nk_u2 s 0 0 0) k f) := fun S h3 H3 e35 e31 => by
                rw [m_ahead (a := 160) H3 (by omega) hk (by omega) (fun hf0 => by
                  obtain ⟨x, ex, hx, hact⟩ := hI.2.2.2.2.2.1.1 k hk
                  have := sN_of ex (by omega)
                  obtain ⟨e, he, ee⟩ := hact (f - 1) (by omega)
                  exact ⟨e, by omega, by rw [e31, u2_k _ _ _ _ _ (by decide)]; exact ee⟩)]
                unfold aheadS sN
                rw [e35, e31]
              rw [if_neg (by decide), w_gP H2 38, w_gIv H2 37 e37]
              refine w_wI H2 38 _ (by show c < 12; omega) (fun h3 H3 => ?_)
              rw [w_gP H3 39, w_gIv H3 37 (v := Int32.ofNat c) (by rw [u2_k _ _ _ _ _ (by decide)]; exact e37)]
              refine w_wI H3 39 _ (by show c < 12; omega) (fun h4 H4 => ?_)
              rw [w_gP H4 40, w_gIv H4 37 (v := Int32.ofNat c) (by rw [u2_k _ _ _ _ _ (by decide), u2_k _ _ _ _ _ (by decide)]; exact e37), el]
              refine w_wI H4 40 _ (by show c < 12; omega) (fun h5 H5 => ?_)
              rw [w_gP H5 41, w_gIv H5 37 (v := Int32.ofNat c) (by rw [u2_k _ _ _ _ _ (by decide), u2_k _ _ _ _ _ (by decide), u2_k _ _ _ _ _ (by decide)]; exact e37)]
              refine w_wI H5 41 _ (by show c < 12; omega) (fun h6 H6 => ?_)
              rw [w_gP H6 42, w_gIv H6 37 (v := Int32.ofNat c) (by rw [u2_k _ _ _ _ _ (by decide), u2_k _ _ _ _ _ (by decide), u2_k _ _ _ _ _ (by decide), u2_k _ _ _ _ _ (by decide)]; exact e37), w_rcv H6, do_eq (ahd _ h6 H6 (by funext y; rw [u2_k _ _ _ _ _ (by decide), u2_k _ _ _ _ _ (by decide), u2_k _ _ _ _ _ (by decide), u2_k _ _ _ _ _ (by decide)]) (by funext y; rw [u2_k _ _ _ _ _ (by decide), u2_k _ _ _ _ _ (by decide), u2_k _ _ _ _ _ (by decide), u2_k _ _ _ _ _ (by decide)]))]
              refine w_wI H6 42 _ (by show c < 12; omega) (fun h7 H7 => ?_)
              have el' : Int32.ofNat l' = Int32.ofNat (f + z' - 1) := by rw [show f + z' - 1 = l' by omega]
              rw [el']
              exact mc_loop (s := nk_u2 s 0 0 0) (k := k) (f := f) (z := z') (b := b) hc hk (by omega) (by omega) e37 act 4096 0 h7 (by rw [cyS_0]; exact H7) (by omega) (by omega)
            · unfold uC
              rw [u2_k _ _ _ _ _ (by decide), cyS_O _ _ _ _ _ _ (by decide) (by decide), uC0_O _ _ _ _ _ _ (by decide), u2_eq]
        · refine BI.errV W (E := nk_IA) (v := 2) ?_ rfl rfl (by decide) (err 2 (by decide) (by unfold ecoS; rw [h0, h1, decide_eq_false z]; rfl))
          unfold f_X11_copy
          rw [rX W, dt_if (mb_record W v u), h0, if_pos rfl, rX W, dt_if (mb_record W v p), h1, if_pos rfl, dt_if (mb_within h l 0 63), h2, if_pos rfl, if_neg z]
          exact VOK.thrown W _
end CK
