/-! ===== an act: the class ===== -/
section MD
variable {h h' : nk_H} {X n w a c hr : Nat} {pa pa' cp : Nat → Nat} {s s' m : Nat → Nat → Int32}
/-- what the questions need, when a piece is made -/
theorem CQ.made (W : WR h X n w a c hr pa cp s m) {DI DP : Nat → Prop} {p w' a' : Nat} (G : Gn h h' DI DP) (hDI : ∀ x, x < nk_N h → DI x → isL X x ∨ x = X + 6) (hDP : ∀ x, x < nk_N h → DP x → isL X x ∨ nk_K h x = 4)
    (hp : nk_N h ≤ p) (hpN : p + 2 ≤ nk_N h') (e0 : ∀ j, j < n → pa' j = pa j) (en : pa' n = p)
    (eF : ∀ k, (k = 1 ∨ k = 2 ∨ (22 ≤ k ∧ k ≤ 28) ∨ (37 ≤ k ∧ k ≤ 44)) → s' k = s k) (eP : ∀ j, j < n → ∀ k, 4 ≤ k → k ≤ 9 → s' k j = s k j) (eC : ∀ j, j < n → ∀ k, k < 6 → s' 10 (160 * k + j) = s 10 (160 * k + j) ∧ s' 11 (160 * k + j) = s 11 (160 * k + j))
    (eW : eqW s s' w) (eA : ∀ x, x < a → eqA s s' x) (hL5 : LSq h' (X + 5) (n + 1) pa')
    (nS : nk_K h' p = pk (s' 4 n) ∧ nk_P h' p 5 = some (p + 1) ∧ nk_K h' (p + 1) = 1 ∧ nk_L h' (p + 1) = 6) (nI : PI1 h' p n s')
    (hW : PW h' w pa' s' → PW h' w' pa' s') (nR : s' 4 n = 1 → nk_P h' p 6 = some (pw s' pa' (sN s' 7 n))) (nD : s' 4 n = 2 → nk_I h' p 6 = s' 7 n ∧ nk_I h' p 7 = s' 8 n ∧ nk_I h' p 8 = s' 9 n)
    (hS : AS h' X a pa' s' → AS h' X a' pa' s') (hA : AI h' a pa' s' → AI h' a' pa' s') : CQ h' X (n + 1) w' a' pa' s' := by
  obtain ⟨H, h2, h3, h4, h5, hI⟩ := W
  have hN := H.2.2.2.2.2.2.2
  have hhr := hI.1.2.2.2.2.2.2.2.2.2.2
  have dI : ∀ x, x < nk_N h → ¬ isL X x → x ≠ X + 6 → ¬ DI x := fun x hx z z6 y => by
    rcases hDI x hx y with q | q
    · exact z q
    · exact z6 q
  have dP : ∀ x, x < nk_N h → ¬ isL X x → nk_K h x ≠ 4 → ¬ DP x := fun x hx z y y2 => by
    rcases hDP x hx y2 with q | q
    · exact z q
    · exact y q
  have nL : ∀ x, X + 22 ≤ x → ¬ isL X x := fun x hx z => by
    unfold isL at z
    rcases z with z | z | z | ⟨k, hk, z⟩ <;> omega
  have nLs : ∀ x, x = X ∨ x = X + 1 ∨ x = X + 2 ∨ x = X + 3 ∨ x = X + 4 ∨ x = X + 6 ∨ x = X + 8 ∨ (∃ k, k < 6 ∧ x = X + 9 + 2 * k) → ¬ isL X x := fun x hx z => by
    unfold isL at z
    rcases hx with hx | hx | hx | hx | hx | hx | hx | ⟨k, hk, hx⟩ <;> rcases z with z | z | z | ⟨k', hk', z⟩ <;> omega
  obtain ⟨⟨h1, h2, h3, h4, h5, h6, h7, h8, h9, h10⟩, k2, k3, k4, k5, -, k7, k8⟩ := H
  obtain ⟨r1, r2, r3, r4⟩ := rg_pw hI
  have es : ∀ q, q < w → sN s' 13 q = sN s 13 q := fun q hq => by unfold sN; rw [eW q hq 13 (by omega) (by omega)]
  have r1' : ∀ q, q < w → sN s' 13 q < n := fun q hq => by rw [es q hq]; exact r1 q hq
  have r2' : ∀ q r, q < w → src s' q = some r → r < w := fun q r hq e => r2 q r hq (by rw [← src_congr (eW q hq 16 (by omega) (by omega))]; exact e)
  have r3' : ∀ x, x < a → sN s' 32 x < n ∧ sN s' 33 (6 * x + 1) < w := fun x hx => by
    obtain ⟨q1, -, -, -, q5⟩ := eA x hx
    have e1 : sN s' 32 x = sN s 32 x := by unfold sN; rw [q1]
    have e2 : sN s' 33 (6 * x + 1) = sN s 33 (6 * x + 1) := by unfold sN; rw [q5 1 (by omega)]
    rw [e1, e2]; exact r3 x hx
  have pj : ∀ j, j < n → pa j + 1 < nk_N h := fun j hj => by have := (h3 j hj).2.1; omega
  have pK : ∀ j, j < n → nk_K h (pa j) ≠ 4 := fun j hj e => by
    have p1 := (h4 j hj).1
    rcases pk_cases hI hj with ⟨-, q⟩ | ⟨-, q⟩ | ⟨-, q⟩ | ⟨-, q⟩ <;> omega
  have dj : ∀ j, j < n → ¬ DI (pa j) ∧ ¬ DI (pa j + 1) := fun j hj => by
    have := (h3 j hj).1
    have := pj j hj
    exact ⟨dI _ (by omega) (nL _ (by omega)) (by omega), dI _ (by omega) (nL _ (by omega)) (by omega)⟩
  have dp : ∀ j, j < n → ¬ DP (pa j) := fun j hj => by
    have := (h3 j hj).1
    have := pj j hj
    exact dP _ (by omega) (nL _ (by omega)) (pK j hj)
  have da : ∀ e, e < a → ¬ DI (ac s pa e) ∧ ¬ DI (ac s pa e - 1) ∧ ¬ DI (ac s pa e + 2) := fun e he => by
    obtain ⟨-, -, -, -, -, -, z7, z8⟩ := h9 e he
    exact ⟨dI _ (by omega) (nL _ (by omega)) (by omega), dI _ (by omega) (nL _ (by omega)) (by omega), dI _ (by omega) (nL _ (by omega)) (by omega)⟩
  have hd : ∀ d, nk_P h X 6 = some d → ¬ DI d := fun d hd => by
    obtain ⟨d', e1, e2, e3, -⟩ := k3
    rw [hd] at e1
    cases e1
    exact dI _ e2 (nL _ (by omega)) (by omega)
  have gP : PS h' n pa s' := PS.gn h3 h4 G (fun j hj => eP j hj 4 (by omega) (by omega)) dp
  have gI : PI h' n pa s' := PI.gn h3 h5 G dj (fun j hj => eP j hj 5 (by omega) (by omega)) (fun j hj => eP j hj 6 (by omega) (by omega)) (fun j hj k hk => (eC j hj k hk).1) (fun j hj k hk => (eC j hj k hk).2)
  have gW : PW h' w pa s' := PW.gn h3 h6 G r1 r2 eW (fun q hq => ⟨(dj _ (r1 q hq)).1, dp _ (r1 q hq)⟩)
  have gR : PR h' n pa s' := PR.gn (w := w) h3 h7 G (fun j hj => eP j hj 4 (by omega) (by omega)) (fun j hj => eP j hj 7 (by omega) (by omega)) r4 eW dp
  have gD : PD h' n pa s' := PD.gn h3 h8 G (fun j hj => ⟨eP j hj 4 (by omega) (by omega), eP j hj 7 (by omega) (by omega), eP j hj 8 (by omega) (by omega), eP j hj 9 (by omega) (by omega)⟩) (fun j hj _ => (dj j hj).1)
  have gS : AS h' X a pa s' := AS.gn (w := w) h3 h9 G r3 eW (fun x hx => ⟨(eA x hx).1, (eA x hx).2.2.2.2 1 (by omega)⟩) (fun e he => dp _ (r3 e he).1)
  have gA : AI h' a pa s' := AI.gn h3 h9 h10 G (fun x hx => (r3 x hx).1) eA (fun j hj => ⟨eP j hj 5 (by omega) (by omega), eP j hj 6 (by omega) (by omega)⟩) da
  have r4' : ∀ j, j < n → s' 4 j = 1 → sN s' 7 j < w := fun j hj e1 => by
    have e2 : sN s' 7 j = sN s 7 j := by unfold sN; rw [eP j hj 7 (by omega) (by omega)]
    rw [e2]
    exact r4 j hj (by rw [← eP j hj 4 (by omega) (by omega)]; exact e1)
  have hNN := G.1
  refine ⟨h1.gn2 G hN (fun x hx => ?_), hL5, fun j hj => ?_, fun j hj => ?_, fun j hj => ?_, hW (gW.epa e0 r1' r2'), fun j hj e1 => ?_, fun j hj e1 => ?_, hS (gS.epa e0 r1' r3'), hA (gA.epa e0 (fun x hx => (r3' x hx).1))⟩
  · refine dP _ (by rcases hx with hx | hx | hx | hx | ⟨k, hk, hx⟩ <;> omega) (nLs x ?_) ?_
    · rcases hx with hx | hx | hx | hx | hx
      · exact Or.inl hx
      · exact Or.inr (Or.inl hx)
      · exact Or.inr (Or.inr (Or.inr (Or.inr (Or.inl hx))))
      · exact Or.inr (Or.inr (Or.inr (Or.inr (Or.inr (Or.inr (Or.inl hx))))))
      · exact Or.inr (Or.inr (Or.inr (Or.inr (Or.inr (Or.inr (Or.inr hx))))))
    · obtain ⟨c1, -, -, -, -, -, ⟨c2, -⟩, ⟨c3, -⟩, ⟨c4, -⟩, c5⟩ := h1
      rcases hx with rfl | rfl | rfl | rfl | ⟨k, hk, rfl⟩
      · rw [c1]; decide
      · rw [c2]; decide
      · rw [c3]; decide
      · rw [c4]; decide
      · rw [(c5 k hk).2.1]; decide
  · by_cases z : j = n
    · rw [z, en]
      exact ⟨by omega, hpN, fun i hi => by rw [e0 i hi]; have := pj i hi; omega⟩
    · rw [e0 j (by omega)]
      obtain ⟨q1, q2, q3⟩ := h3 j (by omega)
      exact ⟨q1, by omega, fun i hi => by rw [e0 i (by omega)]; exact q3 i hi⟩
  · by_cases z : j = n
    · rw [z, en]; exact nS
    · rw [e0 j (by omega)]; exact gP j (by omega)
  · by_cases z : j = n
    · rw [z, en]; exact nI
    · rw [e0 j (by omega)]; exact gI j (by omega)
  · by_cases z : j = n
    · rw [z] at e1 ⊢; rw [en]; exact nR e1
    · rw [e0 j (by omega), gR j (by omega) e1, pw_pa e0 (r1' _ (r4' j (by omega) e1))]
  · by_cases z : j = n
    · rw [z] at e1 ⊢; rw [en]; exact nD e1
    · rw [e0 j (by omega)]; exact gD j (by omega) e1
end MD
section AC
variable {h g : nk_H} {X n w a c hr : Nat} {pa cp : Nat → Nat} {s s' m : Nat → Nat → Int32}
theorem pc_act (W : WR h X n w a c hr pa cp s m) {d q : Nat} (hd : d < nk_N h) (kd : nk_K h d = 11) (hq : q < w) : ∃ g, f_X0_init (nk_al h 8 0 11) (nk_N h) (some (pw s pa q)) (some d) = some (g, ()) ∧ Gn h g no no ∧ nk_N g = nk_N h + 3 ∧ nk_S g ≤ nk_S h + 30 ∧ nk_K g (nk_N h) = 8 ∧ nk_P g (nk_N h) 5 = some (nk_N h + 1) ∧ nk_P g (nk_N h) 6 = some (pw s pa q) ∧ nk_P g (nk_N h) 7 = some d ∧ nk_P g (nk_N h) 8 = some (nk_N h + 2) ∧ nk_K g (nk_N h + 1) = 1 ∧ nk_L g (nk_N h + 1) = 6 ∧ (∀ j, j < 6 → nk_I g (nk_N h + 1) j = -1) ∧ nk_K g (nk_N h + 2) = 1 ∧ nk_L g (nk_N h + 2) = 6 ∧
    (∀ y, y < 6 → nk_I g (nk_N h + 2) y = if y = 5 then nk_I h d 1 else if y = 4 then nk_I h d 5 else if y = 3 then nk_I h d 4 else if y = 2 then nk_I h d 3 else if y = 1 then Int32.ofNat q else nk_I h d 2) ∧ ∀ y, nk_I g (nk_N h) y = 0 := by
  have hN := W.N
  have hI := W.I
  have q1n := (rg_pw hI).1 q hq
  have hby : pw s pa q < nk_N h := by
    have := (W.1.1.2.2.1 _ q1n).2.1
    have : pw s pa q = pa (sN s 13 q) := rfl
    omega
  have kby : nk_K h (pw s pa q) = 16 := pw_K W.1.1 hI hq
  have iby : nk_I h (pw s pa q) 6 = Int32.ofNat q := (W.1.1.2.2.2.2.2.1 q hq).1
  generalize pw s pa q = B at hby kby iby
  generalize hp : nk_N h = p at *
  have k8 : nk_K (nk_al h 8 0 11) p = 8 := by rw [← hp]; exact al_K h 8 0 11
  have Na : nk_N (nk_al h 8 0 11) = p + 1 := by rw [nk_N_al, hp]
  obtain ⟨g1, eg, Gg, Pg, Kg, Lg, Ig, Ng, Sg⟩ := pc_init (h := nk_al h 8 0 11) (p := p) (by rw [k8]; decide) (by omega)
  rw [Na] at Pg Kg Lg Ig Ng
  have G1 : Gn h g1 no no := ((Gn.refl h no no).al 8 0 11).on Gg (fun x z => z.elim) (fun x z => Or.inr (by omega))
  have kp1 : nk_K g1 p = 8 := (Gg.2.2.2 p (by omega)).1.trans k8
  let g2 := nk_sP g1 p 6 (some B)
  let g3 := nk_sP g2 p 7 (some d)
  have N3 : nk_N g3 = p + 2 := Ng
  let g4 := nk_al g3 1 6 6
  let g5 := nk_sP g4 p 8 (some (p + 2))
  let g6 := nk_sI g5 (p + 2) 0 (nk_I h d 2)
  let g7 := nk_sI g6 (p + 2) 1 (Int32.ofNat q)
  let g8 := nk_sI g7 (p + 2) 2 (nk_I h d 3)
  let g9 := nk_sI g8 (p + 2) 3 (nk_I h d 4)
  let ga := nk_sI g9 (p + 2) 4 (nk_I h d 5)
  let gb := nk_sI ga (p + 2) 5 (nk_I h d 1)
  have hpp : no p ∨ nk_N h ≤ p := Or.inr (by omega)
  have hp2 : no (p + 2) ∨ nk_N h ≤ p + 2 := Or.inr (by omega)
  have G5 : Gn h g5 no no := (((G1.sP 6 _ hpp).sP 7 _ hpp).al 1 6 6).sP 8 _ hpp
  have G6 : Gn h g6 no no := G5.sI _ _ hp2
  have G7 : Gn h g7 no no := G6.sI _ _ hp2
  have G8 : Gn h g8 no no := G7.sI _ _ hp2
  have G9 : Gn h g9 no no := G8.sI _ _ hp2
  have Ga : Gn h ga no no := G9.sI _ _ hp2
  have Gb : Gn h gb no no := Ga.sI _ _ hp2
  have G34 := (Gn_al g3 1 6 6 no no).2.2.2
  have kp4 : nk_K g4 p = 8 := (G34 p (by omega)).1.trans kp1
  have kp5 : nk_K g5 p ∈ [8] := by show nk_K g4 p ∈ [8]; rw [kp4]; decide
  have kt : nk_K g4 (p + 2) = 1 := by rw [← N3]; exact al_K g3 1 6 6
  have lt : nk_L g4 (p + 2) = 6 := by
    show nk_L (nk_al g3 1 6 6) (p + 2) = 6
    rw [← N3, nk_L_al, nk_u1_eq]
  have P5 : ∀ y, nk_P g5 p y = if y = 8 then some (p + 2) else if y = 7 then some d else if y = 6 then some B else nk_P g1 p y := fun y => by
    show nk_u2 (nk_P g4) p 8 (some (p + 2)) p y = _
    by_cases z : y = 8
    · rw [z, nk_u2_eq, if_pos rfl]
    · rw [nk_u2_nk _ _ _ _ _ z, if_neg z]
      show nk_P (nk_al g3 1 6 6) p y = _
      rw [(G34 p (by omega)).2.2.1 id]
      show nk_u2 (nk_u2 (nk_P g1) p 6 (some B)) p 7 (some d) p y = _
      by_cases z7 : y = 7
      · rw [z7, nk_u2_eq, if_pos rfl]
      · rw [nk_u2_nk _ _ _ _ _ z7, if_neg z7]
        by_cases z6 : y = 6
        · rw [z6, nk_u2_eq, if_pos rfl]
        · rw [nk_u2_nk _ _ _ _ _ z6, if_neg z6]
  have i5 : ∀ x, x < p + 2 → nk_I g5 x = nk_I g1 x := fun x hx => by
    show nk_I (nk_al g3 1 6 6) x = _
    rw [(G34 x (by omega)).2.2.2 id]; rfl
  have ib : ∀ x, x ≠ p + 2 → nk_I gb x = nk_I g5 x := fun x hx => by
    funext y
    show nk_u2 (nk_u2 (nk_u2 (nk_u2 (nk_u2 (nk_u2 (nk_I g5) _ _ _) _ _ _) _ _ _) _ _ _) _ _ _) _ _ _ x y = _
    rw [nk_u2_ne _ _ _ _ _ hx, nk_u2_ne _ _ _ _ _ hx, nk_u2_ne _ _ _ _ _ hx, nk_u2_ne _ _ _ _ _ hx, nk_u2_ne _ _ _ _ _ hx, nk_u2_ne _ _ _ _ _ hx]
  have it : ∀ y, y < 6 → nk_I gb (p + 2) y = if y = 5 then nk_I h d 1 else if y = 4 then nk_I h d 5 else if y = 3 then nk_I h d 4 else if y = 2 then nk_I h d 3 else if y = 1 then Int32.ofNat q else nk_I h d 2 := fun y hy => by
    show nk_u2 (nk_u2 (nk_u2 (nk_u2 (nk_u2 (nk_u2 (nk_I g5) _ _ _) _ _ _) _ _ _) _ _ _) _ _ _) _ _ _ (p + 2) y = _
    have : y = 0 ∨ y = 1 ∨ y = 2 ∨ y = 3 ∨ y = 4 ∨ y = 5 := by omega
    rcases this with rfl | rfl | rfl | rfl | rfl | rfl <;> simp [nk_u2]
  have rd : ∀ {gx : nk_H}, Gn h gx no no → (nk_K gx d ∈ [11] ∧ nk_I gx d = nk_I h d) ∧ nk_K gx B ∈ [16] ∧ nk_I gx B 6 = Int32.ofNat q := fun G => by
    obtain ⟨u1, -, -, u4⟩ := G.2.2.2 d (by omega)
    obtain ⟨v1, -, -, v4⟩ := G.2.2.2 B (by omega)
    exact ⟨⟨by rw [u1, kd]; decide, u4 id⟩, by rw [v1, kby]; decide, by rw [v4 id]; exact iby⟩
  have fd : ∀ {gx : nk_H} (G : Gn h gx no no) (y : Nat), nk_I gx d y = nk_I h d y := fun G y => by rw [(rd G).1.2]
  have pt : ∀ gx, nk_P gx = nk_P g5 → nk_P gx p 8 = some (p + 2) := fun gx e => by rw [e, P5]; rfl
  refine ⟨gb, ?_, Gb, by show nk_N g3 + 1 = _; rw [N3], by show nk_S g1 + 6 ≤ _; rw [Sg, nk_S_al]; omega, kp4, ?_, ?_, ?_, ?_, ?_, ?_, fun j hj => by rw [ib _ (by omega), i5 _ (by omega)]; exact Ig j hj, kt, lt, it, ?_⟩
  · unfold f_X0_init
    have e4 : nk_na 1 g3 6 = some g4 := rfl
    have s3 : (some (nk_N g3) : Option Nat) = some (p + 2) := by rw [N3]
    rw [do_eq eg, wr_P [8] 6 _ (by rw [kp1]; decide), wr_P (h := g2) [8] 7 _ (by show nk_K g1 p ∈ [8]; rw [kp1]; decide)]
    rw [show ∀ (K : nk_H → Option (nk_H × Unit)), (nk_na 1 g3 6).bind K = K g4 from fun K => rfl, s3, wr_P (h := g4) [8] 8 _ (by rw [kp4]; decide)]
    rw [rd_P (h := g5) [8] kp5 (pt g5 rfl), rd_I (h := g5) [11] (rd G5).1.1 (fd G5 2), show (0 : Int32) = Int32.ofNat 0 from rfl, wr_a (h := g5) _ kt (by show 0 < nk_L g4 (p + 2); omega) (by omega),
      rd_P (h := g6) [8] kp5 (pt g6 rfl), rd_I (h := g6) [16] (rd G6).2.1 (rd G6).2.2, show (1 : Int32) = Int32.ofNat 1 from rfl, wr_a (h := g6) _ kt (by show 1 < nk_L g4 (p + 2); omega) (by omega),
      rd_P (h := g7) [8] kp5 (pt g7 rfl), rd_I (h := g7) [11] (rd G7).1.1 (fd G7 3), show (2 : Int32) = Int32.ofNat 2 from rfl, wr_a (h := g7) _ kt (by show 2 < nk_L g4 (p + 2); omega) (by omega),
      rd_P (h := g8) [8] kp5 (pt g8 rfl), rd_I (h := g8) [11] (rd G8).1.1 (fd G8 4), show (3 : Int32) = Int32.ofNat 3 from rfl, wr_a (h := g8) _ kt (by show 3 < nk_L g4 (p + 2); omega) (by omega),
      rd_P (h := g9) [8] kp5 (pt g9 rfl), rd_I (h := g9) [11] (rd G9).1.1 (fd G9 5), show (4 : Int32) = Int32.ofNat 4 from rfl, wr_a (h := g9) _ kt (by show 4 < nk_L g4 (p + 2); omega) (by omega),
      rd_P (h := ga) [8] kp5 (pt ga rfl), rd_I (h := ga) [11] (rd Ga).1.1 (fd Ga 1), show (5 : Int32) = Int32.ofNat 5 from rfl, wr_a (h := ga) _ kt (by show 5 < nk_L g4 (p + 2); omega) (by omega)]
  · show nk_P g5 p 5 = _; rw [P5, Pg]; rfl
  · show nk_P g5 p 6 = _; rw [P5]; rfl
  · show nk_P g5 p 7 = _; rw [P5]; rfl
  · show nk_P g5 p 8 = _; rw [P5]; rfl
  · show nk_K g4 (p + 1) = 1; exact (G34 (p + 1) (by omega)).1.trans Kg
  · show nk_L g4 (p + 1) = 6; exact (G34 (p + 1) (by omega)).2.1.trans Lg
  · intro y; rw [ib _ (by omega), i5 _ (by omega), (Gg.2.2.2 p (by omega)).2.2.2 id, nk_I_al, hp, nk_u1_eq]
/-- the seal of a record that is not entered yet -/
theorem q_sealNow2 {C l r p t k : Nat} {el : Nat → Nat} {v : Int32} (kC : nk_K g C = 9) (iC : nk_I g C 0 = Int32.ofNat k) (pC : nk_P g C 1 = some l) (L : LSq g l r el) (hr9 : r < 160) (hv : r ≠ 0 → nk_K g (el (r - 1)) = 8 ∧ nk_I g (el (r - 1)) 9 = v) (kp : nk_K g p = 8) (pt : nk_P g p 8 = some t) (kt : nk_K g t = 1) (lt : nk_L g t = 6) : f_X1_sealNow g C (Int32.ofNat r) (some p) = some (g, sealS (if r = 0 then 1000 + Int32.ofNat k else v) (foldS (fun y => markS (Int32.ofNat k) (Int32.ofNat r) (Int32.ofNat y) (nk_I g t y)) 6)) := by
  have k9 : nk_K g C ∈ [9] := by rw [kC]; decide
  have ah : f_X1_sealAhead g C (Int32.ofNat r) = some (g, if r = 0 then 1000 + Int32.ofNat k else v) := by
    unfold f_X1_sealAhead f_X1_sealAhead_c31
    by_cases h0 : r = 0
    · subst h0
      rw [if_pos (by decide), if_pos rfl, rd_I [9] k9 iC]
    · obtain ⟨v1, v2⟩ := hv h0
      have h1 : ¬ Int32.ofNat r ≤ 0 := fun e9 => h0 (by have := (ia_le (a := r) (b := 0) (by omega) (by omega)).mp e9; omega)
      have h2 : Int32.ofNat r - 1 = Int32.ofNat (r - 1) := by rw [show (1 : Int32) = Int32.ofNat 1 from rfl, ia_sub (by omega)]
      rw [if_neg h1, if_neg h0, rd_P [9] k9 pC, rd_r [7] (by rw [L.1]; decide), h2, do_eq (ls_get L (i := r - 1) (by omega)), rd_c [8] (by rw [v1]; decide), rd_I [8] (by rw [v1]; decide) v2]
  unfold f_X1_sealNow
  rw [rd_r [9] k9, do_eq ah, rd_I [9] k9 iC, rd_P [8] (by rw [kp]; decide) pt, do_eq (q_sealFrom kt lt _ _ _ 0 (fun _ _ => trivial))]
  have e9 := foldS_congr (n := 6) (f := fun y => if gb 0 y = true then nk_I g t y else markS (Int32.ofNat k) (Int32.ofNat r) (Int32.ofNat y) (nk_I g t y)) (g := fun y => markS (Int32.ofNat k) (Int32.ofNat r) (Int32.ofNat y) (nk_I g t y)) (fun y hy => by
    show (if gb 0 y = true then _ else _) = _
    rw [gb_0, if_neg (by decide)])
  rw [e9]
theorem wr_Z {α : Type} {h : nk_H} {x : Nat} (ks : List Nat) (k : Nat) (b : Bool) (hk : nk_K h x ∈ ks) (K : nk_H → Option (nk_H × α)) : (nk_pZ ks k h (some x) (b2i b)).bind K = K (nk_sI h x k (b2i b)) := by
  have : b2i b = 0 ∨ b2i b = 1 := by cases b <;> decide
  simp [nk_pZ, hk, this]
end AC
