/-! ===== the constructors: the class ===== -/
/-- the empty row is there -/
def EH (h : nk_H) : Prop := nk_K h (nk_E h) = 20 ∧ nk_E h < nk_N h
theorem EH.gn {h g : nk_H} {DI DP : Nat → Prop} (E : EH h) (G : Gn h g DI DP) : EH g := by
  obtain ⟨e1, e2⟩ := E
  obtain ⟨g1, g2, g3, g4⟩ := G
  exact ⟨by rw [g2, (g4 _ e2).1]; exact e1, by rw [g2]; exact Nat.lt_of_lt_of_le e2 g1⟩
/-- an empty list -/
def LZ (h : nk_H) (l : Nat) : Prop := nk_K h l = 7 ∧ nk_I h l 2 = Int32.ofNat 0 ∧ nk_P h l 1 = some (nk_E h) ∧ nk_K h (nk_E h) = 20 ∧ nk_E h < nk_N h
theorem LZ.ls {h : nk_H} {l : Nat} (L : LZ h l) (el : Nat → Nat) : LSq h l 0 el := by
  obtain ⟨a, b, c, d, e⟩ := L
  exact ⟨a, b, by omega, nk_E h, c, e, Or.inl ⟨d, rfl, rfl⟩⟩
theorem LZ.gn {h g : nk_H} {DI DP : Nat → Prop} {l : Nat} (L : LZ h l) (G : Gn h g DI DP) (hl : l < nk_N h) (d1 : ¬ DI l) (d2 : ¬ DP l) : LZ g l := by
  obtain ⟨a, b, c, d, e⟩ := L
  obtain ⟨g1, g2, g3, g4⟩ := G
  obtain ⟨u1, -, u3, u4⟩ := g4 l hl
  exact ⟨u1.trans a, by rw [u4 d1]; exact b, by rw [u3 d2, g2]; exact c, by rw [g2, (g4 _ e).1]; exact d, by rw [g2]; exact Nat.lt_of_lt_of_le e g1⟩
section CI
variable {h g : nk_H} {X : Nat}
theorem nl_init (E : EH h) : ∃ g, f_Jx4a65c_init_da8c8 (nk_al h 7 0 3) (nk_N h) = some (g, ()) ∧ Gn h g no no ∧ nk_N g = nk_N h + 1 ∧ nk_S g = nk_S h + 3 ∧ LZ g (nk_N h) := by
  obtain ⟨e1, e2⟩ := E
  have k7 : nk_K (nk_al h 7 0 3) (nk_N h) = 7 := al_K h 7 0 3
  have k7' : nk_K (nk_al h 7 0 3) (nk_N h) ∈ [7] := by rw [k7]; decide
  have hne : nk_E h ≠ nk_N h := by omega
  refine ⟨nk_sP (nk_sI (nk_al h 7 0 3) (nk_N h) 0 0) (nk_N h) 1 (some (nk_E h)), ?_, (((Gn.refl h no no).al 7 0 3).sI 0 0 (Or.inr (Nat.le_refl _))).sP 1 _ (Or.inr (Nat.le_refl _)), rfl, rfl, ⟨k7, ?_, ?_, ?_, ?_⟩⟩
  · unfold f_Jx4a65c_init_da8c8 f_Jxc12de_init_da8c8 f_Jxa1e45_init_da8c8
    rw [do_s, wr_I [7] 0 _ k7', do_s, wr_P (h := nk_sI (nk_al h 7 0 3) (nk_N h) 0 0) [7] 1 _ k7']
    rfl
  · rw [nk_I_sP, nk_I_sI, nk_u2_nk _ _ _ _ _ (by decide), nk_I_al, nk_u1_eq]; rfl
  · show nk_u2 (nk_P (nk_sI (nk_al h 7 0 3) (nk_N h) 0 0)) (nk_N h) 1 (some (nk_E h)) (nk_N h) 1 = some (nk_E h)
    exact nk_u2_eq _ _ _ _
  · show nk_K (nk_al h 7 0 3) (nk_E h) = 20
    rw [nk_K_al, nk_u1_ne _ _ _ hne]; exact e1
  · show nk_E h < nk_N h + 1; omega
theorem na_v (c : Nat) {n : Nat} (hn : n ≤ 65536) (h : nk_H) : nk_na c h (Int32.ofNat n) = some (nk_al h c n n) := by
  unfold nk_na
  rw [ia_nn (by omega), if_pos ⟨ia_n0 (by omega), by omega⟩]
theorem lk_init {p : Nat} (hk : nk_K h p = 14) (hp : p < nk_N h) : ∃ g, f_X6_init h p = some (g, ()) ∧ Gn h g no (fun y => y = p) ∧ nk_N g = nk_N h + 2 ∧ nk_S g = nk_S h + 2412 ∧ nk_P g p 0 = some (nk_N h) ∧ nk_P g p 1 = some (nk_N h + 1) ∧ nk_K g (nk_N h) = 1 ∧ nk_L g (nk_N h) = 6 ∧ (∀ y, nk_I g (nk_N h) y = 0) ∧ nk_K g (nk_N h + 1) = 1 ∧ nk_L g (nk_N h + 1) = 2406 := by
  let h1 := nk_al h 1 6 6
  let h2 := nk_sP h1 p 0 (some (nk_N h))
  let h3 := nk_al h2 1 2406 2406
  let h4 := nk_sP h3 p 1 (some (nk_N h + 1))
  have N2 : nk_N h2 = nk_N h + 1 := rfl
  have hpp : (fun y => y = p) p ∨ nk_N h ≤ p := Or.inl rfl
  have pn : p ≠ nk_N h := by omega
  have pn1 : p ≠ nk_N h + 1 := by omega
  have k1 : nk_K h1 p = 14 := by show nk_K (nk_al h 1 6 6) p = 14; rw [nk_K_al, nk_u1_ne _ _ _ pn]; exact hk
  have G34 := (Gn_al h2 1 2406 2406 no no).2.2.2
  have k3 : nk_K h3 p = 14 := (G34 p (by omega)).1.trans k1
  refine ⟨h4, ?_, ((((Gn.refl h no (fun y => y = p)).al 1 6 6).sP 0 _ hpp).al 1 2406 2406).sP 1 _ hpp, rfl, rfl, ?_, ?_, ?_, ?_, fun y => ?_, ?_, ?_⟩
  · unfold f_X6_init
    have e1 : nk_na 1 h 6 = some h1 := na_v 1 (n := 6) (by decide) h
    have e3 : nk_na 1 h2 2406 = some h3 := na_v 1 (n := 2406) (by decide) h2
    have s2 : (some (nk_N h2) : Option Nat) = some (nk_N h + 1) := by rw [N2]
    rw [e1, Option.bind_some, wr_P (h := h1) [14] 0 _ (by rw [k1]; decide)]
    show ((nk_na 1 h2 2406).bind fun h3 => ((nk_pP [14] 1 h3 (some p) (some (nk_N h2))).bind fun h4 => some (h4, ()))) = _
    rw [e3, Option.bind_some, s2, wr_P (h := h3) [14] 1 _ (by rw [k3]; decide)]
  · show nk_u2 (nk_P h3) p 1 _ p 0 = _
    rw [nk_u2_nk _ _ _ _ _ (by decide)]
    show nk_P (nk_al h2 1 2406 2406) p 0 = _
    rw [(G34 p (by omega)).2.2.1 id]
    show nk_u2 (nk_P h1) p 0 _ p 0 = _
    rw [nk_u2_eq]
  · show nk_u2 (nk_P h3) p 1 _ p 1 = _
    rw [nk_u2_eq]
  · show nk_K (nk_al h2 1 2406 2406) (nk_N h) = 1
    rw [(G34 (nk_N h) (by omega)).1]; exact al_K h 1 6 6
  · show nk_L (nk_al h2 1 2406 2406) (nk_N h) = 6
    rw [(G34 (nk_N h) (by omega)).2.1]
    show nk_L (nk_al h 1 6 6) (nk_N h) = 6
    rw [nk_L_al, nk_u1_eq]
  · show nk_I (nk_al h2 1 2406 2406) (nk_N h) y = 0
    rw [(G34 (nk_N h) (by omega)).2.2.2 id]
    show nk_I (nk_al h 1 6 6) (nk_N h) y = 0
    rw [nk_I_al, nk_u1_eq]
  · show nk_K (nk_al h2 1 2406 2406) (nk_N h + 1) = 1
    rw [← N2]; exact al_K h2 1 2406 2406
  · show nk_L (nk_al h2 1 2406 2406) (nk_N h + 1) = 2406
    rw [← N2, nk_L_al, nk_u1_eq]
theorem nw_init {p : Nat} (E : EH h) (hk : nk_K h p = 15) (hp : p < nk_N h) : ∃ g, f_X7_init h p = some (g, ()) ∧ Gn h g no (fun y => y = p) ∧ nk_N g = nk_N h + 2 ∧ nk_S g = nk_S h + 163 ∧ nk_P g p 0 = some (nk_N h) ∧ nk_P g p 1 = some (nk_N h + 1) ∧ LZ g (nk_N h) ∧ nk_K g (nk_N h + 1) = 2 ∧ nk_L g (nk_N h + 1) = 160 := by
  obtain ⟨h1, e1, G1, N1, S1, L1⟩ := nl_init E
  let h2 := nk_sP h1 p 0 (some (nk_N h))
  let h3 := nk_al h2 2 160 160
  let h4 := nk_sP h3 p 1 (some (nk_N h + 1))
  have N2 : nk_N h2 = nk_N h + 1 := N1
  have hpp : (fun y => y = p) p ∨ nk_N h ≤ p := Or.inl rfl
  have k1 : nk_K h1 p = 15 := (G1.2.2.2 p hp).1.trans hk
  have G34 := (Gn_al h2 2 160 160 no no).2.2.2
  have k3 : nk_K h3 p = 15 := (G34 p (by omega)).1.trans k1
  have G13 : Gn h1 h4 no (fun y => y = p) := (((Gn.refl h1 no (fun y => y = p)).sP 0 _ (Or.inl rfl)).al 2 160 160).sP 1 _ (Or.inl rfl)
  have G : Gn h h4 no (fun y => y = p) := (G1.mono (fun _ z => z) (fun _ z => z.elim)).trans G13
  refine ⟨h4, ?_, G, by show nk_N h2 + 1 = _; rw [N2], by show nk_S h1 + 160 = _; rw [S1], ?_, ?_, L1.gn G13 (by omega) id (by show ¬ nk_N h = p; omega), ?_, ?_⟩
  · unfold f_X7_init
    have e3 : nk_na 2 h2 160 = some h3 := na_v 2 (n := 160) (by decide) h2
    have s2 : (some (nk_N h2) : Option Nat) = some (nk_N h + 1) := by rw [N2]
    rw [Option.bind_some, do_eq e1, wr_P (h := h1) [15] 0 _ (by rw [k1]; decide)]
    show ((nk_na 2 h2 160).bind fun h5 => ((nk_pP [15] 1 h5 (some p) (some (nk_N h2))).bind fun h6 => some (h6, ()))) = _
    rw [e3, Option.bind_some, s2, wr_P (h := h3) [15] 1 _ (by rw [k3]; decide)]
  · show nk_u2 (nk_P h3) p 1 _ p 0 = _
    rw [nk_u2_nk _ _ _ _ _ (by decide)]
    show nk_P (nk_al h2 2 160 160) p 0 = _
    rw [(G34 p (by omega)).2.2.1 id]
    show nk_u2 (nk_P h1) p 0 _ p 0 = _
    rw [nk_u2_eq]
  · show nk_u2 (nk_P h3) p 1 _ p 1 = _
    rw [nk_u2_eq]
  · show nk_K (nk_al h2 2 160 160) (nk_N h + 1) = 2
    rw [← N2]; exact al_K h2 2 160 160
  · show nk_L (nk_al h2 2 160 160) (nk_N h + 1) = 160
    rw [← N2, nk_L_al, nk_u1_eq]
theorem chn_init {p k : Nat} (E : EH h) (hk : nk_K h p = 9) (hp : p < nk_N h) : ∃ g, f_X1_init h p (Int32.ofNat k) = some (g, ()) ∧ Gn h g (fun y => y = p) (fun y => y = p) ∧ nk_N g = nk_N h + 1 ∧ nk_S g = nk_S h + 3 ∧ nk_P g p 1 = some (nk_N h) ∧ nk_I g p 0 = Int32.ofNat k ∧ LZ g (nk_N h) := by
  let h1 := nk_sI h p 0 (Int32.ofNat k)
  have hpI : (fun y => y = p) p ∨ nk_N h ≤ p := Or.inl rfl
  have G1 : Gn h h1 (fun y => y = p) (fun y => y = p) := (Gn.refl h _ _).sI 0 _ hpI
  have E1 : EH h1 := E
  obtain ⟨g1, e1, G2, N2, S2, L2⟩ := nl_init (h := h1) E1
  have N2' : nk_N g1 = nk_N h + 1 := N2
  have k2 : nk_K g1 p = 9 := (G2.2.2.2 p hp).1.trans hk
  have i2 : nk_I g1 p 0 = Int32.ofNat k := by
    rw [(G2.2.2.2 p hp).2.2.2 id]
    show nk_u2 (nk_I h) p 0 _ p 0 = _
    rw [nk_u2_eq]
  have G3 : Gn g1 (nk_sP g1 p 1 (some (nk_N h))) no (fun y => y = p) := (Gn.refl g1 _ _).sP 1 _ (Or.inl rfl)
  refine ⟨nk_sP g1 p 1 (some (nk_N h)), ?_, (G1.trans (G2.mono (fun _ z => z.elim) (fun _ z => z.elim))).sP 1 _ hpI, N2, S2, by rw [nk_P_sP, nk_u2_eq], i2, L2.gn G3 (by show nk_N h < nk_N g1; omega) id (by show ¬ nk_N h = p; omega)⟩
  · unfold f_X1_init
    have e1' : f_Jx4a65c_init_da8c8 (nk_al h1 7 0 3) (nk_N h1) = some (g1, ()) := e1
    rw [wr_I [9] 0 _ (by rw [hk]; decide), Option.bind_some, do_eq e1', wr_P (h := g1) [9] 1 _ (by rw [k2]; decide)]
    rfl
/-- what is known of a chain -/
def CH1 (h : nk_H) (X j : Nat) : Prop := nk_P h (X + 8) j = some (X + 9 + 2 * j) ∧ nk_K h (X + 9 + 2 * j) = 9 ∧ nk_P h (X + 9 + 2 * j) 1 = some (X + 10 + 2 * j) ∧ nk_I h (X + 9 + 2 * j) 0 = Int32.ofNat j ∧ LZ h (X + 10 + 2 * j)
theorem CH1.gn {DI DP : Nat → Prop} {j : Nat} (H : CH1 h X j) (G : Gn h g DI DP) (hN : X + 10 + 2 * j < nk_N h) (p8 : nk_P g (X + 8) j = nk_P h (X + 8) j) (d1 : ¬ DI (X + 9 + 2 * j)) (d2 : ¬ DP (X + 9 + 2 * j)) (d3 : ¬ DI (X + 10 + 2 * j)) (d4 : ¬ DP (X + 10 + 2 * j)) : CH1 g X j := by
  obtain ⟨c1, c2, c3, c4, c5⟩ := H
  obtain ⟨u1, -, u3, u4⟩ := G.2.2.2 (X + 9 + 2 * j) (by omega)
  exact ⟨by rw [p8]; exact c1, by rw [u1]; exact c2, by rw [u3 d2]; exact c3, by rw [u4 d1]; exact c4, c5.gn G hN d3 d4⟩
theorem ch_wP {α : Type} {e i x : Nat} (hk : nk_K h e = 3) (hi : i < nk_L h e) (hi2 : i < 2147483648) (hx : nk_K h x = 9) (K : nk_H → Option (nk_H × α)) : (nk_wP 3 h (some e) (Int32.ofNat i) (some x)).bind K = K (nk_sP h e i (some x)) := by
  simp [nk_wP, nk_okv, hk, ia_n0 hi2, ia_nn hi2, hi, hx]
theorem chs_init (R : nk_H → Nat → Int32 → Option (nk_H × Unit)) : ∀ (kf k : Nat) (h : nk_H), EH h → nk_K h X = 18 → nk_P h X 3 = some (X + 8) → nk_K h (X + 8) = 3 → nk_L h (X + 8) = 6 → nk_N h = X + 9 + 2 * k → (∀ j, j < k → CH1 h X j) → k ≤ 6 → 6 - k < kf → ∃ g, f_X11_init_b48 kf h X (Int32.ofNat k) = f_X11_init_c48 R g X (Int32.ofNat 6) ∧ Gn h g no (fun y => y = X + 8) ∧ nk_N g = X + 21 ∧ nk_S g ≤ nk_S h + 5 * (6 - k) ∧ ∀ j, j < 6 → CH1 g X j := by
  intro kf
  induction kf with
  | zero => intro k h _ _ _ _ _ _ _ _ h9; omega
  | succ kf ih =>
    intro k h E k18 p3 k8 l8 hN hch hk hkf
    show ∃ g, f_X11_init_c48 (f_X11_init_b48 kf) h X (Int32.ofNat k) = f_X11_init_c48 R g X (Int32.ofNat 6) ∧ _
    by_cases z : 6 ≤ k
    · have : k = 6 := by omega
      subst this
      refine ⟨h, ?_, Gn.refl h _ _, by omega, by omega, hch⟩
      unfold f_X11_init_c48
      rw [if_pos (show (6 : Int32) ≤ Int32.ofNat 6 by decide), if_pos (show (6 : Int32) ≤ Int32.ofNat 6 by decide)]
    · have hk6 : k < 6 := by omega
      have k9 : nk_K (nk_al h 9 0 2) (nk_N h) = 9 := al_K h 9 0 2
      have Ga := Gn_al h 9 0 2 no no
      obtain ⟨g1, e1, G1, N1, S1, P1, I1, L1⟩ := chn_init (h := nk_al h 9 0 2) (p := nk_N h) (k := k) (E.gn Ga) k9 (by rw [nk_N_al]; omega)
      have Na : nk_N (nk_al h 9 0 2) = nk_N h + 1 := rfl
      rw [Na] at P1 L1 N1
      have G2 : Gn h g1 no no := Ga.on G1 (fun x y => Or.inr (by omega)) (fun x y => Or.inr (by omega))
      have q8 := G2.2.2.2 (X + 8) (by omega)
      have k8' : nk_K g1 (X + 8) = 3 := q8.1.trans k8
      have l8' : nk_L g1 (X + 8) = 6 := q8.2.1.trans l8
      have kn : nk_K g1 (nk_N h) = 9 := (G1.2.2.2 (nk_N h) (by rw [Na]; omega)).1.trans k9
      have G3 : Gn h (nk_sP g1 (X + 8) k (some (nk_N h))) no (fun y => y = X + 8) := (G2.mono (DI' := no) (DP' := fun y => y = X + 8) (fun _ y => y) (fun _ y => y.elim)).sP k _ (Or.inl rfl)
      have kX : nk_K g1 X = 18 := (G2.2.2.2 X (by omega)).1.trans k18
      have pX : nk_P g1 X 3 = some (X + 8) := by rw [(G2.2.2.2 X (by omega)).2.2.1 id]; exact p3
      obtain ⟨g, eg, Gg, Ng, Sg, Cg⟩ := ih (k + 1) (nk_sP g1 (X + 8) k (some (nk_N h))) (E.gn G3) kX (by rw [nk_P_sP, nk_u2_ne _ _ _ _ _ (by omega)]; exact pX) k8' l8' (by rw [nk_N_sP, N1]; omega) (fun j hj => by
        by_cases y : j = k
        · subst y
          refine ⟨by rw [nk_P_sP, nk_u2_eq, hN], by rw [← hN]; exact kn, ?_, ?_, ?_⟩
          · rw [nk_P_sP, nk_u2_ne _ _ _ _ _ (by omega), ← hN, P1, hN]
            have : X + 9 + 2 * j + 1 = X + 10 + 2 * j := by omega
            rw [this]
          · rw [← hN]; exact I1
          · have : X + 10 + 2 * j = nk_N h + 1 := by omega
            rw [this]
            exact L1.gn ((Gn.refl g1 no (fun y => y = X + 8)).sP j _ (Or.inl rfl)) (by omega) id (by show ¬ nk_N h + 1 = X + 8; omega)
        · refine (hch j (by omega)).gn G3 (by omega) ?_ id (by show ¬ X + 9 + 2 * j = X + 8; omega) id (by show ¬ X + 10 + 2 * j = X + 8; omega)
          rw [nk_P_sP, nk_u2_nk _ _ _ _ _ y, q8.2.2.1 id]) (by omega) (by omega)
      refine ⟨g, ?_, G3.trans Gg, Ng, ?_, Cg⟩
      · unfold f_X11_init_c48
        rw [if_neg (fun e : (6 : Int32) ≤ Int32.ofNat k => z ((ia_le (a := 6) (by omega) (by omega)).mp e)), rd_P [18] (by rw [k18]; decide) p3, Option.bind_some, do_eq e1, ch_wP k8' (by omega) (by omega) kn, ia_1]
        exact eg
      · have q1 : nk_S (nk_sP g1 (X + 8) k (some (nk_N h))) = nk_S g1 := rfl
        have q2 : nk_S (nk_al h 9 0 2) = nk_S h + 2 := rfl
        omega
end CI
