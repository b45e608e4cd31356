section MP
variable {h h' g : nk_H} {X n w a c hr : Nat} {pa pa' cp : Nat → Nat} {s s' s2 m : Nat → Nat → Int32}
theorem q_makePower (W : WR h X n w a c hr pa cp s m) (hn : n < 160) (hw : w < 40) {k : Nat} (hk : k < 6) (o : Option Nat) (ho9 : ∀ r, o = some r → r < w) (gi ho : Int32) : ∃ h', f_X11_makePower h X (Int32.ofNat k) (o.map (pw s pa)) gi ho = some (h', Int32.ofNat w) ∧ WR h' X (n + 1) (w + 1) a c hr (pax pa n (nk_N h)) cp (uG s n w k gi ho (on o)) m ∧ nk_N h' ≤ nk_N h + 4 ∧ nk_S h' ≤ nk_S h + 600 := by
  have hN := W.N
  have hb := W.b
  have hI := W.I
  have s10 : s 1 0 = Int32.ofNat hr := hI.1.2.2.2.2.2.2.2.2.2.1
  obtain ⟨d, d1, d2, -⟩ := W.1.2.2.1
  obtain ⟨g, eg, G0, Ng, Sg, kp, p5, p7, kq, lq, iq, i3, i6, i8, i9, i10, i11, i12, i13, i14⟩ := pc_power W d1 (o.map (pw s pa)) gi ho
  generalize hp : nk_N h = p at *
  have CLh := W.1.2.2.2.2.2.1
  have LLh : LL h X := CLh.ll (by omega)
  have LLg : LL g X := LLh.gn G0 (fun _ _ => id)
  have OWg : OW g X := W.2.1.gn2 LLh G0 (fun _ _ => id)
  obtain ⟨l1, l2, l3, l4⟩ := CLh
  have l1g := l1.gn G0 (by omega) id id (fun _ _ => id)
  have l2g := l2.gn G0 (by omega) id id (fun _ _ => id)
  have l4g := l4.gn G0 (by omega) id id (fun _ _ => id)
  have isL5 : isL X (X + 5) := Or.inl rfl
  have isL7 : isL X (X + 7) := Or.inr (Or.inl rfl)
  have isL21 : isL X (X + 21) := Or.inr (Or.inr (Or.inl rfl))
  have kl : ∀ k, k < 6 → isL X (X + 10 + 2 * k) := fun k hk => Or.inr (Or.inr (Or.inr ⟨k, hk, rfl⟩))
  obtain ⟨r1, r2, r3, r4⟩ := rg_pw hI
  obtain ⟨t13, t14, t15, t16, t17, t18, t19, t20, t21⟩ := uG_w s n w k gi ho (on o)
  have eq : ∀ x q, 13 ≤ x → x ≤ 21 → q ≠ w → uG s n w k gi ho (on o) x q = s x q := fun x q x1 x2 hq => uG_q s gi ho (on o) hq x1 x2
  generalize hs' : uG s n w k gi ho (on o) = s' at *
  have F : MkF s s' n k (Int32.ofNat hr) := by rw [← hs']; exact uG_F hI hn hk gi ho (on o)
  have eO : ∀ x, (x < 3 ∨ 21 < x) → s' x = s x := fun x hx => by rw [← hs']; exact uG_O s n w k gi ho (on o) hx
  have t4 : s' 4 n = 0 := by rw [← hs', uG_j _ _ _ _ _ _ _ (by decide)]; exact uMk_4 _ _ _ _ _
  have t7 : s' 7 n = Int32.ofNat w := by rw [← hs', uG_j _ _ _ _ _ _ _ (by decide)]; exact uMk_7 _ _ _ _ _
  have t3 : s' 3 0 = Int32.ofNat (n + 1) := by rw [← hs', uG_j _ _ _ _ _ _ _ (by decide)]; exact uMk_3 _ _ _ _ _
  have t12 : s' 12 0 = Int32.ofNat (w + 1) := by rw [← hs']; unfold uG; rw [u2_eq]
  have epw : ∀ q, q < w → pw s' (pax pa n p) q = pw s pa q := fun q hq => by
    have e9 : sN s' 13 q = sN s 13 q := by unfold sN; rw [eq 13 q (by decide) (by decide) (by omega)]
    unfold pw
    rw [e9]; exact pax_lt pa n p _ (r1 q hq)
  have epn : pw s' (pax pa n p) w = p := by
    unfold pw
    rw [sN_of t13 (by omega)]; exact pax_n pa n p
  have pg : p < nk_N g := by omega
  obtain ⟨g3, e3, G3, L3, b3, c3, f3⟩ := ls_add l2g (show X + 7 < nk_N g by omega) (by omega) (x := p) pg (by rw [kp]; decide) (el' := pw s' (pax pa n p)) epw epn
  have LL3 : LL g3 X := LLg.add G3 L3
  have OW3 : OW g3 X := OWg.add LLg isL7 G3 f3
  have l1k := l1g.keep OWg LLg isL7 isL5 (by omega) G3 (show ¬ X + 5 = X + 7 by omega)
  have hp7 : ¬ dL g (X + 7) p := fun z => by
    rcases z with z | ⟨-, z⟩
    · omega
    · rw [kp] at z; exact absurd z (by decide)
  have hq7 : ¬ dL g (X + 7) (p + 1) := fun z => by
    rcases z with z | ⟨-, z⟩
    · omega
    · rw [kq] at z; exact absurd z (by decide)
  obtain ⟨kp3, -, pp3, ip3⟩ := G3.2.2.2 p pg
  have pp3 := pp3 hp7
  have ip3 := ip3 (show ¬ p = X + 7 by omega)
  obtain ⟨kq3, lq3, -, iq3⟩ := G3.2.2.2 (p + 1) (by omega)
  have iq3 := iq3 (show ¬ p + 1 = X + 7 by omega)
  have CFg : CF g X := W.1.1.1.gn G0 (by omega) (fun _ _ _ => id)
  have k4' : nk_K g3 (X + 4) = 15 := (G3.2.2.2 (X + 4) (by omega)).1.trans CFg.2.2.2.2.2.2.2.1.1
  have k4 : nk_K g (X + 4) = 15 := CFg.2.2.2.2.2.2.2.1.1
  have p4' : nk_P g3 (X + 4) 0 = some (X + 5) := by
    rw [(G3.2.2.2 (X + 4) (by omega)).2.2.1 (fun z => by
      rcases z with z | ⟨-, z⟩
      · omega
      · rw [k4] at z; exact absurd z (by decide))]
    exact CFg.2.2.2.2.2.2.2.1.2.1
  obtain ⟨h', e1, G1, L', bN, bS, fr, Ip, Iq⟩ := pc_publish (g := g3) (p := p) (q := p + 1) (pa' := pax pa n p) k4' p4' l1k (by have := G3.1; omega) (by omega) (by have := G3.1; omega) (by omega) (by have := G3.1; omega) (by rw [kp3, kp]; decide) (by rw [pp3]; exact p5) (by rw [kq3]; exact kq) (by rw [lq3]; exact lq) hn hk (s 1 0) (pax_lt pa n p) (pax_n pa n p)
  have d5 : ∀ l, isL X l → l ≠ X + 5 → ¬ (l = X + 5 ∨ l = p ∨ l = p + 1) := fun l hl hne => by
    have := (LLh l hl).2.1
    omega
  have G : Gn h h' (fun x => x = X + 5 ∨ x = X + 7) (fun x => dL g (X + 7) x ∨ dL g3 (X + 5) x) := ((G0.mono (DI' := fun x => x = X + 5 ∨ x = X + 7) (DP' := fun x => dL g (X + 7) x ∨ dL g3 (X + 5) x) (fun _ z => z.elim) (fun _ z => z.elim)).on G3 (fun x z => Or.inl (Or.inr z)) (fun x z => Or.inl (Or.inl z))).on G1 (fun x z => by
    rcases z with z | z | z
    · exact Or.inl (Or.inl z)
    · exact Or.inr (by omega)
    · exact Or.inr (by omega)) (fun x z => Or.inl (Or.inr z))
  have hp5 : ¬ dL g3 (X + 5) p := fun z => by
    rcases z with z | ⟨-, z⟩
    · omega
    · rw [kp3, kp] at z; exact absurd z (by decide)
  have pg3 : p + 1 < nk_N g3 := by have := G3.1; omega
  have hp1 : nk_P h' p = nk_P g p := ((G1.2.2.2 p (by omega)).2.2.1 hp5).trans pp3
  have hk1 : nk_K h' p = 16 := ((G1.2.2.2 p (by omega)).1.trans kp3).trans kp
  have hk2 : nk_K h' (p + 1) = 1 := ((G1.2.2.2 (p + 1) (by omega)).1.trans kq3).trans kq
  have hl2 : nk_L h' (p + 1) = 6 := ((G1.2.2.2 (p + 1) (by omega)).2.1.trans lq3).trans lq
  have h5 : I5 s' a := hI.2.2.2.2.2.1.cg (fun k hk => eO k (by omega))
  have h6 : I6 s' c := hI.2.2.2.2.2.2.1.cg (fun k hk => eO k (by omega))
  have h9 : I9 s' a := hI.2.2.2.2.2.2.2.2.2.cg (fun k hk => eO k (by omega))
  have eW : eqW s s' w := fun q hq x x1 x2 => eq x q x1 x2 (by omega)
  have eA : ∀ x, x < a → eqA s s' x := fun x hx => ⟨by rw [eO 32 (by decide)], by rw [eO 34 (by decide)], by rw [eO 35 (by decide)], by rw [eO 36 (by decide)], fun i _ => by rw [eO 33 (by decide)]⟩
  have so : s' 16 w = -1 ∨ ∃ r, r < w ∧ s' 16 w = Int32.ofNat r := by
    rw [t16]
    cases o with
    | none => exact Or.inl rfl
    | some r => exact Or.inr ⟨r, ho9 r rfl, rfl⟩
  have hI' : Inv s' (n + 1) (w + 1) a c hr := hI.made hn hk F t3 t12 (by omega) (by omega) (by have := hI.1.2.2.2.2.1; omega) (by rw [eO 29 (by decide)]; exact hI.1.2.2.2.2.2.1) (Nat.le_refl _) (by have := hI.1.2.2.2.2.2.2.1; omega)
    (fun k hk => eO k (by omega)) eW eA (Or.inl ⟨t4, w, by omega, t7, t13⟩) (fun q q1 q2 => by
      have : q = w := by omega
      subst this
      exact ⟨⟨n, by omega, t13, t4, t7⟩, so⟩) (fun q q1 q2 => by omega) h5 h6 h9
  have esrc : src s' w = o := by
    unfold src sN
    rw [t16]
    cases o with
    | none => rfl
    | some r =>
      have := ho9 r rfl
      show (if Int32.ofNat r = -1 then none else some (Int32.ofNat r).toNatClampNeg) = _
      rw [if_neg (ia_m1 (by omega)), ia_nn (by omega)]
  refine ⟨h', ?_, ?_, by have := G3.1; omega, by omega⟩
  · unfold f_X11_makePower
    obtain ⟨k1, k2, -, k3, -⟩ := W.1.1.1
    obtain ⟨-, p1, -⟩ := W.1.1.1
    obtain ⟨p1, p2, p3⟩ := k15 W
    have Ga : Gn h (nk_al h 16 0 15) no no := Gn_al h 16 0 15 _ _
    have rd : ∀ {gx : nk_H} {x : Nat}, Gn h gx no no → x < nk_N h → nk_K gx x = nk_K h x ∧ nk_P gx x = nk_P h x ∧ nk_I gx x = nk_I h x := fun G hx => by
      obtain ⟨q1, -, q3, q4⟩ := G.2.2.2 _ hx
      exact ⟨q1, q3 id, q4 id⟩
    have aX := rd Ga (x := X) (by omega)
    have gX := rd G0 (x := X) (by omega)
    have l2a := l2.gn Ga (by omega) id id (fun _ _ => id)
    have k18 : nk_K h X ∈ [18] := by rw [k1]; decide
    have K3 : nk_K g3 X ∈ [18] ∧ nk_P g3 X = nk_P h X ∧ nk_I g3 X = nk_I h X := by
      obtain ⟨q1, -, q3, q4⟩ := G3.2.2.2 X (by omega)
      refine ⟨by rw [q1, gX.1]; exact k18, (q3 (fun z => ?_)).trans gX.2.1, (q4 (show ¬ X = X + 7 by omega)).trans gX.2.2⟩
      rcases z with z | ⟨-, z⟩
      · omega
      · rw [gX.1, k1] at z; exact absurd z (by decide)
    rw [Option.bind_some, rd_P (h := nk_al h 16 0 15) (b := some (X + 7)) [18] (by rw [aX.1]; exact k18) (by rw [aX.2.1]; exact k3), rd_r [7] (by rw [l2a.1]; decide), do_eq (ls_size l2a), rd_P (h := nk_al h 16 0 15) (b := some d) [18] (by rw [aX.1]; exact k18) (by rw [aX.2.1]; exact d1), rd_I (h := nk_al h 16 0 15) (v := s 1 0) [18] (by rw [aX.1]; exact k18) (by rw [aX.2.2]; exact W.1.2.1.1), hp, do_eq eg, rd_P (h := g) (b := some (X + 7)) [18] (by rw [gX.1]; exact k18) (by rw [gX.2.1]; exact k3), rd_r [7] (by rw [l2g.1]; decide), do_eq e3, rd_P (h := g3) (b := some (X + 4)) [18] K3.1 (by rw [K3.2.1]; exact p1), rd_I (h := g3) (v := s 1 0) [18] K3.1 (by rw [K3.2.2]; exact W.1.2.1.1), rd_r [15] (by rw [k4']; decide), do_eq e1, rd_I (h := h') (v := Int32.ofNat w) [16] (by rw [hk1]; decide) (by rw [Ip]; show nk_I g3 p 6 = _; rw [ip3]; exact i6)]
  · refine W.made G (fun x _ z => ?_) (fun x hx z => ?_) (p := p) (by omega) (by have := G1.1; omega) (pax_lt pa n p) (pax_n pa n p) (fun k hk => eO k (by omega)) F.2.2.2.2.2 (fun j hj k hk => F.2.2.2.2.1 j (by omega) (by omega) k hk) eW eA ⟨L', ?_, fun k hk => ?_, ?_⟩ (OW3.add LL3 isL5 G1 fr) ⟨by rw [hk1, t4]; rfl, by rw [hp1]; exact p5, hk2, hl2⟩
      (PI1.new (t := s 1 0) hk (by rw [s10]; exact ia_m1 (by omega)) (by rw [ip3]; exact i3) Ip (fun j hj => by rw [Iq]; show (if j = k then s 1 0 else nk_I g3 (p + 1) j) = _; rw [iq3, iq j hj]) F.1 (by rw [F.2.1, s10]) (fun k' hk' => by rw [F.2.2.1 k' hk', s10]) (F.2.2.2.1)) (fun P q hq => ?_) (fun e => by rw [t4] at e; exact absurd e (by decide)) (fun e => by rw [t4] at e; exact absurd e (by decide)) id id (by rw [F.2.1]) (F.rt hb.2.2.2.2 hk) hI'
    · rcases z with z | z
      · exact Or.inl (Or.inl z)
      · exact Or.inl (Or.inr (Or.inl z))
    · have kx : ∀ {gx : nk_H}, Gn h gx no no → nk_K gx x = nk_K h x := fun G => (G.2.2.2 x hx).1
      rcases z with (z | ⟨-, z⟩) | (z | ⟨-, z⟩)
      · exact Or.inl (Or.inr (Or.inl z))
      · exact Or.inr (by rw [← kx G0]; exact z)
      · exact Or.inl (Or.inl z)
      · exact Or.inr (by rw [← kx G0, ← (G3.2.2.2 x (by omega)).1]; exact z)
    · exact L3.keep OW3 LL3 isL5 isL7 (by omega) G1 (d5 _ isL7 (by omega))
    · have e9 : sN s' 30 k = sN s 30 k := by unfold sN; rw [eO 30 (by decide)]
      rw [e9]
      refine LSq.el ((((l3 k hk).gn G0 (by omega) id id (fun _ _ => id)).keep OWg LLg isL7 (kl k hk) (by omega) G3 (by omega)).keep OW3 LL3 isL5 (kl k hk) (by omega) G1 (d5 _ (kl k hk) (by omega))) (fun r hr9 => ?_)
      have e8 : sN s' 31 (160 * k + r) = sN s 31 (160 * k + r) := by unfold sN; rw [eO 31 (by decide)]
      have e7 : ∀ x, sN s' 32 x = sN s 32 x := fun x => by unfold sN; rw [eO 32 (by decide)]
      unfold ac
      rw [e8, e7]
      exact pax_lt pa n p _ (ch_lt hI hk hr9).2.1
    · exact (l4g.keep OWg LLg isL7 isL21 (by omega) G3 (by omega)).keep OW3 LL3 isL5 isL21 (by omega) G1 (d5 _ isL21 (by omega))
    · by_cases z : q < w
      · exact P q z
      · have : q = w := by omega
        subst this
        rw [epn, hp1, Ip, esrc]
        have ii : ∀ y, 5 ≤ y → pubI (nk_I g3 p) n k (s 1 0) y = nk_I g p y := fun y hy => by
          unfold pubI
          rw [if_neg (by omega), if_neg (by omega), if_neg (by omega), if_neg (by omega), if_neg (by omega), ip3]
        rw [ii 6 (by decide), ii 8 (by decide), ii 9 (by decide), ii 10 (by decide), ii 11 (by decide), ii 12 (by decide), ii 13 (by decide), ii 14 (by decide), t14, t15, t17, t18, t19, t20, t21, p7]
        exact ⟨i6, omap_congr o (fun r hr9 => (epw r (ho9 r hr9)).symm), i8, i9, i10, i11, i12, i13, i14⟩
end MP
