/-! ===== an hour passes: the class ===== -/
section PT
variable {h h' g : nk_H} {X n w a c hr : Nat} {pa cp : Nat → Nat} {s s' m : Nat → Nat → Int32}
theorem hour_I (hI : Inv s n w a c hr) (hh : hr < 400) : Inv (nk_u2 s 1 0 (Int32.ofNat (hr + 1))) n w a c (hr + 1) := by
  have e : ∀ k, k ≠ 1 → nk_u2 s 1 0 (Int32.ofNat (hr + 1)) k = s k := fun k hk => funext fun y => u2_k _ _ _ _ _ hk
  obtain ⟨⟨j1, j2, j3, j4, j5, j6, j7, j8, j9, -, -⟩, i1, i2, i3, i4, i5, i6, i7, i8, i9⟩ := hI
  refine ⟨⟨by rw [e 3 (by decide)]; exact j1, j2, by rw [e 12 (by decide)]; exact j3, j4, j5, by rw [e 29 (by decide)]; exact j6, j7, by rw [e 37 (by decide)]; exact j8, j9, u2_eq _ _ _ _, by omega⟩, fun j hj => ?_, fun k hk j hj => ?_, i3.cg (fun k hk => e k (by omega)), i4.cg (fun k hk => e k (by omega)), i5.cg (fun k hk => e k (by omega)), i6.cg (fun k hk => e k (by omega)), i7.cg (fun k hk => e k (by omega)), i8.cg (fun k hk => e k (by omega)), i9.cg (fun k hk => e k (by omega))⟩
  · rw [e 5 (by decide), e 6 (by decide), e 4 (by decide), e 7 (by decide), e 13 (by decide), e 32 (by decide)]
    obtain ⟨q1, ⟨t, q2, q3⟩, q4⟩ := i1 j hj
    exact ⟨q1, ⟨t, by omega, q3⟩, q4⟩
  · have e6 : ∀ j, sN (nk_u2 s 1 0 (Int32.ofNat (hr + 1))) 6 j = sN s 6 j := fun j => by unfold sN; rw [e 6 (by decide)]
    rw [e 10 (by decide), e 11 (by decide), e6]
    obtain ⟨q1, q2⟩ := i2 k hk j hj
    refine ⟨?_, q2⟩
    rcases q1 with q1 | ⟨q1, t, t1, t2, t3⟩
    · exact Or.inl q1
    · exact Or.inr ⟨q1, t, by omega, t2, t3⟩
theorem pt_I (hI : Inv s n w a c hr) {i : Nat} (hi : i ≤ n) : Inv (ptS s hr i) n w a c hr := by
  have hn := hI.1.2.1
  have hh := hI.1.2.2.2.2.2.2.2.2.2.2
  have e : ∀ k, k ≠ 10 → ptS s hr i k = s k := fun k hk => ptS_O s hr i hk
  obtain ⟨i0, i1, i2, i3, i4, i5, i6, i7, i8, i9⟩ := hI
  refine ⟨i0.cg (fun k hk => e k (by omega)), i1.cg (fun k hk => e k (by omega)), fun k hk j hj => ?_, i3.cg (fun k hk => e k (by omega)), i4.cg (fun k hk => e k (by omega)), i5.cg (fun k hk => e k (by omega)), i6.cg (fun k hk => e k (by omega)), i7.cg (fun k hk => e k (by omega)), fun j hj => ?_, i9.cg (fun k hk => e k (by omega))⟩
  · have e6 : ∀ j, sN (ptS s hr i) 6 j = sN s 6 j := fun j => by unfold sN; rw [e 6 (by decide)]
    rw [e 11 (by decide), e6, ptS_at s hr i hk hj]
    by_cases z : j < i ∧ frB s j k = true
    · rw [if_pos z]
      have hj' : j < n := by omega
      obtain ⟨-, ⟨t, t1, t2⟩, -⟩ := i1 j hj'
      refine ⟨Or.inr ⟨hj', hr, Nat.le_refl _, by rw [sN_of t2 (by omega)]; exact t1, rfl⟩, ?_⟩
      rcases (i2 k hk j hj).2 with q | ⟨q, q2⟩
      · exact Or.inl q
      · exact Or.inr ⟨q, ia_m1 (by omega)⟩
    · rw [if_neg z]; exact i2 k hk j hj
  · have e6 : ∀ j, sN (ptS s hr i) 6 j = sN s 6 j := fun j => by unfold sN; rw [e 6 (by decide)]
    have e5 : ∀ j, sN (ptS s hr i) 5 j = sN s 5 j := fun j => by unfold sN; rw [e 5 (by decide)]
    obtain ⟨q1, q2⟩ := i8 j hj
    obtain ⟨⟨k, k1, k2⟩, ⟨t, t1, t2⟩, -⟩ := i1 j hj
    have k6 : sN s 5 j < 6 := by rw [sN_of k2 (by omega)]; exact k1
    rw [e5, e 6 (by decide), ptS_at s hr i k6 (by omega)]
    refine ⟨?_, fun x hx => by rw [e6, e6]; exact q2 x hx⟩
    rw [if_neg (fun z => ?_)]
    · exact q1
    · have z2 := z.2
      unfold frB at z2
      rw [Bool.and_eq_true, decide_eq_true_eq, q1, t2] at z2
      exact ia_m1 (n := t) (by omega) z2.1
theorem q_keep (F : CF h X) {t : Nat} (ht : t ≤ 400) : f_X6_keep h (X + 1) (Int32.ofNat t) = some (nk_cI h (X + 3) (va_cpy (nk_I h (X + 2)) (nk_I h (X + 3)) 0 (6 * t) 6), ()) := by
  obtain ⟨-, -, -, -, -, -, ⟨k3, k4, k5, k6, k7, k8, k9⟩, -⟩ := F
  have e6 : Int32.ofNat t * 6 = Int32.ofNat (6 * t) := by
    rw [show (6 : Int32) = Int32.ofNat 6 from rfl, ia_mul, Nat.mul_comm]
  have z0 : (0 : Int32).toNatClampNeg = 0 := by decide
  have z6 : (6 : Int32).toNatClampNeg = 6 := by decide
  have rg : nk_rg h (X + 2) (X + 3) 0 (Int32.ofNat (6 * t)) 6 = true := by
    unfold nk_rg
    have z1 : decide ((0 : Int32) < 0) = false := by decide
    have z2 : decide ((6 : Int32) < 0) = false := by decide
    rw [z0, z6, z1, z2, ia_nn (by omega), k7, k9, decide_eq_false (ia_n0 (by omega)), decide_eq_true (by omega), decide_eq_true (by omega)]
    rfl
  unfold f_X6_keep
  rw [rd_P [14] (by rw [k3]; decide) k4, rd_P [14] (by rw [k3]; decide) k5, e6]
  unfold nk_cpI
  show (if nk_K h (X + 2) = 1 ∧ nk_K h (X + 3) = 1 ∧ X + 2 ≠ X + 3 ∧ nk_rg h (X + 2) (X + 3) 0 (Int32.ofNat (6 * t)) 6 = true then some (nk_cI h (X + 3) (va_cpy (nk_I h (X + 2)) (nk_I h (X + 3)) (0 : Int32).toNatClampNeg (Int32.ofNat (6 * t)).toNatClampNeg (6 : Int32).toNatClampNeg)) else none).bind _ = _
  rw [if_pos ⟨k6, k8, by omega, rg⟩, z0, z6, ia_nn (by omega)]
  rfl
theorem WR0.hour (W : WR0 h X n w a c hr pa cp s m) (hh : hr < 400) (f : Nat → Int32) : WR0 (nk_cI (nk_sI h X 5 (Int32.ofNat (hr + 1))) (X + 3) f) X n w a c (hr + 1) pa cp (nk_u2 s 1 0 (Int32.ofNat (hr + 1))) m := by
  have G0 : Gn h (nk_sI h X 5 (Int32.ofNat (hr + 1))) (fun x => x = X ∨ x = X + 3) no := Gn_sI (DI := fun x => x = X ∨ x = X + 3) h X 5 _ _ (Or.inl (Or.inl rfl))
  have G : Gn h (nk_cI (nk_sI h X 5 (Int32.ofNat (hr + 1))) (X + 3) f) (fun x => x = X ∨ x = X + 3) no := by
    obtain ⟨a1, a2, a3, a4⟩ := G0
    refine ⟨a1, a2, a3, fun x hx => ?_⟩
    obtain ⟨b1, b2, b3, b4⟩ := a4 x hx
    refine ⟨b1, b2, b3, fun z => ?_⟩
    show nk_u1 (nk_I (nk_sI h X 5 (Int32.ofNat (hr + 1)))) (X + 3) f x = _
    rw [nk_u1_ne _ _ _ (fun e => z (Or.inr e))]
    exact b4 z
  have iX : nk_I (nk_cI (nk_sI h X 5 (Int32.ofNat (hr + 1))) (X + 3) f) X = nk_u2 (nk_I h) X 5 (Int32.ofNat (hr + 1)) X := by
    show nk_u1 (nk_I (nk_sI h X 5 (Int32.ofNat (hr + 1)))) (X + 3) f X = _
    rw [nk_u1_ne _ _ _ (by omega)]; rfl
  generalize nk_cI (nk_sI h X 5 (Int32.ofNat (hr + 1))) (X + 3) f = h' at G iX ⊢
  obtain ⟨H, h2, h3, h4, h5, hI⟩ := W
  have hN := H.2.2.2.2.2.2
  have hI' := hour_I hI hh
  have es1 : nk_u2 s 1 0 (Int32.ofNat (hr + 1)) 1 0 = Int32.ofNat (hr + 1) := u2_eq _ _ _ _
  have ee : ∀ k j, k ≠ 1 → nk_u2 s 1 0 (Int32.ofNat (hr + 1)) k j = s k j := fun k j hk => u2_k _ _ _ _ _ hk
  generalize nk_u2 s 1 0 (Int32.ofNat (hr + 1)) = s' at hI' es1 ee ⊢
  obtain ⟨m1, m2⟩ := MR.gn h3 G (by omega) (fun x x1 x2 => ⟨by omega, id⟩)
  have hO := CL.lt H.2.2.2.2.2.1
  refine ⟨?_, h2.gn G hN (fun _ _ _ => id) hO, m1, by rw [m2]; exact h4, h5.gn G hN, hI'⟩
  obtain ⟨⟨h1, h2, h3, h4, h5, h6, h7, h8, h9, h10⟩, k2, k3, k4, k5, ⟨l1, l2, l3, l4⟩, k8⟩ := H
  obtain ⟨r1, r2, r3, r4⟩ := rg_pw hI
  have dj : ∀ j, j < n → ¬ (pa j = X ∨ pa j = X + 3) ∧ ¬ (pa j + 1 = X ∨ pa j + 1 = X + 3) ∧ ¬ (pa j - 1 = X ∨ pa j - 1 = X + 3) ∧ ¬ (pa j + 2 = X ∨ pa j + 2 = X + 3) := fun j hj => by
    have := (h3 j hj).1
    omega
  have es : ∀ k j, k ≠ 1 → sN s' k j = sN s k j := fun k j hk => by unfold sN; rw [ee k j hk]
  have ha : ∀ r, ac s' pa r = ac s pa r := fun r => by unfold ac; rw [es _ _ (by decide)]
  have eW : eqW s s' w := fun q _ k hk1 _ => ee k q (by omega)
  have hd : ∀ d, nk_P h X 6 = some d → ¬ (d = X ∨ d = X + 3) := fun d hd e => by
    obtain ⟨d', e1, -, e3, e2, -⟩ := k3
    rw [hd] at e1
    cases e1
    omega
  refine ⟨⟨h1.gn G hN (fun _ _ _ => id), h2.gn G (by omega) (by omega) id (fun _ _ => id), h3.gn G, PS.gn h3 h4 G (fun j _ => ee 4 j (by decide)) (fun _ _ => id), PI.gn h3 h5 G (fun j hj => ⟨(dj j hj).1, (dj j hj).2.1⟩) (fun j _ => ee 5 j (by decide)) (fun j _ => ee 6 j (by decide)) (fun j _ k _ => ee 10 _ (by decide)) (fun j _ k _ => ee 11 _ (by decide)),
    PW.gn h3 h6 G r1 r2 eW (fun q hq => ⟨(dj _ (r1 q hq)).1, id⟩), PR.gn (w := w) h3 h7 G (fun j _ => ee 4 j (by decide)) (fun j _ => ee 7 j (by decide)) r4 eW (fun _ _ => id), PD.gn h3 h8 G (fun j _ => ⟨ee 4 j (by decide), ee 7 j (by decide), ee 8 j (by decide), ee 9 j (by decide)⟩) (fun j hj _ => (dj j hj).1),
    AS.gn (w := w) h3 h9 G r3 eW (fun x _ => ⟨ee 32 x (by decide), ee 33 _ (by decide)⟩) (fun _ _ => id), AI.gn h3 h9 h10 G (fun x hx => (r3 x hx).1) (fun x _ => ⟨ee 32 x (by decide), ee 34 x (by decide), ee 35 x (by decide), ee 36 x (by decide), fun i _ => ee 33 _ (by decide)⟩) (fun j _ => ⟨ee 5 j (by decide), ee 6 j (by decide)⟩) (fun e he => ⟨(dj _ (r3 e he).1).1, (dj _ (r3 e he).1).2.2.1, (dj _ (r3 e he).1).2.2.2⟩)⟩,
    ?_, k3.gn G (by omega) id hd (fun k hk _ => ee k 0 (by omega)), k4.gn G (fun x _ => ee 40 x (by decide)) (fun _ _ => ⟨id, id⟩), KI.gn k4 k5 G (fun x _ => ⟨ee 38 x (by decide), ee 39 x (by decide), ee 40 x (by decide), ee 41 x (by decide), ee 42 x (by decide), fun i _ => ⟨ee 44 _ (by decide), fun p _ => ee 43 _ (by decide)⟩⟩) (fun e he x hx _ => by have := (k4 e he).1; omega), ?_, Nat.le_trans k8 G.1⟩
  · obtain ⟨g1, g2, g3, g4⟩ := k2
    unfold CG
    rw [iX, es1, ee 27 0 (by decide), ee 28 0 (by decide)]
    refine ⟨nk_u2_eq _ _ _ _, by rw [nk_u2_nk _ _ _ _ _ (by decide)]; exact g2, by rw [nk_u2_nk _ _ _ _ _ (by decide)]; exact g3, fun k hk => ⟨?_, ?_⟩⟩
    · rw [(G.2.2.2 (X + 2) (by omega)).2.2.2 (by omega), ee 2 k (by decide)]; exact (g4 k hk).1
    · rw [(G.2.2.2 (X + 9 + 2 * k) (by omega)).2.2.2 (by omega)]; exact (g4 k hk).2
  · refine ⟨l1.gn G (by omega) (by omega) id (fun _ _ => id), LSq.el (l2.gn G (by omega) (by omega) id (fun _ _ => id)) (fun q hq => eW.epw hq), fun k hk => ?_, l4.gn G (by omega) (by omega) id (fun _ _ => id)⟩
    rw [es _ _ (by decide)]
    refine LSq.el ((l3 k hk).gn G (by omega) (by omega) id (fun _ _ => id)) (fun r hr9 => ?_)
    rw [es _ _ (by decide), ha]
/-- a piece comes to the kiosks where it is fresh -/
theorem sp_inner {p : Nat} (hk : nk_K h p ∈ [8, 12, 16, 17]) (h5 : nk_P h p 5 = some (p + 1)) (kq : nk_K h (p + 1) = 1) (lq : nk_L h (p + 1) = 6) (r5 : nk_H → Nat → Option Nat → Int32 → Int32 → Int32 → Option (nk_H × Int32)) (t0 : Nat) (v1 : Option Nat) (t acc vi fresh : Int32) (hf : six fresh) : ∀ (kf k : Nat) (g : nk_H), k ≤ 6 → 6 - k < kf → SI h g → (∀ x y, x ≠ p + 1 → (x = p → y ≠ 3) → nk_I g x y = nk_I h x y) → (∀ y, y < 32 → gb (nk_I g p 3) y = (gb (nk_I h p 3) y || (decide (y < k) && gb fresh y))) → (∀ y, y < 6 → nk_I g (p + 1) y = if y < k ∧ gb fresh y = true then t else nk_I h (p + 1) y) →
    ∃ g', f_X7_spread_b54 r5 kf g t0 v1 t acc vi (some p) fresh (Int32.ofNat k) = r5 g' t0 v1 t (acc + cnt (gb fresh)) (vi + 1) ∧ SI h g' ∧ (∀ x y, x ≠ p + 1 → (x = p → y ≠ 3) → nk_I g' x y = nk_I h x y) ∧ (∀ y, y < 32 → gb (nk_I g' p 3) y = (gb (nk_I h p 3) y || (decide (y < 6) && gb fresh y))) ∧ (∀ y, y < 6 → nk_I g' (p + 1) y = if y < 6 ∧ gb fresh y = true then t else nk_I h (p + 1) y) := by
  intro kf
  induction kf with
  | zero => intro k g _ h9; omega
  | succ kf ih =>
    intro k g hk6 hkf S a1 a2 a3
    show ∃ g', f_X7_spread_c54 r5 (f_X7_spread_b54 r5 kf) g t0 v1 t acc vi (some p) fresh (Int32.ofNat k) = _ ∧ _
    unfold f_X7_spread_c54 f_X7_spread_c79
    by_cases h1 : 6 ≤ k
    · have : k = 6 := by omega
      subst this
      rw [if_pos (by decide), do_eq (bc g hf)]
      exact ⟨g, rfl, S, a1, a2, a3⟩
    · have hk' : k < 6 := by omega
      rw [if_neg (fun e : (6 : Int32) ≤ Int32.ofNat k => h1 ((ia_le (a := 6) (by omega) (by omega)).mp e)), do_eq (cls_hasBit g _ hk')]
      have SS := S
      obtain ⟨e1, e2, e3, e4, e5, e6, e7⟩ := S
      cases hg : gb fresh k with
      | false =>
        rw [b2i_false, if_pos rfl, ia_1]
        refine ih (k + 1) g (by omega) (by omega) SS a1 (fun y hy => ?_) (fun y hy => ?_)
        · rw [a2 y hy]
          by_cases z : y = k
          · rw [z, hg]; simp
          · rw [show decide (y < k + 1) = decide (y < k) from by
              by_cases q : y < k
              · rw [decide_eq_true q, decide_eq_true (by omega)]
              · rw [decide_eq_false q, decide_eq_false (by omega)]]
        · rw [a3 y hy]
          by_cases z : y = k
          · rw [z, hg, if_neg (fun q => nomatch q.2), if_neg (fun q => nomatch q.2)]
          · by_cases q : y < k ∧ gb fresh y = true
            · rw [if_pos q, if_pos ⟨by omega, q.2⟩]
            · rw [if_neg q, if_neg (fun q2 => q ⟨by omega, q2.2⟩)]
      | true =>
        have ebit : ∀ {α : Type} (h : nk_H) (k : Nat) (K : nk_H → Int32 → Option (nk_H × α)), nk_do (f_X11_bit h (Int32.ofNat k)) K = K h (1 <<< (Int32.ofNat k &&& 31)) := fun h k K => rfl
        have hkg : nk_K g p ∈ [8, 12, 16, 17] := by rw [e1]; exact hk
        have hpq : p + 1 ≠ p := by omega
        have i3 : nk_I (nk_sI g (p + 1) k t) p 3 = nk_I g p 3 := by rw [nk_I_sI, nk_u2_ne _ _ _ _ _ (by omega)]
        rw [b2i_true, if_neg (by decide), rd_r _ hkg]
        unfold f_X8_comeTo
        rw [rd_P (b := some (p + 1)) _ hkg (by rw [e2]; exact h5), wr_a t (by rw [e1]; exact kq) (by rw [e3, lq]; omega) (by omega), rd_I (h := nk_sI g (p + 1) k t) _ hkg i3, ebit, wr_I (h := nk_sI g (p + 1) k t) _ 3 _ hkg, do_s, ia_1]
        refine ih (k + 1) _ (by omega) (by omega) ((SS.sI _ _ _).sI _ _ _) (fun x y x1 x2 => ?_) (fun y hy => ?_) (fun y hy => ?_)
        · rw [nk_I_sI, nk_I_sI]
          by_cases z : x = p
          · rw [z, nk_u2_nk _ _ _ _ _ (x2 z), nk_u2_ne _ _ _ _ _ (by omega)]
            exact a1 p y (by omega) (fun _ => x2 z)
          · rw [nk_u2_ne _ _ _ _ _ z, nk_u2_ne _ _ _ _ _ x1]
            exact a1 x y x1 x2
        · rw [nk_I_sI, nk_u2_eq, gb_or, a2 y hy, gb_bit hk']
          by_cases z : y = k
          · rw [z, hg]; simp
          · rw [decide_eq_false z, Bool.or_false, show decide (y < k + 1) = decide (y < k) from by
              by_cases q : y < k
              · rw [decide_eq_true q, decide_eq_true (by omega)]
              · rw [decide_eq_false q, decide_eq_false (by omega)]]
        · rw [nk_I_sI, nk_u2_ne _ _ _ _ _ hpq, nk_I_sI]
          by_cases z : y = k
          · rw [z, nk_u2_eq, if_pos ⟨by omega, hg⟩]
          · rw [nk_u2_nk _ _ _ _ _ z, a3 y hy]
            by_cases q : y < k ∧ gb fresh y = true
            · rw [if_pos q, if_pos ⟨by omega, q.2⟩]
            · rw [if_neg q, if_neg (fun q2 => q ⟨by omega, q2.2⟩)]
end PT
