section PT
variable {h h' g : nk_H} {X n w a c hr : Nat} {pa cp : Nat → Nat} {s s' m : Nat → Nat → Int32}
theorem frB_1 (s : Nat → Nat → Int32) (v : Int32) : frB (nk_u2 s 1 0 v) = frB s := by
  have e : ∀ k, k ≠ 1 → nk_u2 s 1 0 v k = s k := fun k hk => funext fun y => u2_k _ _ _ _ _ hk
  funext j k
  unfold frB
  rw [e 10 (by decide), e 2 (by decide)]
theorem sp_step {t i : Nat} (W : WR0 g X n w a c t pa cp (ptS s t i) m) (hIs : Inv s n w a c t) (hi : i < n) (rows : ∀ x, x < 6 → nk_I g (X + 3) (6 * t + x) = s 2 x) (acc : Int32) (kf : Nat) : ∃ g', f_X7_spread_c5 (f_X7_spread_b5 kf) g (X + 4) (some (X + 1)) (Int32.ofNat t) acc (Int32.ofNat i) = f_X7_spread_b5 kf g' (X + 4) (some (X + 1)) (Int32.ofNat t) (acc + cnt (frB s i)) (Int32.ofNat (i + 1)) ∧ WR0 g' X n w a c t pa cp (ptS s t (i + 1)) m ∧ SI g g' ∧ nk_I g' (X + 3) = nk_I g (X + 3) := by
  have hn := hIs.1.2.1
  have ht := hIs.1.2.2.2.2.2.2.2.2.2.2
  have hI := W.2.2.2.2.2
  have CQg := W.1.1
  have kp := pa_K CQg hI hi
  obtain ⟨-, k5, kq, lq⟩ := CQg.2.2.2.1 i hi
  obtain ⟨b0, b1, b2, b3, b4, b5⟩ := CQg.2.2.2.2.1 i hi
  obtain ⟨k1, k2, -⟩ := CQg.1.2.2.2.2.2.2.2.1
  have k14 := CQg.1.2.2.2.2.2.2.1.1
  have L := CQg.2.1
  have A := CQg.2.2.1
  have pX := (A i hi).1
  have e10 : ∀ k, k < 6 → ptS s t i 10 (160 * k + i) = s 10 (160 * k + i) := fun k hk => by rw [ptS_at s t i hk (by omega), if_neg (by omega)]
  generalize hct : nk_I g (pa i) 3 = ct at b3
  generalize hfr : orF ct (fun x => nk_I g (X + 3) (6 * t + x)) 6 &&& (ct ^^^ (-1)) = fresh
  have six2 : ∀ k, k < 6 → six (s 2 k) := fun k hk => by
    obtain ⟨b, hb, eb⟩ := hIs.2.2.2.2.2.2.2.1.2.2 k hk
    rw [eb]; exact six_of hb
  have gct : ∀ k, k < 6 → gb ct k = !decide (s 10 (160 * k + i) = -1) := fun k hk => by
    rw [b3 k (by omega), decide_eq_true hk, Bool.true_and, e10 k hk]
  have gany : ∀ y, anyB (fun x => gb ct x && gb (nk_I g (X + 3) (6 * t + x)) y) 6 = anyB (fun f => !decide (s 10 (160 * f + i) = -1) && gb (s 2 f) y) 6 := fun y => anyB_congr (fun x hx => by rw [gct x hx, rows x hx])
  have gfr : ∀ y, y < 6 → gb fresh y = frB s i y := fun y hy => by
    rw [← hfr, gb_and, gb_not _ (by omega), gb_orF, gany, gct y hy]
    unfold frB
    cases decide (s 10 (160 * y + i) = -1) <;> simp
  have sfr : six fresh := fun y y1 y2 => by
    rw [← hfr, gb_and, gb_orF, gany, b3 y y2, decide_eq_false (by omega)]
    have : anyB (fun f => !decide (s 10 (160 * f + i) = -1) && gb (s 2 f) y) 6 = false := anyB_false.mpr (fun f hf => by rw [six2 f hf y y1 y2, Bool.and_false])
    rw [this]; rfl
  obtain ⟨g', e1, S, c1, c2, c3⟩ := sp_inner (h := g) (p := pa i) kp k5 kq lq (f_X7_spread_b5 kf) (X + 4) (some (X + 1)) (Int32.ofNat t) acc (Int32.ofNat i) fresh sfr 4096 0 g (by omega) (by omega) (SI.refl g) (fun _ _ _ _ => rfl) (fun y _ => by simp) (fun y _ => by simp)
  have e1' : f_X7_spread_b54 (f_X7_spread_b5 kf) 4096 g (X + 4) (some (X + 1)) (Int32.ofNat t) acc (Int32.ofNat i) (some (pa i)) fresh 0 = f_X7_spread_b5 kf g' (X + 4) (some (X + 1)) (Int32.ofNat t) (acc + cnt (gb fresh)) (Int32.ofNat i + 1) := e1
  refine ⟨g', ?_, W.pint hi S (fun x y x1 x2 => c1 x y x1 (fun z => (x2 z).1)) (fun x x1 x2 => by rw [ptS_O _ _ _ x1, ptS_O _ _ _ x1]) (fun j j1 j2 k hk => ?_) ?_ (pt_I hIs (by omega)), S, ?_⟩
  · unfold f_X7_spread_c5
    rw [rd_P [15] (by rw [k1]; decide) k2, rd_r [7] (by rw [L.1]; decide), do_eq (ls_size L), if_neg (fun e => by have := (ia_le (by omega) (by omega)).mp e; omega), rd_P [15] (by rw [k1]; decide) k2, rd_r [7] (by rw [L.1]; decide), do_eq (ls_get L hi), rd_c _ kp, rd_I _ kp hct, rd_r [14] (by rw [k14]; decide), do_eq (q_reach CQg.1 ct ht), rd_I _ kp hct, hfr, e1', cnt_congr gfr, ia_1]
  · rw [ptS_at s t (i + 1) hk j2, ptS_at s t i hk j2, ptS_O s t (i + 1) (by decide), ptS_O s t i (by decide)]
    refine ⟨?_, rfl⟩
    by_cases z : j < i ∧ frB s j k = true
    · rw [if_pos z, if_pos ⟨by omega, z.2⟩]
    · rw [if_neg z, if_neg (fun q => z ⟨by omega, q.2⟩)]
  · have o : ∀ x, x ≠ 10 → ptS s t (i + 1) x = ptS s t i x := fun x hx => by rw [ptS_O _ _ _ hx, ptS_O _ _ _ hx]
    have n10 : ∀ k, k < 6 → ptS s t (i + 1) 10 (160 * k + i) = if frB s i k = true then Int32.ofNat t else s 10 (160 * k + i) := fun k hk => by
      rw [ptS_at s t (i + 1) hk (by omega)]
      by_cases z : frB s i k = true
      · rw [if_pos z, if_pos ⟨by omega, z⟩]
      · rw [if_neg z, if_neg (fun q => z q.2)]
    unfold PI1
    rw [c1 _ 0 (by omega) (fun _ => by decide), c1 _ 1 (by omega) (fun _ => by decide), c1 _ 2 (by omega) (fun _ => by decide), c1 _ 4 (by omega) (fun _ => by decide), o 5 (by decide), o 6 (by decide), o 11 (by decide)]
    refine ⟨b0, b1, b2, fun y hy => ?_, b4, fun y hy => ?_⟩
    · rw [c2 y hy, hct, b3 y hy]
      by_cases y6 : y < 6
      · rw [decide_eq_true y6, gfr y y6, e10 y y6, n10 y y6]
        by_cases z : frB s i y = true
        · rw [if_pos z, z, decide_eq_false (ia_m1 (by omega))]; simp
        · have z' : frB s i y = false := by simpa using z
          rw [if_neg z, z']; simp
      · rw [decide_eq_false y6]; rfl
    · rw [c3 y hy, b5 y hy, e10 y hy, n10 y hy, gfr y hy]
      by_cases z : frB s i y = true
      · rw [if_pos z, if_pos ⟨hy, z⟩]
      · rw [if_neg z, if_neg (fun q => z q.2)]
  · funext y
    exact c1 _ y (by omega) (by omega)
theorem sp_loop {t : Nat} (hIs : Inv s n w a c t) : ∀ (kf i : Nat) (g : nk_H), WR0 g X n w a c t pa cp (ptS s t i) m → (∀ x, x < 6 → nk_I g (X + 3) (6 * t + x) = s 2 x) → i ≤ n → n - i < kf → ∃ g', f_X7_spread_b5 kf g (X + 4) (some (X + 1)) (Int32.ofNat t) (sumB (fun j => cnt (frB s j)) i) (Int32.ofNat i) = some (g', sumB (fun j => cnt (frB s j)) n) ∧ WR0 g' X n w a c t pa cp (ptS s t n) m ∧ SI g g' ∧ nk_I g' (X + 3) = nk_I g (X + 3) := by
  intro kf
  have hn := hIs.1.2.1
  induction kf with
  | zero => intro i g _ _ _ h9; omega
  | succ kf ih =>
    intro i g W rows hi hf
    by_cases h1 : n ≤ i
    · have : i = n := by omega
      subst this
      refine ⟨g, ?_, W, SI.refl g, rfl⟩
      show f_X7_spread_c5 (f_X7_spread_b5 kf) g (X + 4) (some (X + 1)) (Int32.ofNat t) _ (Int32.ofNat i) = _
      have CQg := W.1.1
      obtain ⟨k1, k2, -⟩ := CQg.1.2.2.2.2.2.2.2.1
      have L := CQg.2.1
      unfold f_X7_spread_c5
      rw [rd_P [15] (by rw [k1]; decide) k2, rd_r [7] (by rw [L.1]; decide), do_eq (ls_size L), if_pos ((ia_le (by omega) (by omega)).mpr (Nat.le_refl _))]
    · obtain ⟨g1, e1, W1, S1, r1⟩ := sp_step W hIs (by omega) rows (sumB (fun j => cnt (frB s j)) i) kf
      obtain ⟨g2, e2, W2, S2, r2⟩ := ih (i + 1) g1 W1 (fun x hx => by rw [r1]; exact rows x hx) (by omega) (by omega)
      refine ⟨g2, ?_, W2, S1.trans S2, r2.trans r1⟩
      show f_X7_spread_c5 (f_X7_spread_b5 kf) g (X + 4) (some (X + 1)) (Int32.ofNat t) _ (Int32.ofNat i) = _
      rw [e1]
      exact e2
/-- the kept links tell what came in the hour, too -/
theorem CJ_hour (J : CJ h X n hr s) (hI : Inv s n w a c hr) (r0 : ∀ y, y < 6 * (hr + 1) → nk_I h' (X + 3) y = nk_I h (X + 3) y) (r1 : ∀ x, x < 6 → nk_I h' (X + 3) (6 * (hr + 1) + x) = s 2 x) : CJ h' X n (hr + 1) (ptS (nk_u2 s 1 0 (Int32.ofNat (hr + 1))) (hr + 1) n) := by
  have hn := hI.1.2.1
  have hh := hI.1.2.2.2.2.2.2.2.2.2.2
  have e : ∀ k, k ≠ 1 → nk_u2 s 1 0 (Int32.ofNat (hr + 1)) k = s k := fun k hk => funext fun y => u2_k _ _ _ _ _ hk
  have s10 : ∀ j k, j < n → k < 6 → ptS (nk_u2 s 1 0 (Int32.ofNat (hr + 1))) (hr + 1) n 10 (160 * k + j) = if frB s j k = true then Int32.ofNat (hr + 1) else s 10 (160 * k + j) := fun j k hj hk => by
    rw [ptS_at _ _ _ hk (by omega), frB_1, e 10 (by decide)]
    by_cases z : frB s j k = true
    · rw [if_pos z, if_pos ⟨hj, z⟩]
    · rw [if_neg z, if_neg (fun q => z q.2)]
  have s6 : ∀ j, sN (ptS (nk_u2 s 1 0 (Int32.ofNat (hr + 1))) (hr + 1) n) 6 j = sN s 6 j := fun j => by unfold sN; rw [ptS_O _ _ _ (by decide), e 6 (by decide)]
  have s5 : ∀ j, sN (ptS (nk_u2 s 1 0 (Int32.ofNat (hr + 1))) (hr + 1) n) 5 j = sN s 5 j := fun j => by unfold sN; rw [ptS_O _ _ _ (by decide), e 5 (by decide)]
  have frm : ∀ j k, frB s j k = true → s 10 (160 * k + j) = -1 := fun j k z => by
    unfold frB at z
    rw [Bool.and_eq_true, decide_eq_true_eq] at z
    exact z.1
  generalize ptS (nk_u2 s 1 0 (Int32.ofNat (hr + 1))) (hr + 1) n = S' at s10 s6 s5 ⊢
  have R0 : ∀ j k t, j < n → k < 6 → t ≤ hr → Rt S' j t k = Rt s j t k := fun j k t hj hk ht => by
    unfold Rt sN
    rw [s10 j k hj hk]
    by_cases z : frB s j k = true
    · rw [if_pos z, frm j k z, decide_eq_true rfl, ia_nn (by omega), decide_eq_false (show ¬ hr + 1 ≤ t by omega), Bool.and_false]; rfl
    · rw [if_neg z]
  have Rh : ∀ j k t, j < n → k < 6 → hr ≤ t → Rt s j t k = !decide (s 10 (160 * k + j) = -1) := fun j k t hj hk ht => by
    unfold Rt sN
    rcases (hI.2.2.1 k hk j (by omega)).1 with q | ⟨-, x, x1, x2, x3⟩
    · rw [q]; rfl
    · rw [x3, ia_nn (by omega), decide_eq_true (show x ≤ t by omega), Bool.and_true]
  have R1 : ∀ j k, j < n → k < 6 → Rt S' j (hr + 1) k = (!decide (s 10 (160 * k + j) = -1) || frB s j k) := fun j k hj hk => by
    by_cases z : frB s j k = true
    · have : Rt S' j (hr + 1) k = true := by
        unfold Rt sN
        rw [s10 j k hj hk, if_pos z, ia_nn (by omega), decide_eq_false (ia_m1 (by omega)), decide_eq_true (Nat.le_refl _)]; rfl
      rw [this, z, Bool.or_true]
    · have z' : frB s j k = false := by simpa using z
      rw [z', Bool.or_false, ← Rh j k (hr + 1) hj hk (by omega)]
      unfold Rt sN
      rw [s10 j k hj hk, if_neg z]
  intro j hj
  obtain ⟨j1, j2⟩ := J j hj
  obtain ⟨-, ⟨tj, t1, t2⟩, -⟩ := hI.2.1 j hj
  have e6 : sN s 6 j = tj := sN_of t2 (by omega)
  rw [s6, s5]
  refine ⟨fun k hk => by rw [R0 j k _ hj hk (by omega)]; exact j1 k hk, fun t ht1 ht2 k hk => ?_⟩
  by_cases z : t ≤ hr
  · rw [R0 j k t hj hk z, R0 j k (t - 1) hj hk (by omega), j2 t ht1 z k hk]
    congr 1
    exact anyB_congr (fun k' hk' => by rw [R0 j k' (t - 1) hj hk' (by omega), r0 _ (by omega)])
  · have : t = hr + 1 := by omega
    subst this
    have e1 : hr + 1 - 1 = hr := by omega
    rw [e1, R1 j k hj hk, R0 j k hr hj hk (Nat.le_refl _), Rh j k hr hj hk (Nat.le_refl _)]
    have e2 : anyB (fun k' => Rt S' j hr k' && gb (nk_I h' (X + 3) (6 * (hr + 1) + k')) k) 6 = anyB (fun f => !decide (s 10 (160 * f + j) = -1) && gb (s 2 f) k) 6 := anyB_congr (fun f hf => by rw [R0 j f hr hj hf (Nat.le_refl _), Rh j f hr hj hf (Nat.le_refl _), r1 f hf])
    rw [e2]
    unfold frB
    cases decide (s 10 (160 * k + j) = -1) <;> simp
end PT
