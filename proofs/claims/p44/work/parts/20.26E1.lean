section QQ
variable {h : nk_H} {X n w a c hr : Nat} {pa cp : Nat → Nat} {s s' m : Nat → Nat → Int32}
/-- reached within an hour -/
def orF (v : Int32) (g : Nat → Int32) : Nat → Int32
  | 0 => v
  | i + 1 => if gb v i = true then orF v g i ||| g i else orF v g i
theorem gb_orF (v : Int32) (g : Nat → Int32) (i k : Nat) : gb (orF v g i) k = (gb v k || anyB (fun x => gb v x && gb (g x) k) i) := by
  induction i with
  | zero => simp [orF, anyB]
  | succ i ih =>
    simp only [orF, anyB]
    cases h9 : gb v i with
    | true => rw [if_pos rfl, gb_or, ih, Bool.true_and, Bool.or_assoc]
    | false => rw [if_neg (by decide), ih, Bool.false_and, Bool.or_false]
theorem q_reach (F : CF h X) (v : Int32) {t : Nat} (ht : t ≤ 400) : f_X6_reach h (X + 1) v (Int32.ofNat t) = some (h, orF v (fun x => nk_I h (X + 3) (6 * t + x)) 6) := by
  obtain ⟨-, -, -, -, -, -, ⟨k3, k4, k5, k6, k7, k8, k9⟩, -⟩ := F
  unfold f_X6_reach
  have key : ∀ kf i, i ≤ 6 → 6 - i < kf → f_X6_reach_b5 kf h (X + 1) v (Int32.ofNat t) (orF v (fun x => nk_I h (X + 3) (6 * t + x)) i) (Int32.ofNat i) = some (h, orF v (fun x => nk_I h (X + 3) (6 * t + x)) 6) := by
    intro kf
    induction kf with
    | zero => intro i _ h9; omega
    | succ kf ih =>
      intro i hi hk
      show f_X6_reach_c5 (f_X6_reach_b5 kf) h (X + 1) v (Int32.ofNat t) (orF v (fun x => nk_I h (X + 3) (6 * t + x)) i) (Int32.ofNat i) = _
      unfold f_X6_reach_c5 f_X6_reach_c36
      by_cases h1 : 6 ≤ i
      · have : i = 6 := by omega
        subst this
        rw [if_pos (by decide)]
      · have e6 : Int32.ofNat t * 6 + Int32.ofNat i = Int32.ofNat (6 * t + i) := by
          rw [show (6 : Int32) = Int32.ofNat 6 from rfl, ia_mul, ia_add, Nat.mul_comm]
        rw [if_neg (fun e9 : (6 : Int32) ≤ Int32.ofNat i => h1 ((ia_le (a := 6) (by omega) (by omega)).mp e9)), do_eq (cls_hasBit h v (k := i) (by omega)), ite_not, rd_P [14] (by rw [k3]; decide) k5, e6, rd_a 1 k8 (by omega) (by omega) rfl, ia_1]
        have := ih (i + 1) (by omega) (by omega)
        simp only [orF] at this
        cases h9 : gb v i with
        | true => rw [h9, if_pos rfl] at this; rw [if_neg (by decide)]; exact this
        | false => rw [h9, if_neg (by decide)] at this; rw [if_pos rfl]; exact this
  exact key 4096 0 (by omega) (by omega)
theorem q_came (W : WR h X n w a c hr pa cp s m) {j k0 : Nat} (hj : j < n) (hk0 : k0 < 6) : ∀ (kf t : Nat) (v : Int32), sN s 6 j < t → t ≤ hr + 1 → hr + 1 - t < kf → (∀ k, k < 6 → gb v k = Rt s j (t - 1) k) → Rt s j (t - 1) k0 = false → f_X11_cameByLinks_b49 kf h X (Int32.ofNat k0) v (Int32.ofNat t) = some (h, .inl (s 10 (160 * k0 + j))) := by
  have hb := W.b
  obtain ⟨j1, j2⟩ := W.1.2.2.2.2.2.2.1 j hj
  obtain ⟨k1, k2, -⟩ := W.1.1.1
  have k3 := W.1.1.1.2.2.2.2.2.2.1.1
  intro kf
  induction kf with
  | zero => intro t v _ _ h9; omega
  | succ kf ih =>
    intro t v ht1 ht2 hkf hv h0
    show f_X11_cameByLinks_c49 (f_X11_cameByLinks_b49 kf) h X (Int32.ofNat k0) v (Int32.ofNat t) = _
    unfold f_X11_cameByLinks_c49
    rw [rd_I [18] (by rw [k1]; decide) W.1.2.1.1, W.I.1.2.2.2.2.2.2.2.2.2.1]
    have hcase := (W.I.2.2.1 k0 hk0 j (by omega)).1
    by_cases h1 : hr < t
    · have e : t - 1 = hr := by omega
      rw [e] at h0
      rw [if_pos ((ia_lt (by omega) (by omega)).mpr h1)]
      rcases hcase with e1 | ⟨-, t9, ht9, -, e1⟩
      · rw [e1]
      · exfalso
        unfold Rt at h0
        rw [sN_of e1 (by omega), e1, decide_eq_false (ia_m1 (by omega)), decide_eq_true ht9] at h0
        cases h0
    · rw [if_neg (fun e => h1 ((ia_lt (by omega) (by omega)).mp e)), rd_P [18] (by rw [k1]; decide) k2, rd_r [14] (by rw [k3]; decide), do_eq (q_reach W.1.1.1 v (t := t) (by omega)), do_eq (cls_hasBit h _ hk0), ite_not]
      have hR : ∀ k, k < 6 → gb (orF v (fun x => nk_I h (X + 3) (6 * t + x)) 6) k = Rt s j t k := fun k hk => by
        rw [gb_orF, j2 t ht1 (by omega) k hk, hv k hk]
        congr 1
        exact anyB_congr (fun x hx => by rw [hv x hx])
      rw [hR k0 hk0]
      cases h9 : Rt s j t k0 with
      | true =>
        rw [if_neg (by decide)]
        rcases hcase with e1 | ⟨-, t9, ht9, -, e1⟩
        · exfalso
          unfold Rt at h9
          rw [e1, decide_eq_true rfl] at h9
          cases h9
        · unfold Rt at h9 h0
          rw [sN_of e1 (by omega), e1, decide_eq_false (ia_m1 (by omega)), Bool.not_false, Bool.true_and] at h9 h0
          have g1 : t9 ≤ t := of_decide_eq_true h9
          have g2 : ¬ t9 ≤ t - 1 := of_decide_eq_false h0
          rw [e1, show t9 = t by omega]
      | false =>
        rw [if_pos rfl, ia_1]
        exact ih (t + 1) _ (by omega) (by omega) (by omega) (fun k hk => by rw [hR k hk]; rfl) h9
theorem cl_cameByLinks (W : WR h X n w a c hr pa cp s m) (v u : Int32) : WOK h X m n w a c hr s (if (rg v 6 && rg u n) = true then 0 else 1) (s 10 (160 * v.toNatClampNeg + u.toNatClampNeg)) (f_W_cameByLinks h (some X) v u (some (X + 56))) := by
  have hb := W.b
  unfold f_W_cameByLinks
  rw [rX W]
  refine wq_I (VOK.iff W ?_) rfl
  obtain ⟨k1, -, k2, -, -, -, -, ⟨k3, -⟩, -⟩ := W.1.1.1
  unfold f_X11_cameByLinks
  rw [dt_if (mb_kiosk h v)]
  cases h0 : rg v 6 with
  | false => rfl
  | true =>
    rw [if_pos rfl, rX W, dt_if (mb_piece W u), Bool.true_and]
    cases h1 : rg u n with
    | false => rfl
    | true =>
      obtain ⟨k, rfl, hk⟩ := rg_ex (by decide) h0
      obtain ⟨j, rfl, hj⟩ := rg_ex (by omega) h1
      have kj := pa_K W.1.1 W.I hj
      obtain ⟨p0, p1, p2, -⟩ := W.1.1.2.2.2.2.1 j hj
      obtain ⟨⟨kj9, hkj, ekj⟩, ⟨tj, htj, etj⟩, -⟩ := W.I.2.1 j hj
      obtain ⟨j1, j2⟩ := W.1.2.2.2.2.2.2.1 j hj
      have c1 := (W.I.2.2.2.2.2.2.2.2.1 j hj).1
      have st : sN s 6 j = tj := sN_of etj (by omega)
      have sk : sN s 5 j = kj9 := sN_of ekj (by omega)
      rw [sk] at c1 j1
      have ebit : ∀ (K : nk_H → Int32 → Option (nk_H × (Int32 ⊕ String))), nk_do (f_X11_bit h (Int32.ofNat kj9)) K = K h (1 <<< (Int32.ofNat kj9 &&& 31)) := fun K => rfl
      rw [if_pos rfl, if_pos rfl, rd_P [18] (by rw [k1]; decide) k2, rd_r [15] (by rw [k3]; decide), do_eq (q_pieceAt W hj), rd_I _ kj p1, ekj, ebit, do_eq (cls_hasBit h _ hk), gb_bit hkj, ite_not, ia_nn (n := k) (by omega), ia_nn (n := j) (by omega)]
      by_cases e9 : k = kj9
      · subst e9
        rw [decide_eq_true rfl, if_neg (by decide), rd_I _ kj p2, c1]
      · rw [decide_eq_false e9, if_pos rfl, rd_I _ kj p2, etj, ia_1]
        refine q_came W hj hk 4096 (tj + 1) _ (by omega) (by omega) (by omega) (fun k' hk' => ?_) ?_
        · rw [gb_bit hkj, Nat.add_sub_cancel, ← st, j1 k' hk']
        · rw [Nat.add_sub_cancel, ← st, j1 k hk, decide_eq_false e9]
end QQ
