section QQ
variable {h : nk_H} {X n w a c hr : Nat} {pa cp : Nat → Nat} {s s' m : Nat → Nat → Int32}
/-- behind a look at the news: the world, and what is seen -/
theorem VOK.seen {α : Type} {h1 : nk_H} (W : WR h X n w a c hr pa cp s m) (S : SM X h h1) (r : α) : VOK h X m n w a c hr s r (some (h1, r)) := ⟨h1, pa, cp, rfl, W.seen S, by rw [S.2.2.2.1]; omega, by rw [S.2.2.2.2.1]; omega⟩
theorem k15 (W : WR h X n w a c hr pa cp s m) : nk_P h X 1 = some (X + 4) ∧ nk_K h (X + 4) ∈ [15] ∧ nk_K h X ∈ [18] := by
  obtain ⟨k1, -, k2, -, -, -, -, ⟨k3, -⟩, -⟩ := W.1.1.1
  exact ⟨k2, by rw [k3]; decide, by rw [k1]; decide⟩
theorem WR.N (W : WR h X n w a c hr pa cp s m) : X + 57 ≤ nk_N h := W.1.2.2.2.2.2.2.2
theorem by_k {k : Nat} (hk : k < 6) : byok n (Int32.ofNat k) := Or.inr (Or.inl ⟨k, hk, rfl⟩)
theorem eq0.f (e : eq0 s s') (k : Nat) (hk : k ≠ 0) : s' k = s k := funext fun j => e k j hk
theorem hasB_0 (e : eq0 s s') : hasB s' = hasB s := by
  funext B j
  unfold hasB sN
  rw [e.f 5 (by decide), e.f 6 (by decide), e.f 10 (by decide), e.f 11 (by decide)]
theorem lineB_0 (e : eq0 s s') (w : Nat) : lineB s' w = lineB s w := by
  have : srcw s' w = srcw s w := by
    funext q
    unfold srcw src sN
    rw [e.f 16 (by decide)]
  funext P q
  unfold lineB
  rw [this]
theorem knownB_0 (e : eq0 s s') (w : Nat) : knownB s' w = knownB s w := by
  funext B q
  unfold knownB sN
  rw [lineB_0 e, hasB_0 e, e.f 13 (by decide)]
theorem revB_0 (e : eq0 s s') (n w : Nat) : revB s' n w = revB s n w := by
  funext B q
  unfold revB
  rw [lineB_0 e, hasB_0 e, e.f 4 (by decide), e.f 7 (by decide)]
theorem overB_0 (e : eq0 s s') (w : Nat) : overB s' w = overB s w := by
  funext q t
  unfold overB
  rw [lineB_0 e, e.f 20 (by decide)]
theorem limB_0 (e : eq0 s s') (w : Nat) : limB s' w = limB s w := by
  funext q t
  unfold limB
  rw [lineB_0 e, e.f 18 (by decide)]
theorem doneS_0 (e : eq0 s s') (n w : Nat) : doneS s' n w = doneS s n w := by
  funext B q
  unfold doneS sN
  rw [lineB_0 e, hasB_0 e, e.f 4 (by decide), e.f 7 (by decide), e.f 33 (by decide), e.f 34 (by decide)]
theorem totB_0 (e : eq0 s s') (n w : Nat) : totB s' n w = totB s n w := by
  funext B q t
  unfold totB
  rw [lineB_0 e, doneS_0 e, e.f 19 (by decide)]
theorem deputyB_0 (e : eq0 s s') (n : Nat) : deputyB s' n = deputyB s n := by
  funext B k t
  unfold deputyB
  rw [hasB_0 e, e.f 4 (by decide), e.f 7 (by decide), e.f 8 (by decide), e.f 9 (by decide)]
theorem reasonS_0 (e : eq0 s s') (n w : Nat) : reasonS s' n w = reasonS s n w := by
  funext B k t p q kd amt off
  unfold reasonS
  rw [knownB_0 e, revB_0 e, overB_0 e, limB_0 e, totB_0 e, deputyB_0 e, e.f 15 (by decide), e.f 17 (by decide)]
/-- done -/
theorem cl_done (W : WR h X n w a c hr pa cp s m) (v u : Int32) : WOK h X m n w a c hr s (if (rg v 6 && rg u w) = true then 0 else 1) (doneS s n w v u.toNatClampNeg) (f_W_done h (some X) v u (some (X + 56))) := by
  have hb := W.b
  unfold f_W_done
  rw [rX W]
  refine wq_I ?_ rfl
  unfold f_X11_done
  rw [dt_if (mb_kiosk h v)]
  cases h0 : rg v 6 with
  | false => exact VOK.thrown W _
  | true =>
    rw [if_pos rfl, rX W, dt_if (mb_power W u), Bool.true_and]
    cases h1 : rg u w with
    | false => exact VOK.thrown W _
    | true =>
      obtain ⟨k, rfl, hk⟩ := rg_ex (by decide) h0
      obtain ⟨q, rfl, hq⟩ := rg_ex (by omega) h1
      obtain ⟨p1, p2, p3⟩ := k15 W
      obtain ⟨h2, e1, S, hS⟩ := look_read W.1.1 W.I W.N hk
      have W2 := W.seen S
      obtain ⟨q1, q2, q3⟩ := k15 W2
      rw [if_pos rfl, if_pos rfl, rd_P [18] p3 p1, rd_r [15] p2, do_eq e1, rd_P [18] q3 q1, to_power W2 hq, rd_r [15] q2, do_eq (q_done W2.1.1 W2.I hS hq), ia_nn (n := q) (by omega)]
      exact VOK.seen W S _
theorem md_done {M : Nat} (H : St h M s) (hI : Inv s n w a c hr) (v u : Int32) : ∃ r, ((if (rg v 6 && rg u w) = true then (0 : Int32) else 1) = 0 → r = doneS s n w v u.toNatClampNeg) ∧ Ok h M (nk_u2 s 0 0 (if (rg v 6 && rg u w) = true then 0 else 1)) r (f_X12_done h M v u) := by
  have hw := hI.1.2.2.2.1
  have e : f_X12_done h M v u = f_X12_done_c21 h M v u (if (rg v 6 && rg u w) = true then 0 else 1) (some M) := by
    unfold f_X12_done f_X12_done_c20
    rw [do_eq (m_isKiosk h v), ite_not]
    cases rg v 6 with
    | false => rfl
    | true =>
      rw [if_neg (by decide), w_rcv H, do_eq (m_isPower H hI.1.2.2.1 hw u), ite_not]
      cases rg u w <;> rfl
  rw [e]
  unfold f_X12_done_c21 f_X12_done_c37
  refine mq H (r := 0) (rg v 6 && rg u w) (fun _ h1 H1 => rfl) (fun hb h1 H1 => ?_)
  rw [Bool.and_eq_true] at hb
  obtain ⟨k, rfl, hk⟩ := rg_ex (by decide) hb.1
  obtain ⟨q, rfl, hq⟩ := rg_ex (by omega) hb.2
  have hI1 : Inv (nm h1 M) n w a c hr := by rw [H1.2]; exact hI.eq0 (eq0_u s 0)
  rw [if_neg (by decide), w_rcv H1, do_eq (m_done H1.1 hI1 (by_k hk) hq), H1.2, doneS_0 (eq0_u s 0), ia_nn (n := q) (by omega)]
/-- beyond -/
def beyS (s : Nat → Nat → Int32) (n w q : Nat) : Int32 := if 0 < doneS s n w (-1) q - s 19 q then doneS s n w (-1) q - s 19 q else 0
theorem cl_beyond (W : WR h X n w a c hr pa cp s m) (u : Int32) : WOK h X m n w a c hr s (if rg u w = true then 0 else 1) (beyS s n w u.toNatClampNeg) (f_W_beyond h (some X) u (some (X + 56))) := by
  have hb := W.b
  unfold f_W_beyond
  rw [rX W]
  refine wq_I ?_ rfl
  unfold f_X11_beyond
  rw [rX W, dt_if (mb_power W u)]
  cases h1 : rg u w with
  | false => exact VOK.thrown W _
  | true =>
    obtain ⟨q, rfl, hq⟩ := rg_ex (by omega) h1
    obtain ⟨p1, p2, p3⟩ := k15 W
    obtain ⟨h2, e1, S, hS⟩ := look_all W.1.1 W.I W.N
    have W2 := W.seen S
    obtain ⟨q1, q2, q3⟩ := k15 W2
    rw [if_pos rfl, if_pos rfl, to_power W hq, rd_P [18] p3 p1, rd_r [15] p2, do_eq e1, rd_P [18] q3 q1, rd_r [15] q2, do_eq (q_done W2.1.1 W2.I hS hq), rd_I [16] (by rw [pw_K W2.1.1 W2.I hq]; decide) (W2.1.1.2.2.2.2.2.1 q hq).2.2.2.2.2.2.1, ia_nn (n := q) (by omega)]
    exact VOK.seen W S _
theorem md_beyond {M : Nat} (H : St h M s) (hI : Inv s n w a c hr) (u : Int32) : ∃ r, ((if rg u w = true then (0 : Int32) else 1) = 0 → r = beyS s n w u.toNatClampNeg) ∧ Ok h M (nk_u2 s 0 0 (if rg u w = true then 0 else 1)) r (f_X12_beyond h M u) := by
  have hw := hI.1.2.2.2.1
  have e : f_X12_beyond h M u = f_X12_beyond_c14 h M u (if rg u w = true then 0 else 1) (some M) := by
    unfold f_X12_beyond
    rw [w_rcv H, do_eq (m_isPower H hI.1.2.2.1 hw u), ite_not]
    cases rg u w <;> rfl
  rw [e]
  unfold f_X12_beyond_c14 f_X12_beyond_c45
  refine mq H (r := 0) (rg u w) (fun _ h1 H1 => rfl) (fun hb h1 H1 => ?_)
  obtain ⟨q, rfl, hq⟩ := rg_ex (by omega) hb
  have hI1 : Inv (nm h1 M) n w a c hr := by rw [H1.2]; exact hI.eq0 (eq0_u s 0)
  rw [if_neg (by decide), w_rcv H1, do_eq (m_done H1.1 hI1 (Or.inl rfl) hq), H1.2, doneS_0 (eq0_u s 0), w_gP H1 19, w_aI H1 19 (by show q < 40; omega), u2_k _ _ _ _ _ (by decide), ia_nn (n := q) (by omega)]
  unfold beyS
  by_cases h9 : doneS s n w (-1) q - s 19 q ≤ 0
  · rw [if_pos h9, if_neg (Int32.not_lt.mpr h9)]
  · rw [if_neg h9, if_pos (Int32.not_le.mp h9)]
/-- isGood -/
def goodB (s : Nat → Nat → Int32) (n w : Nat) (B : Int32) (q : Nat) : Bool := knownB s w B q && !revB s n w B q && !overB s w q (s 1 0)
theorem q_goodAt (W : WR h X n w a c hr pa cp s m) {k q : Nat} (hk : k < 6) (hq : q < w) : ∃ h2, f_X11_isGoodAt h X (Int32.ofNat k) (some (pw s pa q)) = some (h2, b2i (goodB s n w (Int32.ofNat k) q)) ∧ SM X h h2 := by
  obtain ⟨p1, p2, p3⟩ := k15 W
  obtain ⟨h2, e1, S, hS⟩ := look_read W.1.1 W.I W.N hk
  have W2 := W.seen S
  obtain ⟨q1, q2, q3⟩ := k15 W2
  refine ⟨h2, ?_, S⟩
  unfold f_X11_isGoodAt f_X11_isGoodAt_c45 f_X11_isGoodAt_c46 goodB
  rw [rd_P [18] p3 p1, rd_r [15] p2, do_eq e1, rd_P [18] q3 q1, rd_r [15] q2, do_eq (q_known W2.1.1 W2.I hS hq), ite_not]
  cases h1 : knownB s w (Int32.ofNat k) q with
  | false => rfl
  | true =>
    rw [if_neg (by decide), rd_P [18] q3 q1, rd_r [15] q2, do_eq (q_rev W2.1.1 W2.I hS hq), ite_b]
    cases h3 : revB s n w (Int32.ofNat k) q with
    | true => rfl
    | false =>
      rw [if_neg (by decide), rd_I [18] q3 W2.1.2.1.1, rd_r [16] (by rw [pw_K W2.1.1 W2.I hq]; decide), do_eq (q_over W2.1.1 W2.I hq _), ite_b]
      cases overB s w q (s 1 0) <;> rfl
theorem cl_isGood (W : WR h X n w a c hr pa cp s m) (v u : Int32) : WOK h X m n w a c hr s (if (rg v 6 && rg u w) = true then 0 else 1) (b2i (goodB s n w v u.toNatClampNeg)) (f_W_isGood h (some X) v u (some (X + 56))) := by
  have hb := W.b
  unfold f_W_isGood
  rw [rX W]
  refine wq_Z ?_ rfl
  unfold f_X11_isGood
  rw [dt_if (mb_kiosk h v)]
  cases h0 : rg v 6 with
  | false => exact VOK.thrown W _
  | true =>
    rw [if_pos rfl, rX W, dt_if (mb_power W u), Bool.true_and]
    cases h1 : rg u w with
    | false => exact VOK.thrown W _
    | true =>
      obtain ⟨k, rfl, hk⟩ := rg_ex (by decide) h0
      obtain ⟨q, rfl, hq⟩ := rg_ex (by omega) h1
      obtain ⟨h2, e1, S⟩ := q_goodAt W hk hq
      rw [if_pos rfl, if_pos rfl, to_power W hq, rX W, do_eq e1, nk_zr_b, ia_nn (n := q) (by omega)]
      exact VOK.seen W S _
theorem md_isGood {M : Nat} (H : St h M s) (hI : Inv s n w a c hr) (v u : Int32) : ∃ r, ((if (rg v 6 && rg u w) = true then (0 : Int32) else 1) = 0 → r = b2i (goodB s n w v u.toNatClampNeg)) ∧ Ok h M (nk_u2 s 0 0 (if (rg v 6 && rg u w) = true then 0 else 1)) r (f_X12_isGood h M v u) := by
  have hw := hI.1.2.2.2.1
  have e : f_X12_isGood h M v u = f_X12_isGood_c21 h M v u (if (rg v 6 && rg u w) = true then 0 else 1) (some M) := by
    unfold f_X12_isGood f_X12_isGood_c20
    rw [do_eq (m_isKiosk h v), ite_not]
    cases rg v 6 with
    | false => rfl
    | true =>
      rw [if_neg (by decide), w_rcv H, do_eq (m_isPower H hI.1.2.2.1 hw u), ite_not]
      cases rg u w <;> rfl
  rw [e]
  unfold f_X12_isGood_c21 f_X12_isGood_c40 f_X12_isGood_c41
  refine mq H (r := 0) (rg v 6 && rg u w) (fun _ h1 H1 => rfl) (fun hb h1 H1 => ?_)
  rw [Bool.and_eq_true] at hb
  obtain ⟨k, rfl, hk⟩ := rg_ex (by decide) hb.1
  obtain ⟨q, rfl, hq⟩ := rg_ex (by omega) hb.2
  have hI1 : Inv (nm h1 M) n w a c hr := by rw [H1.2]; exact hI.eq0 (eq0_u s 0)
  rw [if_neg (by decide), w_rcv H1, do_eq (m_goodAt H1.1 hI1 (by_k hk) hq), H1.2, knownB_0 (eq0_u s 0), revB_0 (eq0_u s 0), overB_0 (eq0_u s 0), u2_k _ _ _ _ _ (by decide), ia_nn (n := q) (by omega)]
  show _ = some (h1, b2i (goodB s n w (Int32.ofNat k) q))
  unfold goodB
  cases (knownB s w (Int32.ofNat k) q && !revB s n w (Int32.ofNat k) q && !overB s w q (s 1 0)) <;> rfl
end QQ
