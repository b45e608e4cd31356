section QQ
variable {h : nk_H} {X n w a c hr : Nat} {pa cp : Nat → Nat} {s s' m : Nat → Nat → Int32}
theorem mqg {M : Nat} (b : Bool) {val : Int32} {g : Option (nk_H × Int32)} {K : nk_H → Int32 → Option (nk_H × Int32)} (g0 : Ok h M (nk_u2 s 0 0 (if b = true then 0 else 1)) (b2i b) g) (k0 : b = false → ∀ h1, St h1 M (nk_u2 s 0 0 1) → K h1 0 = some (h1, 0)) (k1 : b = true → ∀ h1, St h1 M (nk_u2 s 0 0 0) → K h1 1 = some (h1, val)) :
    ∃ r, ((if b = true then (0 : Int32) else 1) = 0 → r = val) ∧ Ok h M (nk_u2 s 0 0 (if b = true then 0 else 1)) r (nk_do g K) := by
  cases b with
  | true =>
    refine ⟨val, fun _ => rfl, w_do g0 (fun h1 H1 => ?_)⟩
    rw [show b2i true = 1 from rfl, k1 rfl h1 H1]
    exact Ok.here H1
  | false =>
    refine ⟨0, fun e => absurd e (by decide), w_do g0 (fun h1 H1 => ?_)⟩
    rw [show b2i false = 0 from rfl, k0 rfl h1 H1]
    exact Ok.here H1
theorem w_there {M : Nat} (H : St h M s) {K : nk_H → Int32 → Option (nk_H × Int32)} (b : Bool) (hK : K = fun h2 x3 => nk_zr x3 (h2, x3)) : Ok h M (nk_u2 s 0 0 (if b = true then 0 else 1)) (b2i b) ((nk_rcv [19] h (some M)).bind fun a1 => nk_do (f_X12_holds h a1 (if b = true then 0 else 1)) K) := by
  subst hK
  rw [w_rcv H]
  refine w_do (w_holds H _) (fun h1 H1 => ?_)
  rw [show b2i (decide ((if b = true then (0 : Int32) else 1) = 0)) = b2i b by cases b <;> rfl, nk_zr_b]
  exact Ok.here H1
theorem w_isPiece {M : Nat} (H : St h M s) (hn3 : s 3 0 = Int32.ofNat n) (hn : n ≤ 160) (v u : Int32) : Ok h M (nk_u2 s 0 0 (if (rg v 6 && rg u n) = true then 0 else 1)) (b2i (rg v 6 && rg u n)) (f_X12_isPiece h M v u) := by
  have e : f_X12_isPiece h M v u = f_X12_isPiece_c27 h (if (rg v 6 && rg u n) = true then 0 else 1) (some M) := by
    unfold f_X12_isPiece f_X12_isPiece_c26
    rw [do_eq (m_isKiosk h v), ite_not]
    cases rg v 6 with
    | false => rfl
    | true =>
      rw [if_neg (by decide), w_gI H 3, hn3, do_eq (in_rg h u n (by omega)), ite_not]
      cases rg u n <;> rfl
  rw [e]
  exact w_there H _ rfl
theorem w_isThere {M : Nat} (H : St h M s) {a : Nat} (hI : I5 s a) (ha : a ≤ 160) (v r : Int32) : Ok h M (nk_u2 s 0 0 (if recB s v r = true then 0 else 1)) (b2i (recB s v r)) (f_X12_isThere h M v r) := by
  have e : f_X12_isThere h M v r = f_X12_isThere_c15 h (if recB s v r = true then 0 else 1) (some M) := by
    unfold f_X12_isThere
    rw [w_rcv H, do_eq (m_isRecord H hI ha v r), ite_not]
    cases recB s v r <;> rfl
  rw [e]
  exact w_there H _ rfl
theorem WR.b (W : WR h X n w a c hr pa cp s m) : n ≤ 160 ∧ w ≤ 40 ∧ a ≤ 160 ∧ c ≤ 12 ∧ hr ≤ 400 := by
  obtain ⟨i1, i2, i3, i4, i5, i6, i7, i8, i9, i10, i11⟩ := W.2.2.2.2.2.1
  exact ⟨i2, i4, by omega, i9, i11⟩
theorem WR.I (W : WR h X n w a c hr pa cp s m) : Inv s n w a c hr := W.2.2.2.2.2
/-- records of a kiosk -/
theorem rec_ex (hI : Inv s n w a c hr) {v r : Int32} (hb : recB s v r = true) : ∃ k i e, v = Int32.ofNat k ∧ k < 6 ∧ r = Int32.ofNat i ∧ i < sN s 30 k ∧ sN s 30 k ≤ a ∧ e < a ∧ s 31 (160 * k + i) = Int32.ofNat e ∧ sN s 31 (160 * k + i) = e := by
  have ha : a ≤ 160 := by have := hI.1.2.2.2.2.2.2.1; have := hI.1.2.1; omega
  unfold recB at hb
  rw [Bool.and_eq_true] at hb
  obtain ⟨k, rfl, hk⟩ := rg_ex (by decide) hb.1
  obtain ⟨x, ex, hx, hact⟩ := hI.2.2.2.2.2.1.1 k hk
  have h2 := hb.2
  rw [ia_nn (by omega), sN_of ex (by omega)] at h2
  obtain ⟨i, rfl, hi⟩ := rg_ex (by omega) h2
  obtain ⟨e, he, ee⟩ := hact i hi
  exact ⟨k, i, e, rfl, hk, rfl, by rw [sN_of ex (by omega)]; exact hi, by rw [sN_of ex (by omega)]; exact hx, he, ee, sN_of ee (by omega)⟩
theorem act_K (W : WR h X n w a c hr pa cp s m) {e : Nat} (he : e < a) : nk_K h (ac s pa e) = 8 ∧ sN s 32 e < n := by
  have hn := W.I.1.2.1
  obtain ⟨⟨p, hp, e1, e2, -⟩, -⟩ := W.I.2.2.2.2.1 e he
  have e3 : sN s 32 e = p := sN_of e1 (by omega)
  have := (W.1.1.2.2.2.1 p hp).1
  rw [e2] at this
  unfold ac
  rw [e3]
  exact ⟨this, hp⟩
theorem q_actOf (W : WR h X n w a c hr pa cp s m) {k i e : Nat} (hk : k < 6) (hi : i < sN s 30 k) (he : e < a) (ee : sN s 31 (160 * k + i) = e) : f_X1_actOf h (X + 9 + 2 * k) (Int32.ofNat i) = some (h, some (ac s pa e)) := by
  obtain ⟨f1, f2, f3, L⟩ := ch_at W hk
  unfold f_X1_actOf
  rw [rd_P [9] (by rw [f2]; decide) f3, rd_r [7] (by rw [L.1]; decide), do_eq (ls_get L hi), ee, rd_c [8] (by rw [(act_K W he).1]; decide)]
theorem q_pieceAt (W : WR h X n w a c hr pa cp s m) {j : Nat} (hj : j < n) : f_X7_pieceAt h (X + 4) (Int32.ofNat j) = some (h, some (pa j)) := by
  obtain ⟨k1, k2, -⟩ := W.1.1.1.2.2.2.2.2.2.2.1
  have L := W.1.1.2.1
  unfold f_X7_pieceAt
  rw [rd_P [15] (by rw [k1]; decide) k2, rd_r [7] (by rw [L.1]; decide), do_eq (ls_get L hj), rd_c _ (pa_K W.1.1 W.I hj)]
/-- the way to a record's act -/
theorem to_act {α : Type} (W : WR h X n w a c hr pa cp s m) {k i e : Nat} (hk : k < 6) (hi : i < sN s 30 k) (he : e < a) (ee : sN s 31 (160 * k + i) = e) (K : nk_H → Option Nat → Option (nk_H × α)) : ((nk_gP [18] 3 h (some X)).bind fun x4 => (nk_aP 3 h x4 (Int32.ofNat k)).bind fun x5 => (nk_rcv [9] h x5).bind fun a6 => nk_do (f_X1_actOf h a6 (Int32.ofNat i)) K) = K h (some (ac s pa e)) := by
  obtain ⟨k1, -, -, -, k2, -, -, -, ⟨k3, k4⟩, -⟩ := W.1.1.1
  obtain ⟨f1, f2, f3, L⟩ := ch_at W hk
  rw [rd_P [18] (by rw [k1]; decide) k2, rd_q 3 k3 (by omega) (by omega) f1, rd_r [9] (by rw [f2]; decide), do_eq (q_actOf W hk hi he ee)]
/-- came -/
theorem cl_came (W : WR h X n w a c hr pa cp s m) (v u : Int32) : WOK h X m n w a c hr s (if (rg v 6 && rg u n) = true then 0 else 1) (s 10 (160 * v.toNatClampNeg + u.toNatClampNeg)) (f_W_came h (some X) v u (some (X + 56))) := by
  have hb := W.b
  unfold f_W_came
  rw [rX W]
  refine wq_I (VOK.iff W ?_) rfl
  obtain ⟨k1, -, k2, -, -, -, -, ⟨k3, -⟩, -⟩ := W.1.1.1
  unfold f_X11_came
  rw [dt_if (mb_kiosk h v)]
  cases h0 : rg v 6 with
  | false => rfl
  | true =>
    rw [if_pos rfl, rX W, dt_if (mb_piece W u), Bool.true_and]
    cases h1 : rg u n with
    | false => rfl
    | true =>
      obtain ⟨k, rfl, hk⟩ := rg_ex (by decide) h0
      obtain ⟨j, rfl, hj⟩ := rg_ex (by omega) h1
      obtain ⟨-, p5, p6, p7⟩ := W.1.1.2.2.2.1 j hj
      have kj := pa_K W.1.1 W.I hj
      rw [if_pos rfl, if_pos rfl, rd_P [18] (by rw [k1]; decide) k2, rd_r [15] (by rw [k3]; decide), do_eq (q_pieceAt W hj), rd_P _ kj p5, rd_a 1 p6 (by omega) (by omega) ((W.1.1.2.2.2.2.1 j hj).2.2.2.2.2 k hk), ia_nn (by omega), ia_nn (by omega)]
theorem md_came {M : Nat} (H : St h M s) (hI : Inv s n w a c hr) (v u : Int32) : ∃ r, ((if (rg v 6 && rg u n) = true then (0 : Int32) else 1) = 0 → r = s 10 (160 * v.toNatClampNeg + u.toNatClampNeg)) ∧ Ok h M (nk_u2 s 0 0 (if (rg v 6 && rg u n) = true then 0 else 1)) r (f_X12_came h M v u) := by
  have hn := hI.1.2.1
  unfold f_X12_came f_X12_came_c25
  rw [w_rcv H]
  refine mqg (rg v 6 && rg u n) (w_isPiece H hI.1.1 hn v u) (fun _ h1 H1 => rfl) (fun hb h1 H1 => ?_)
  rw [Bool.and_eq_true] at hb
  obtain ⟨k, rfl, hk⟩ := rg_ex (by decide) hb.1
  obtain ⟨j, rfl, hj⟩ := rg_ex (by omega) hb.2
  rw [if_neg (by decide), w_gP H1 10, ia_160, w_aI H1 10 (by show 160 * k + j < 960; omega), u2_k _ _ _ _ _ (by decide), ia_nn (by omega), ia_nn (by omega)]
theorem md_cameByLinks {M : Nat} (H : St h M s) (hI : Inv s n w a c hr) (v u : Int32) : ∃ r, ((if (rg v 6 && rg u n) = true then (0 : Int32) else 1) = 0 → r = s 10 (160 * v.toNatClampNeg + u.toNatClampNeg)) ∧ Ok h M (nk_u2 s 0 0 (if (rg v 6 && rg u n) = true then 0 else 1)) r (f_X12_cameByLinks h M v u) := md_came H hI v u
/-- isRead -/
theorem cl_isRead (W : WR h X n w a c hr pa cp s m) (v u : Int32) : WOK h X m n w a c hr s (if (rg v 6 && rg u n) = true then 0 else 1) (b2i (decide (s 11 (160 * v.toNatClampNeg + u.toNatClampNeg) = 1))) (f_W_isRead h (some X) v u (some (X + 56))) := by
  have hb := W.b
  unfold f_W_isRead
  rw [rX W]
  refine wq_Z (VOK.iff W ?_) rfl
  obtain ⟨k1, -, k2, -, -, -, -, ⟨k3, -⟩, -⟩ := W.1.1.1
  unfold f_X11_isRead
  rw [dt_if (mb_kiosk h v)]
  cases h0 : rg v 6 with
  | false => rfl
  | true =>
    rw [if_pos rfl, rX W, dt_if (mb_piece W u), Bool.true_and]
    cases h1 : rg u n with
    | false => rfl
    | true =>
      obtain ⟨k, rfl, hk⟩ := rg_ex (by decide) h0
      obtain ⟨j, rfl, hj⟩ := rg_ex (by omega) h1
      have kj := pa_K W.1.1 W.I hj
      have p4 := (W.1.1.2.2.2.2.1 j hj).2.2.2.2.1 k (by omega)
      rw [decide_eq_true hk, Bool.true_and] at p4
      rw [if_pos rfl, if_pos rfl, rd_P [18] (by rw [k1]; decide) k2, rd_r [15] (by rw [k3]; decide), do_eq (q_pieceAt W hj), rd_I _ kj rfl, do_eq (cls_hasBit h _ hk), p4, nk_zr_b, ia_nn (by omega), ia_nn (by omega)]
theorem md_isRead {M : Nat} (H : St h M s) (hI : Inv s n w a c hr) (v u : Int32) : ∃ r, ((if (rg v 6 && rg u n) = true then (0 : Int32) else 1) = 0 → r = b2i (decide (s 11 (160 * v.toNatClampNeg + u.toNatClampNeg) = 1))) ∧ Ok h M (nk_u2 s 0 0 (if (rg v 6 && rg u n) = true then 0 else 1)) r (f_X12_isRead h M v u) := by
  have hn := hI.1.2.1
  unfold f_X12_isRead f_X12_isRead_c28 f_X12_isRead_c29
  rw [w_rcv H]
  refine mqg (rg v 6 && rg u n) (w_isPiece H hI.1.1 hn v u) (fun _ h1 H1 => rfl) (fun hb h1 H1 => ?_)
  rw [Bool.and_eq_true] at hb
  obtain ⟨k, rfl, hk⟩ := rg_ex (by decide) hb.1
  obtain ⟨j, rfl, hj⟩ := rg_ex (by omega) hb.2
  rw [if_neg (by decide), w_gP H1 11, ia_160, w_aZ H1 11 (by show 160 * k + j < 960; omega), u2_k _ _ _ _ _ (by decide), ia_nn (by omega), ia_nn (by omega)]
  rcases (hI.2.2.1 k hk j (by omega)).2 with e | ⟨e, -⟩
  · rw [e]; rfl
  · rw [e]; rfl
end QQ
