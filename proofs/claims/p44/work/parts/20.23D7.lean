section QQ
variable {h : nk_H} {X n w a c hr : Nat} {pa cp : Nat → Nat} {s s' m : Nat → Nat → Int32}
/-- the reason against an act, by the news of its piece -/
def faultS (s : Nat → Nat → Int32) (n w e : Nat) : Int32 := reasonS s n w (Int32.ofNat (6 + sN s 32 e)) (s 5 (sN s 32 e)) (s 6 (sN s 32 e)) (s 33 (6 * e)) (sN s 33 (6 * e + 1)) (s 33 (6 * e + 2)) (s 34 e) (s 33 (6 * e + 4))
theorem q_byMail (W : WR h X n w a c hr pa cp s m) {e : Nat} (he : e < a) : ∃ h2, f_X11_reasonByMail h X (some (ac s pa e)) = some (h2, faultS s n w e) ∧ SM X h h2 := by
  have hb := W.b
  obtain ⟨p1, p2, p3⟩ := k15 W
  obtain ⟨kk, hp⟩ := act_K W he
  obtain ⟨h2, e1, S, hS⟩ := look_readable W.1.1 W.I W.N hp
  have W2 := W.seen S
  obtain ⟨q1, q2, q3⟩ := k15 W2
  obtain ⟨kk2, -⟩ := act_K W2 he
  obtain ⟨a1, a2, a3, -⟩ := W2.1.1.2.2.2.2.2.2.2.2.1 e he
  obtain ⟨b1, b2, b3, b4, b5, b6, b7, b8, b9⟩ := W2.1.1.2.2.2.2.2.2.2.2.2 e he
  obtain ⟨-, ⟨q, hq, eq⟩, ⟨kd, hkd, ekd⟩, ⟨ob, eo⟩, -⟩ := W.I.2.2.2.2.1 e he
  have sq : sN s 33 (6 * e + 1) = q := sN_of eq (by omega)
  have hre := q_reason W2.1.1 W2.I hS hq a3 hkd eo b4 b5 b6 (b7.trans ekd) b8 b9
  refine ⟨h2, ?_, S⟩
  have e1' : f_X7_lookAtReadable h (X + 4) (some (ac s pa e)) = some (h2, ()) := e1
  unfold f_X11_reasonByMail
  rw [rd_P [18] p3 p1, rd_r [15] p2, do_eq e1', rd_P [18] q3 q1, rd_P [8] (by rw [kk2]; decide) a1, rd_P [8] (by rw [kk2]; decide) a2, rd_r [15] q2, sq, do_eq hre]
  unfold faultS
  rw [sq, ekd]
theorem cl_fault (W : WR h X n w a c hr pa cp s m) (v r : Int32) : WOK h X m n w a c hr s (if recB s v r = true then 0 else 1) (faultS s n w (acS s v r)) (f_W_fault h (some X) v r (some (X + 56))) := by
  have hb := W.b
  unfold f_W_fault
  rw [rX W]
  refine wq_I ?_ rfl
  unfold f_X11_fault
  rw [rX W, dt_if (mb_record W v r)]
  cases h0 : recB s v r with
  | false => exact VOK.thrown W _
  | true =>
    obtain ⟨k, i, e, rfl, hk, rfl, hi, hir, he, ee, es⟩ := rec_ex W.I h0
    have ea : acS s (Int32.ofNat k) (Int32.ofNat i) = e := by unfold acS; rw [ia_nn (by omega), ia_nn (by omega)]; exact es
    obtain ⟨h2, e1, S⟩ := q_byMail W he
    rw [if_pos rfl, if_pos rfl, to_act W hk hi he es, rX W, do_eq e1, ea]
    exact VOK.seen W S _
theorem m_faultOf {M : Nat} (H : St h M s) (hI : Inv s n w a c hr) {e : Nat} (he : e < a) : f_X12_faultOf h M (Int32.ofNat e) = some (h, faultS s n w e) := by
  have hn := hI.1.2.1
  have hw := hI.1.2.2.2.1
  have ha := hI.1.2.2.2.2.2.2.1
  obtain ⟨⟨p, hp, ep, -⟩, ⟨q, hq, eq⟩, -⟩ := hI.2.2.2.2.1 e he
  have sq : sN s 33 (6 * e + 1) = q := sN_of eq (by omega)
  have sp : sN s 32 e = p := sN_of ep (by omega)
  have hI1 : Inv (nm h M) n w a c hr := by rw [H.2]; exact hI
  have hB : byok n (6 + Int32.ofNat p) := Or.inr (Or.inr ⟨p, hp, by rw [show (6 : Int32) = Int32.ofNat 6 from rfl, ia_add]⟩)
  have hre := fun k0 t person kind amt off => m_reason H.1 hI1 hB k0 t person kind amt off hq
  unfold f_X12_faultOf
  have e60 : (6 : Int32) * Int32.ofNat e = Int32.ofNat (6 * e) := by rw [show (6 : Int32) = Int32.ofNat 6 from rfl, ia_mul]
  have e61 : Int32.ofNat (6 * e) + 1 = Int32.ofNat (6 * e + 1) := ia_1 _
  have e62 : Int32.ofNat (6 * e) + 2 = Int32.ofNat (6 * e + 2) := by rw [show (2 : Int32) = Int32.ofNat 2 from rfl, ia_add]
  have e64 : Int32.ofNat (6 * e) + 4 = Int32.ofNat (6 * e + 4) := by rw [show (4 : Int32) = Int32.ofNat 4 from rfl, ia_add]
  rw [w_gP H 32, w_aI H 32 (by show e < 160; omega), ep, w_gP H 5, w_aI H 5 (by show p < 160; omega), w_gP H 6, w_aI H 6 (by show p < 160; omega), e60, w_gP H 33, w_aI H 33 (by show 6 * e < 960; omega), w_gP H 33, e61, w_aI H 33 (by show 6 * e + 1 < 960; omega), w_gP H 33, e62, w_aI H 33 (by show 6 * e + 2 < 960; omega), w_gP H 34, w_aI H 34 (by show e < 160; omega), w_gP H 33, e64, w_aI H 33 (by show 6 * e + 4 < 960; omega), w_rcv H, eq, do_eq (hre _ _ _ _ _ _), H.2]
  unfold faultS
  rw [sp, sq, show (6 : Int32) = Int32.ofNat 6 from rfl, ia_add]
theorem faultS_0 (e : eq0 s s') (n w x : Nat) : faultS s' n w x = faultS s n w x := by
  unfold faultS
  rw [reasonS_0 e, e.esN (by decide), e.esN (by decide), e 5 _ (by decide), e 6 _ (by decide), e 33 _ (by decide), e 33 _ (by decide), e 33 _ (by decide), e 34 _ (by decide)]
theorem md_fault {M : Nat} (H : St h M s) (hI : Inv s n w a c hr) (v r : Int32) : ∃ r9, ((if recB s v r = true then (0 : Int32) else 1) = 0 → r9 = faultS s n w (acS s v r)) ∧ Ok h M (nk_u2 s 0 0 (if recB s v r = true then 0 else 1)) r9 (f_X12_fault h M v r) := by
  have ha : a ≤ 160 := by have := hI.1.2.2.2.2.2.2.1; have := hI.1.2.1; omega
  unfold f_X12_fault f_X12_fault_c29
  rw [w_rcv H]
  refine mqg (recB s v r) (w_isThere H hI.2.2.2.2.2.1 ha v r) (fun _ h1 H1 => rfl) (fun hb h1 H1 => ?_)
  obtain ⟨k, i, e, rfl, hk, rfl, hi, hir, he, ee, es⟩ := rec_ex hI hb
  have ea : acS s (Int32.ofNat k) (Int32.ofNat i) = e := by unfold acS; rw [ia_nn (by omega), ia_nn (by omega)]; exact es
  have hI1 := hI.eq0 (eq0_u s 0)
  rw [if_neg (by decide), m_act H1 hk (by omega) (by rw [u2_k _ _ _ _ _ (by decide)]; exact ee), w_rcv H1, do_eq (m_faultOf H1 hI1 he), faultS_0 (eq0_u s 0), ea]
/-- mail -/
def unrB (s : Nat → Nat → Int32) (k j : Nat) : Bool := !decide (s 10 (160 * k + j) = -1) && !decide (s 11 (160 * k + j) = 1)
def unrS (s : Nat → Nat → Int32) (n k : Nat) : Int32 := sumB (fun j => b2i (unrB s k j)) n
theorem q_inMail (W : WR h X n w a c hr pa cp s m) {k j : Nat} (hk : k < 6) (hj : j < n) : f_X8_isInMail h (pa j) (Int32.ofNat k) = some (h, b2i (unrB s k j)) := by
  have kj := pa_K W.1.1 W.I hj
  obtain ⟨-, -, -, p3, p4, -⟩ := W.1.1.2.2.2.2.1 j hj
  have e3 := p3 k (by omega)
  have e4 := p4 k (by omega)
  rw [decide_eq_true hk, Bool.true_and] at e3 e4
  unfold f_X8_isInMail
  rw [rd_I _ kj rfl, rd_I _ kj rfl, do_eq (cls_hasBit h _ hk), gb_and, gb_not _ (by omega), e3, e4, nk_zr_b]
  rfl
theorem q_unread (W : WR h X n w a c hr pa cp s m) {k : Nat} (hk : k < 6) : f_X7_unread h (X + 4) (Int32.ofNat k) = some (h, unrS s n k) := by
  have hn := W.b.1
  obtain ⟨k1, k2, -⟩ := W.1.1.1.2.2.2.2.2.2.2.1
  have L := W.1.1.2.1
  unfold f_X7_unread
  have key := loop_sum (g := fun j => b2i (unrB s k j)) (N := n) (F := fun k9 acc z => f_X7_unread_b4 k9 h (X + 4) (Int32.ofNat k) acc z) (A := fun acc => some (h, acc)) (fun k9 i acc hi => by
      show f_X7_unread_c4 (f_X7_unread_b4 k9) h (X + 4) (Int32.ofNat k) acc (Int32.ofNat i) = _
      unfold f_X7_unread_c4 f_X7_unread_c36
      rw [rd_P [15] (by rw [k1]; decide) k2, rd_r [7] (by rw [L.1]; decide), do_eq (ls_size L)]
      by_cases h1 : n ≤ i
      · rw [if_pos ((ia_le (by omega) (by omega)).mpr h1), if_pos h1]
      · rw [if_neg (fun e => h1 ((ia_le (by omega) (by omega)).mp e)), if_neg h1, rd_P [15] (by rw [k1]; decide) k2, rd_r [7] (by rw [L.1]; decide), do_eq (ls_get L (i := i) (by omega)), q_piece W.1.1 W.I (j := i) (by omega), do_eq (q_inMail W hk (j := i) (by omega)), ite_not, ia_1]
        cases unrB s k i with
        | false => rw [if_pos rfl]; simp [b2i]
        | true => rw [if_neg (by decide)]; rfl) 4096 0 (by omega) (by omega)
  exact key
theorem cl_mail (W : WR h X n w a c hr pa cp s m) (v : Int32) : WOK h X m n w a c hr s (if rg v 6 = true then 0 else 1) (unrS s n v.toNatClampNeg) (f_W_mail h (some X) v (some (X + 56))) := by
  unfold f_W_mail
  rw [rX W]
  refine wq_I (VOK.iff W ?_) rfl
  obtain ⟨p1, p2, p3⟩ := k15 W
  unfold f_X11_mail
  rw [dt_if (mb_kiosk h v)]
  cases h0 : rg v 6 with
  | false => rfl
  | true =>
    obtain ⟨k, rfl, hk⟩ := rg_ex (by decide) h0
    rw [if_pos rfl, if_pos rfl, rd_P [18] p3 p1, rd_r [15] p2, do_eq (q_unread W hk), ia_nn (by omega)]
theorem m_unread {M : Nat} (H : St h M s) (hI : Inv s n w a c hr) {k : Nat} (hk : k < 6) : f_X12_unread h M (Int32.ofNat k) = some (h, unrS s n k) := by
  have hn := hI.1.2.1
  unfold f_X12_unread
  have key := loop_sum (g := fun j => b2i (unrB s k j)) (N := n) (F := fun k9 acc z => f_X12_unread_b4 k9 h M (Int32.ofNat k) acc z) (A := fun acc => some (h, acc)) (fun k9 i acc hi => by
      show f_X12_unread_c4 (f_X12_unread_b4 k9) h M (Int32.ofNat k) acc (Int32.ofNat i) = _
      unfold f_X12_unread_c4 f_X12_unread_c48 f_X12_unread_c49
      rw [w_gI H 3, hI.1.1]
      by_cases h1 : n ≤ i
      · rw [if_pos ((ia_le (by omega) (by omega)).mpr h1), if_pos h1]
      · rw [if_neg (fun e => h1 ((ia_le (by omega) (by omega)).mp e)), if_neg h1, w_gP H 10, ia_160, w_aI H 10 (by show 160 * k + i < 960; omega), w_gP H 11, w_aZ H 11 (by show 160 * k + i < 960; omega), ia_1]
        unfold unrB
        by_cases h2 : s 10 (160 * k + i) = -1
        · rw [if_pos h2, decide_eq_true h2]; rfl
        · rw [if_neg h2, decide_eq_false h2]
          rcases (hI.2.2.1 k hk i (by omega)).2 with e | ⟨e, -⟩
          · rw [e]; rfl
          · rw [e]; rfl) 4096 0 (by omega) (by omega)
  exact key
theorem unrS_0 (e : eq0 s s') (n k : Nat) : unrS s' n k = unrS s n k := by
  unfold unrS unrB
  rw [e.f 10 (by decide), e.f 11 (by decide)]
theorem md_mail {M : Nat} (H : St h M s) (hI : Inv s n w a c hr) (v : Int32) : ∃ r, ((if rg v 6 = true then (0 : Int32) else 1) = 0 → r = unrS s n v.toNatClampNeg) ∧ Ok h M (nk_u2 s 0 0 (if rg v 6 = true then 0 else 1)) r (f_X12_mail h M v) := by
  have e : f_X12_mail h M v = f_X12_mail_c13 h M v (if rg v 6 = true then 0 else 1) (some M) := by
    unfold f_X12_mail
    rw [do_eq (m_isKiosk h v), ite_not]
    cases rg v 6 <;> rfl
  rw [e]
  unfold f_X12_mail_c13 f_X12_mail_c28
  refine mq H (r := 0) (rg v 6) (fun _ h1 H1 => rfl) (fun hb h1 H1 => ?_)
  obtain ⟨k, rfl, hk⟩ := rg_ex (by decide) hb
  rw [if_neg (by decide), w_rcv H1, do_eq (m_unread H1 (hI.eq0 (eq0_u s 0)) hk), unrS_0 (eq0_u s 0), ia_nn (by omega)]
end QQ
