section QQ
variable {h : nk_H} {X n w a c hr : Nat} {pa cp : Nat → Nat} {s s' m : Nat → Nat → Int32}
/-- copies: whether a place is there -/
def plB (s : Nat → Nat → Int32) (c : Nat) (v r : Int32) : Bool := rg v c && rg r (sN s 40 v.toNatClampNeg)
theorem co_I (hI : Inv s n w a c hr) {q : Nat} (hq : q < c) : q < 12 ∧ ∃ k f z b, k < 6 ∧ b < 64 ∧ s 38 q = Int32.ofNat k ∧ s 39 q = Int32.ofNat f ∧ s 40 q = Int32.ofNat z ∧ sN s 40 q = z ∧ s 41 q = Int32.ofNat b ∧ 1 ≤ z ∧ f + z ≤ sN s 30 k ∧ sN s 30 k ≤ a ∧ a ≤ 160 ∧ ∀ i, i < sN s 30 k → ∃ e, e < a ∧ s 31 (160 * k + i) = Int32.ofNat e := by
  have ha : a ≤ 160 := by have := hI.1.2.2.2.2.2.2.1; have := hI.1.2.1; omega
  have hc := hI.1.2.2.2.2.2.2.2.2.1
  obtain ⟨⟨k, f, z, hk, e1, e2, e3, hz, hf⟩, b, hb, e4⟩ := hI.2.2.2.2.2.2.1 q hq
  obtain ⟨x, ex, hx, hact⟩ := hI.2.2.2.2.2.1.1 k hk
  have er : sN s 30 k = x := sN_of ex (by omega)
  refine ⟨by omega, k, f, z, b, hk, hb, e1, e2, e3, sN_of e3 (by omega), e4, hz, hf, by omega, ha, fun i hi => hact i (by omega)⟩
theorem mb_place (W : WR h X n w a c hr pa cp s m) (v r : Int32) : f_X11_mustBePlace h X v r = if plB s c v r = true then some (h, .inl ()) else xx h nk_IX := by
  have hb := W.b
  unfold f_X11_mustBePlace f_X11_mustBePlace_c27 plB
  rw [rd_r [18] (by rw [W.1.1.1.1]; decide), dt_if (mb_copy W v)]
  cases h0 : rg v c with
  | false => rfl
  | true =>
    obtain ⟨q, rfl, hq⟩ := rg_ex (by omega) h0
    have K9 := (W.1.2.2.2.1 q hq).2.2.2.2.1
    obtain ⟨hq2, k, f, z, b, hk, hb2, e1, e2, e3, ez, -⟩ := co_I W.I hq
    rw [if_pos rfl, Bool.true_and, ia_nn (by omega)]
    unfold rg
    by_cases h1 : r < 0
    · rw [if_pos h1, decide_eq_true h1]; rfl
    · rw [if_neg h1, decide_eq_false h1, to_copy W hq, rd_I [10] (by rw [K9]; decide) (W.1.2.2.2.2.1 q hq).2.2.1, e3, ez]
      by_cases h2 : r < Int32.ofNat z
      · rw [if_pos h2, decide_eq_true h2]; rfl
      · rw [if_neg h2, decide_eq_false h2]; rfl
theorem q_leavesOut (W : WR h X n w a c hr pa cp s m) {q p : Nat} (hq : q < c) (hp : p < 6) : f_X2_leavesOut h (cp q) (Int32.ofNat p) = some (h, b2i (gb (s 41 q) p)) := by
  have K9 := (W.1.2.2.2.1 q hq).2.2.2.2.1
  unfold f_X2_leavesOut
  rw [rd_I [10] (by rw [K9]; decide) (W.1.2.2.2.2.1 q hq).2.2.2.1, do_eq (cls_hasBit h _ hp), nk_zr_b]
theorem m_isLeftOut {M : Nat} (H : St h M s) {q p : Nat} (hq : q < 12) (hp : p < 6) : f_X12_isLeftOut h M (Int32.ofNat q) (Int32.ofNat p) = some (h, b2i (gb (s 41 q) p)) := by
  unfold f_X12_isLeftOut f_X12_isLeftOut_c19
  rw [w_gP H 41, w_aI H 41 (by show q < 12; omega)]
  cases e : gb (s 41 q) p with
  | true => rw [if_pos ((gb_mod1 _ hp).mpr e)]; rfl
  | false => rw [if_neg (fun e9 => by rw [(gb_mod1 _ hp).mp e9] at e; cases e)]; rfl
theorem m_isCopied {M : Nat} (H : St h M s) (hI : Inv s n w a c hr) (v r p : Int32) : f_X12_isCopied h M v r p = some (h, b2i (plB s c v r && rg p 6)) := by
  have hc := hI.1.2.2.2.2.2.2.2.2.1
  unfold f_X12_isCopied f_X12_isCopied_c37 f_X12_isCopied_c38 plB
  rw [w_rcv H, do_eq (m_isCopy H hI.1.2.2.2.2.2.2.2.1 hc v), ite_not]
  cases h0 : rg v c with
  | false => rfl
  | true =>
    obtain ⟨q, rfl, hq⟩ := rg_ex (by omega) h0
    obtain ⟨hq2, k, f, z, b, hk, hb2, e1, e2, e3, ez, -, -, hf, hka, ha, -⟩ := co_I hI hq
    have hz : z < 2147483648 := by omega
    rw [if_neg (by decide), w_gP H 40, w_aI H 40 (by show q < 12; omega), e3, do_eq (in_rg h r z hz), ite_not, Bool.true_and, ia_nn (by omega), ez]
    cases h1 : rg r z with
    | false => rfl
    | true =>
      rw [if_neg (by decide), show (5 : Int32) = Int32.ofNat 6 - 1 from rfl, do_eq (in_rg h p 6 (by decide)), ite_not]
      cases rg p 6 <;> rfl
/-- copied -/
def cpdS (s : Nat → Nat → Int32) (q r p : Nat) : Int32 := if gb (s 41 q) p = true then -1 else s 43 (6 * (160 * q + r) + p)
theorem cl_copied (W : WR h X n w a c hr pa cp s m) (v r p : Int32) : WOK h X m n w a c hr s (if (plB s c v r && rg p 6) = true then 0 else 1) (cpdS s v.toNatClampNeg r.toNatClampNeg p.toNatClampNeg) (f_W_copied h (some X) v r p (some (X + 56))) := by
  have hb := W.b
  unfold f_W_copied
  rw [rX W]
  refine wq_I (VOK.iff W ?_) rfl
  unfold f_X11_copied f_X11_copied_c45
  rw [rX W, dt_if (mb_place W v r)]
  cases h0 : plB s c v r with
  | false => rfl
  | true =>
    rw [if_pos rfl, dt_if (mb_part h p), Bool.true_and]
    cases h1 : rg p 6 with
    | false => rfl
    | true =>
      unfold plB at h0
      rw [Bool.and_eq_true] at h0
      obtain ⟨q, rfl, hq⟩ := rg_ex (by omega) h0.1
      obtain ⟨p, rfl, hp⟩ := rg_ex (by omega) h1
      obtain ⟨hq2, k, f, z, b, hk, hb2, e1, e2, e3, ez, e4, hz, hf, hka, ha, hact⟩ := co_I W.I hq
      have h2 := h0.2
      rw [ia_nn (by omega), ez] at h2
      obtain ⟨i, rfl, hi⟩ := rg_ex (by omega) h2
      obtain ⟨-, -, -, -, K9, K4, -, K5, K6, -, -, K7⟩ := W.1.2.2.2.1 q hq
      obtain ⟨g1, g2, g3⟩ := K7 i (by omega)
      have G9 := ((W.1.2.2.2.2.1 q hq).2.2.2.2.2 i (by omega)).2 p hp
      rw [if_pos rfl, if_pos rfl, to_copy W hq, rd_r [10] (by rw [K9]; decide), do_eq (q_leavesOut W hq hp), ite_not, rd_P [10] (by rw [K9]; decide) K4, rd_q 5 K5 (by omega) (by omega) g1, rd_a 1 g2 (by omega) (by omega) G9, ia_nn (by omega), ia_nn (by omega), ia_nn (by omega)]
      unfold cpdS
      cases gb (s 41 q) p <;> rfl
theorem md_copied {M : Nat} (H : St h M s) (hI : Inv s n w a c hr) (v r p : Int32) : ∃ r9, ((if (plB s c v r && rg p 6) = true then (0 : Int32) else 1) = 0 → r9 = cpdS s v.toNatClampNeg r.toNatClampNeg p.toNatClampNeg) ∧ Ok h M (nk_u2 s 0 0 (if (plB s c v r && rg p 6) = true then 0 else 1)) r9 (f_X12_copied h M v r p) := by
  have hc := hI.1.2.2.2.2.2.2.2.2.1
  have e90 : f_X12_copied h M v r p = f_X12_copied_c16 h M v r p (if (plB s c v r && rg p 6) = true then 0 else 1) (some M) := by
    unfold f_X12_copied
    rw [w_rcv H, do_eq (m_isCopied H hI v r p), ite_not]
    cases (plB s c v r && rg p 6) <;> rfl
  rw [e90]
  unfold f_X12_copied_c16 f_X12_copied_c54
  refine mq H (r := 0) (plB s c v r && rg p 6) (fun _ h1 H1 => rfl) (fun hb h1 H1 => ?_)
  unfold plB at hb
  rw [Bool.and_eq_true, Bool.and_eq_true] at hb
  obtain ⟨q, rfl, hq⟩ := rg_ex (by omega) hb.1.1
  obtain ⟨p, rfl, hp⟩ := rg_ex (by omega) hb.2
  obtain ⟨hq2, k, f, z, b, hk, hb2, e1, e2, e3, ez, e4, hz, hf, hka, ha, hact⟩ := co_I hI hq
  have h2 := hb.1.2
  rw [ia_nn (by omega), ez] at h2
  obtain ⟨i, rfl, hi⟩ := rg_ex (by omega) h2
  rw [if_neg (by decide), w_rcv H1, do_eq (m_isLeftOut H1 hq2 hp), ite_not, u2_k _ _ _ _ _ (by decide), w_gP H1 43, ia_160, ia_6, w_aI H1 43 (by show 6 * (160 * q + i) + p < 11520; omega), u2_k _ _ _ _ _ (by decide), ia_nn (by omega), ia_nn (by omega), ia_nn (by omega)]
  unfold cpdS
  cases gb (s 41 q) p <;> rfl
end QQ
