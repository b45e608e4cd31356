section QQ
variable {h : nk_H} {X n w a c hr : Nat} {pa cp : Nat → Nat} {s s' m : Nat → Nat → Int32}
/-- brokenCopy -/
def kahS (s : Nat → Nat → Int32) (q i : Nat) : Int32 := if i = 0 then s 42 q else s 44 (160 * q + (i - 1))
def kfoS (s : Nat → Nat → Int32) (q i p : Nat) : Int32 := if gb (s 41 q) p = true then s 43 (6 * (160 * q + i) + p) else markS (s 38 q) (s 39 q + Int32.ofNat i) (Int32.ofNat p) (s 43 (6 * (160 * q + i) + p))
def kbrB (s : Nat → Nat → Int32) (q i : Nat) : Bool := !decide (sealS (kahS s q i) (foldS (kfoS s q i) 6) = s 44 (160 * q + i))
def kbrS (s : Nat → Nat → Int32) (q : Nat) : Int32 := match firstB (kbrB s q) (sN s 40 q) with
  | some r => Int32.ofNat r
  | none => -1
theorem q_firstBrokenCopy (W : WR h X n w a c hr pa cp s m) {q : Nat} (hq : q < c) : f_X2_firstBroken h (cp q) = some (h, kbrS s q) := by
  have hb := W.b
  obtain ⟨hq2, k, f, z, b, hk, hb2, e1, e2, e3, ez, e4, hz, hf, hka, ha, hact⟩ := co_I W.I hq
  obtain ⟨-, -, -, -, K9, K4, K5p, K5, K6, K8, K10, K7⟩ := W.1.2.2.2.1 q hq
  obtain ⟨g38, g39, g40, g41, g42, gi⟩ := W.1.2.2.2.2.1 q hq
  have k10 : nk_K h (cp q) ∈ [10] := by rw [K9]; decide
  unfold f_X2_firstBroken
  have key := loop_first (P := kbrB s q) (N := sN s 40 q) (F := fun k9 z => f_X2_firstBroken_b7 k9 h (cp q) (kahS s q z.toNatClampNeg) z) (a0 := some (h, (-1 : Int32))) (a1 := fun r => some (h, Int32.ofNat r)) (fun k9 i hi => by
      show f_X2_firstBroken_c7 (f_X2_firstBroken_b7 k9) h (cp q) (kahS s q (Int32.ofNat i).toNatClampNeg) (Int32.ofNat i) = _
      unfold f_X2_firstBroken_c7
      rw [rd_I [10] k10 g40, e3, ia_nn (by omega)]
      by_cases h1 : sN s 40 q ≤ i
      · rw [if_pos ((ia_le (by omega) (by omega)).mpr (by omega)), if_pos h1]
      · obtain ⟨p1, p2, p3⟩ := K7 i (by omega)
        obtain ⟨p4, p5⟩ := gi i (by omega)
        have e9 : foldS (fun p => if gb (s 41 q) p = true then nk_I h (cp q + 2 + i) p else markS (s 38 q) (s 39 q + Int32.ofNat i) (Int32.ofNat p) (nk_I h (cp q + 2 + i) p)) 6 = foldS (kfoS s q i) 6 := foldS_congr (fun p hp => by
          show (if _ then _ else _) = kfoS s q i p
          unfold kfoS
          rw [p5 p hp])
        rw [if_neg (fun e => h1 (by have := (ia_le (by omega) (by omega)).mp e; omega)), if_neg h1, rd_I [10] k10 g38, rd_I [10] k10 g39, rd_P [10] k10 K4, rd_q 5 K5 (by omega) (by omega) p1, rd_I [10] k10 g41, do_eq (q_sealFrom p2 p3 _ _ _ _ (fun _ _ => trivial)), e9, rd_P [10] k10 K5p, rd_a 1 K8 (by omega) (by omega) p4, ia_1]
        show _ = (if kbrB s q i = true then _ else f_X2_firstBroken_b7 k9 h (cp q) (kahS s q (Int32.ofNat (i + 1)).toNatClampNeg) (Int32.ofNat (i + 1)))
        have e8 : kahS s q (Int32.ofNat (i + 1)).toNatClampNeg = s 44 (160 * q + i) := by
          rw [ia_nn (by omega)]; unfold kahS; rw [if_neg (by omega), Nat.add_sub_cancel]
        rw [e8]
        unfold kbrB
        by_cases h2 : sealS (kahS s q i) (foldS (kfoS s q i) 6) = s 44 (160 * q + i)
        · rw [if_pos h2, decide_eq_true h2, rd_P [10] k10 K5p, rd_a 1 K8 (by omega) (by omega) p4]; rfl
        · rw [if_neg h2, decide_eq_false h2]; rfl) 4096 0 (by omega) (by omega) (fun j hj => by omega)
  rw [rd_I [10] k10 g42]
  have e7 : f_X2_firstBroken_b7 4096 h (cp q) (s 42 q) 0 = f_X2_firstBroken_b7 4096 h (cp q) (kahS s q (Int32.ofNat 0).toNatClampNeg) (Int32.ofNat 0) := rfl
  rw [e7]
  refine key.trans ?_
  unfold kbrS
  cases firstB (kbrB s q) (sN s 40 q) <;> rfl
theorem cl_brokenCopy (W : WR h X n w a c hr pa cp s m) (v : Int32) : WOK h X m n w a c hr s (if rg v c = true then 0 else 1) (kbrS s v.toNatClampNeg) (f_W_brokenCopy h (some X) v (some (X + 56))) := by
  have hb := W.b
  unfold f_W_brokenCopy
  rw [rX W]
  refine wq_I (VOK.iff W ?_) rfl
  unfold f_X11_brokenCopy
  rw [rX W, dt_if (mb_copy W v)]
  cases h0 : rg v c with
  | false => rfl
  | true =>
    obtain ⟨q, rfl, hq⟩ := rg_ex (by omega) h0
    have K9 := (W.1.2.2.2.1 q hq).2.2.2.2.1
    rw [if_pos rfl, if_pos rfl, to_copy W hq, rd_r [10] (by rw [K9]; decide), do_eq (q_firstBrokenCopy W hq), ia_nn (by omega)]
theorem kbrS_0 (e : eq0 s s') (q : Nat) : kbrS s' q = kbrS s q := by
  have : kbrB s' q = kbrB s q := by
    funext i
    have e2 : kfoS s' q i = kfoS s q i := by
      funext p
      unfold kfoS
      rw [e.f 41 (by decide), e.f 43 (by decide), e.f 38 (by decide), e.f 39 (by decide)]
    unfold kbrB kahS
    rw [e2, e.f 42 (by decide), e.f 44 (by decide)]
  unfold kbrS
  rw [this, e.esN (by decide)]
theorem m_isBroken {M : Nat} (H : St h M s) (hI : Inv s n w a c hr) {q i : Nat} (hq : q < c) (hi : i < sN s 40 q) : f_X12_isBroken h M (Int32.ofNat q) (Int32.ofNat i) = some (h, b2i (kbrB s q i)) := by
  obtain ⟨hq2, k, f, z, b, hk, hb2, e1, e2, e3, ez, e4, hz, hf, hka, ha, hact⟩ := co_I hI hq
  unfold f_X12_isBroken
  have key := loop_fold (g := kfoS s q i) (N := 6) (F := fun k9 acc z => f_X12_isBroken_b5 k9 h M (Int32.ofNat q) (Int32.ofNat i) acc z) (A := fun acc => some (h, b2i (!decide (sealS (kahS s q i) acc = s 44 (160 * q + i))))) (fun k9 j acc hj => by
      show f_X12_isBroken_c5 (f_X12_isBroken_b5 k9) h M (Int32.ofNat q) (Int32.ofNat i) acc (Int32.ofNat j) = _
      unfold f_X12_isBroken_c5 f_X12_isBroken_c69 f_X12_isBroken_c106 f_X12_isBroken_c134
      by_cases h1 : 6 ≤ j
      · rw [if_pos (show (6 : Int32) ≤ Int32.ofNat j from (ia_le (a := 6) (by omega) (by omega)).mpr h1), if_pos h1]
        by_cases h0 : i = 0
        · subst h0
          rw [if_pos (by decide), w_gP H 42, w_aI H 42 (by show q < 12; omega), do_eq (m_sealed h _ _), w_gP H 44, ia_160, w_aI H 44 (by show 160 * q + 0 < 1920; omega)]
          unfold kahS
          rw [if_pos rfl]
          by_cases h2 : sealS (s 42 q) acc = s 44 (160 * q + 0)
          · rw [if_pos h2, decide_eq_true h2]; rfl
          · rw [if_neg h2, decide_eq_false h2]; rfl
        · have h9 : ¬ Int32.ofNat i = 0 := fun e9 => h0 ((ia_eq (by omega) (by omega)).mp (e9.trans (show (0 : Int32) = Int32.ofNat 0 from rfl)))
          have h8 : Int32.ofNat (160 * q + i) - 1 = Int32.ofNat (160 * q + (i - 1)) := by
            rw [show 160 * q + i = 160 * q + (i - 1) + 1 by omega, ia_s1]
          rw [if_neg h9, w_gP H 44, ia_160, h8, w_aI H 44 (by show 160 * q + (i - 1) < 1920; omega), do_eq (m_sealed h _ _), w_gP H 44, w_aI H 44 (by show 160 * q + i < 1920; omega)]
          unfold kahS
          rw [if_neg h0]
          by_cases h2 : sealS (s 44 (160 * q + (i - 1))) acc = s 44 (160 * q + i)
          · rw [if_pos h2, decide_eq_true h2]; rfl
          · rw [if_neg h2, decide_eq_false h2]; rfl
      · rw [if_neg (fun e9 : (6 : Int32) ≤ Int32.ofNat j => h1 ((ia_le (a := 6) (by omega) (by omega)).mp e9)), if_neg h1, w_gP H 43, ia_160, ia_6, w_aI H 43 (by show 6 * (160 * q + i) + j < 11520; omega), w_rcv H, do_eq (m_isLeftOut H hq2 (p := j) (by omega)), ite_not, w_gP H 38, w_aI H 38 (by show q < 12; omega), w_gP H 39, w_aI H 39 (by show q < 12; omega), do_eq (m_markOf h _ _ _ _), do_eq (m_sealed h _ _), do_eq (m_sealed h _ _), ia_1]
        unfold kfoS
        cases gb (s 41 q) j <;> rfl) 4096 0 (by omega) (by omega)
  exact key
theorem md_brokenCopy {M : Nat} (H : St h M s) (hI : Inv s n w a c hr) (v : Int32) : ∃ r, ((if rg v c = true then (0 : Int32) else 1) = 0 → r = kbrS s v.toNatClampNeg) ∧ Ok h M (nk_u2 s 0 0 (if rg v c = true then 0 else 1)) r (f_X12_brokenCopy h M v) := by
  have hc := hI.1.2.2.2.2.2.2.2.2.1
  have e : f_X12_brokenCopy h M v = f_X12_brokenCopy_c14 h M v (if rg v c = true then 0 else 1) (some M) := by
    unfold f_X12_brokenCopy
    rw [w_rcv H, do_eq (m_isCopy H hI.1.2.2.2.2.2.2.2.1 hc v), ite_not]
    cases rg v c <;> rfl
  rw [e]
  unfold f_X12_brokenCopy_c14
  refine mq H (r := 0) (rg v c) (fun _ h1 H1 => rfl) (fun hb h1 H1 => ?_)
  obtain ⟨q, rfl, hq⟩ := rg_ex (by omega) hb
  have hI1 := hI.eq0 (eq0_u s 0)
  obtain ⟨hq2, k, f, z, b, hk, hb2, e1, e2, e3, ez, e4, hz, hf, hka, ha, hact⟩ := co_I hI1 hq
  rw [if_neg (by decide), ia_nn (by omega), ← kbrS_0 (eq0_u s 0)]
  have key := loop_first (P := kbrB (nk_u2 s 0 0 0) q) (N := sN (nk_u2 s 0 0 0) 40 q) (F := fun k9 z => f_X12_brokenCopy_b24 k9 h1 M (Int32.ofNat q) z) (a0 := some (h1, (-1 : Int32))) (a1 := fun r => some (h1, Int32.ofNat r)) (fun k9 i hi => by
      show f_X12_brokenCopy_c24 (f_X12_brokenCopy_b24 k9) h1 M (Int32.ofNat q) (Int32.ofNat i) = _
      unfold f_X12_brokenCopy_c24
      rw [w_gP H1 40, w_aI H1 40 (by show q < 12; omega), e3]
      by_cases h2 : sN (nk_u2 s 0 0 0) 40 q ≤ i
      · rw [if_pos ((ia_le (by omega) (by omega)).mpr (by omega)), if_pos h2]
      · rw [if_neg (fun e => h2 (by have := (ia_le (by omega) (by omega)).mp e; omega)), if_neg h2, w_rcv H1, do_eq (m_isBroken H1 hI1 hq (i := i) (by omega)), ite_not, ia_1]
        cases kbrB (nk_u2 s 0 0 0) q i <;> rfl) 4096 0 (by omega) (by omega) (fun j hj => by omega)
  show f_X12_brokenCopy_b24 4096 h1 M (Int32.ofNat q) (Int32.ofNat 0) = _
  rw [key]
  unfold kbrS
  cases firstB (kbrB (nk_u2 s 0 0 0) q) (sN (nk_u2 s 0 0 0) 40 q) <;> rfl
end QQ
