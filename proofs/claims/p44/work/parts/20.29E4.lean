section QQ
variable {h : nk_H} {X n w a c hr : Nat} {pa cp : Nat → Nat} {s s' m : Nat → Nat → Int32}
/-- isTrue -/
def kac (s : Nat → Nat → Int32) (q i : Nat) : Nat := sN s 31 (160 * sN s 38 q + sN s 39 q + i)
def kpt (s : Nat → Nat → Int32) (q i p : Nat) : Bool := gb (s 41 q) p || decide (s 43 (6 * (160 * q + i) + p) = s 33 (6 * kac s q i + p))
def kse (s : Nat → Nat → Int32) (q i : Nat) : Bool := decide (s 44 (160 * q + i) = s 35 (kac s q i))
def ktl (s : Nat → Nat → Int32) (q i : Nat) : Bool := kse s q i && !anyB (fun p => !kpt s q i p) 6
def kbad (s : Nat → Nat → Int32) (q x : Nat) : Bool := !(kpt s q (x / 6) (x % 6) && kse s q (x / 6))
def ktrB (s : Nat → Nat → Int32) (q : Nat) : Bool := !anyB (fun i => !ktl s q i) (sN s 40 q)
theorem anyB_mul (P : Nat → Bool) (z : Nat) : anyB P (6 * z) = anyB (fun i => anyB (fun p => P (6 * i + p)) 6) z := by
  induction z with
  | zero => rfl
  | succ z ih =>
    rw [show 6 * (z + 1) = 6 * z + 1 + 1 + 1 + 1 + 1 + 1 by omega]
    simp only [anyB, ih, Bool.false_or, Bool.or_assoc, Nat.add_zero]
theorem ktr_bad (s : Nat → Nat → Int32) (q : Nat) : anyB (kbad s q) (6 * sN s 40 q) = anyB (fun i => !ktl s q i) (sN s 40 q) := by
  rw [anyB_mul]
  refine anyB_congr (fun i _ => ?_)
  unfold kbad ktl
  have e : anyB (fun p => !(kpt s q ((6 * i + p) / 6) ((6 * i + p) % 6) && kse s q ((6 * i + p) / 6))) 6 = anyB (fun p => !(kpt s q i p && kse s q i)) 6 := anyB_congr (fun p hp => by
    rw [show (6 * i + p) / 6 = i by omega, show (6 * i + p) % 6 = p by omega])
  rw [e]
  simp only [anyB, Bool.false_or]
  cases kse s q i <;> simp [Bool.not_and, Bool.not_or]
theorem ia_div6 : ∀ x, x < 960 → Int32.ofNat x / 6 = Int32.ofNat (x / 6) := by decide +kernel
theorem q_tellsRecordAs (W : WR h X n w a c hr pa cp s m) {q i e : Nat} (hq : q < c) (hi : i < sN s 40 q) (he : e < a) (ee : kac s q i = e) : f_X2_tellsRecordAs h (cp q) (Int32.ofNat i) (some (ac s pa e)) = some (h, b2i (ktl s q i)) := by
  have hb := W.b
  obtain ⟨hq2, k, f, z, b, hk, hb2, e1, e2, e3, ez, e4, hz, hf, hka, ha, hact⟩ := co_I W.I hq
  obtain ⟨-, -, -, -, K9, K4, K5p, K5, K6, K8, K10, K7⟩ := W.1.2.2.2.1 q hq
  obtain ⟨g38, g39, g40, g41, g42, gi⟩ := W.1.2.2.2.2.1 q hq
  obtain ⟨p1, p2, p3⟩ := K7 i hi
  obtain ⟨p4, p5⟩ := gi i hi
  have k10 : nk_K h (cp q) ∈ [10] := by rw [K9]; decide
  obtain ⟨-, -, -, a8, a9, a10, -⟩ := W.1.1.2.2.2.2.2.2.2.2.1 e he
  obtain ⟨b1, -, b3, -⟩ := W.1.1.2.2.2.2.2.2.2.2.2 e he
  have k8 : nk_K h (ac s pa e) ∈ [8] := by rw [(act_K W he).1]; decide
  unfold f_X2_tellsRecordAs
  have key := loop_any (P := fun p => !kpt s q i p) (N := 6) (F := fun k9 z => f_X2_tellsRecordAs_b17 k9 h (cp q) (Int32.ofNat i) (some (ac s pa e)) z) (a0 := some (h, (1 : Int32))) (a1 := some (h, (0 : Int32))) (by decide) (fun k9 p hp => by
      show f_X2_tellsRecordAs_c17 (f_X2_tellsRecordAs_b17 k9) h (cp q) (Int32.ofNat i) (some (ac s pa e)) (Int32.ofNat p) = _
      unfold f_X2_tellsRecordAs_c17 f_X2_tellsRecordAs_c50
      by_cases h1 : 6 ≤ p
      · rw [if_pos (show (6 : Int32) ≤ Int32.ofNat p from (ia_le (a := 6) (by omega) (by omega)).mpr h1), if_pos h1]
        rfl
      · rw [if_neg (fun e9 : (6 : Int32) ≤ Int32.ofNat p => h1 ((ia_le (a := 6) (by omega) (by omega)).mp e9)), if_neg h1, rd_r [10] k10, do_eq (q_leavesOut W hq (p := p) (by omega)), ite_not, rd_P [10] k10 K4, rd_q 5 K5 (by omega) (by omega) p1, rd_a 1 p2 (by omega) (by omega) (p5 p (by omega)), rd_P [8] k8 a8, rd_a 1 a9 (by omega) (by omega) (b3 p (by omega)), ia_1]
        unfold kpt
        rw [ee]
        cases gb (s 41 q) p with
        | true => rfl
        | false =>
          rw [if_pos rfl, Bool.false_or]
          by_cases h2 : s 43 (6 * (160 * q + i) + p) = s 33 (6 * e + p)
          · rw [if_pos h2, decide_eq_true h2]; rfl
          · rw [if_neg h2, decide_eq_false h2]; rfl) 4096 0 (by omega) (by omega) (fun j hj => by omega)
  rw [rd_P [10] k10 K5p, rd_a 1 K8 (by omega) (by omega) p4, rd_I [8] k8 b1]
  unfold ktl kse
  rw [ee]
  by_cases h2 : s 44 (160 * q + i) = s 35 e
  · rw [if_pos h2, decide_eq_true h2, Bool.true_and]
    refine key.trans ?_
    cases anyB (fun p => !kpt s q i p) 6 <;> rfl
  · rw [if_neg h2, decide_eq_false h2]; rfl
theorem kac_at (hI : Inv s n w a c hr) {q i : Nat} (hq : q < c) (hi : i < sN s 40 q) : ∃ k f e, k < 6 ∧ s 38 q = Int32.ofNat k ∧ s 39 q = Int32.ofNat f ∧ f + i < sN s 30 k ∧ f + i < 160 ∧ e < a ∧ e < 160 ∧ s 31 (160 * k + (f + i)) = Int32.ofNat e ∧ kac s q i = e := by
  obtain ⟨hq2, k, f, z, b, hk, hb2, e1, e2, e3, ez, e4, hz, hf, hka, ha, hact⟩ := co_I hI hq
  obtain ⟨e, he, ee⟩ := hact (f + i) (by omega)
  refine ⟨k, f, e, hk, e1, e2, by omega, by omega, he, by omega, ee, ?_⟩
  unfold kac
  rw [sN_of e1 (by omega), sN_of e2 (by omega), Nat.add_assoc, sN_of ee (by omega)]
theorem q_tellsAs (W : WR h X n w a c hr pa cp s m) {q k : Nat} (hq : q < c) (ek : s 38 q = Int32.ofNat k) (hk : k < 6) : f_X2_tellsAs h (cp q) (some (X + 9 + 2 * k)) = some (h, b2i (ktrB s q)) := by
  have hb := W.b
  obtain ⟨hq2, k', f, z, b, hk', hb2, e1, e2, e3, ez, e4, hz, hf, hka, ha, hact⟩ := co_I W.I hq
  obtain ⟨-, -, -, -, K9, -⟩ := W.1.2.2.2.1 q hq
  obtain ⟨g38, g39, g40, g41, g42, gi⟩ := W.1.2.2.2.2.1 q hq
  obtain ⟨f1, f2, f3, L⟩ := ch_at W hk
  have k10 : nk_K h (cp q) ∈ [10] := by rw [K9]; decide
  unfold f_X2_tellsAs
  have key := loop_any (P := fun i => !ktl s q i) (N := sN s 40 q) (F := fun k9 z => f_X2_tellsAs_b2 k9 h (cp q) (some (X + 9 + 2 * k)) z) (a0 := some (h, (1 : Int32))) (a1 := some (h, (0 : Int32))) (by omega) (fun k9 i hi => by
      show f_X2_tellsAs_c2 (f_X2_tellsAs_b2 k9) h (cp q) (some (X + 9 + 2 * k)) (Int32.ofNat i) = _
      unfold f_X2_tellsAs_c2
      rw [rd_I [10] k10 g40, e3]
      by_cases h1 : sN s 40 q ≤ i
      · rw [if_pos ((ia_le (by omega) (by omega)).mpr (by omega)), if_pos h1]
        rfl
      · obtain ⟨k2, f', e, hk2, ek2, ef2, hfi, hfi2, he, he2, ee, ea⟩ := kac_at W.I hq (i := i) (by omega)
        have : k2 = k := (ia_eq (by omega) (by omega)).mp (ek2.symm.trans ek)
        subst this
        rw [if_neg (fun e => h1 (by have := (ia_le (by omega) (by omega)).mp e; omega)), if_neg h1, rd_I [10] k10 g39, ef2, rd_r [9] (by rw [f2]; decide), ia_add, do_eq (q_actOf W hk (i := f' + i) hfi he (sN_of ee (by omega))), rd_r [10] k10, do_eq (q_tellsRecordAs W hq (by omega) he ea), ite_not, ia_1]
        cases ktl s q i <;> rfl) 4096 0 (by omega) (by omega) (fun j hj => by omega)
  refine key.trans ?_
  unfold ktrB
  cases anyB (fun i => !ktl s q i) (sN s 40 q) <;> rfl
theorem cl_isTrue (W : WR h X n w a c hr pa cp s m) (v : Int32) : WOK h X m n w a c hr s (if rg v c = true then 0 else 1) (b2i (ktrB s v.toNatClampNeg)) (f_W_isTrue h (some X) v (some (X + 56))) := by
  have hb := W.b
  unfold f_W_isTrue
  rw [rX W]
  refine wq_Z (VOK.iff W ?_) rfl
  obtain ⟨k1, -, -, -, k2, -, -, -, ⟨k3, k4⟩, -⟩ := W.1.1.1
  unfold f_X11_isTrue
  rw [rX W, dt_if (mb_copy W v)]
  cases h0 : rg v c with
  | false => rfl
  | true =>
    obtain ⟨q, rfl, hq⟩ := rg_ex (by omega) h0
    obtain ⟨hq2, k, f, z, b, hk, hb2, e1, -⟩ := co_I W.I hq
    have K9 := (W.1.2.2.2.1 q hq).2.2.2.2.1
    have g38 := (W.1.2.2.2.2.1 q hq).1
    obtain ⟨f1, f2, f3, L⟩ := ch_at W hk
    rw [if_pos rfl, if_pos rfl, to_copy W hq, rd_P [18] (by rw [k1]; decide) k2, rd_I [10] (by rw [K9]; decide) g38, e1, rd_q 3 k3 (by omega) (by omega) f1, rd_r [10] (by rw [K9]; decide), do_eq (q_tellsAs W hq e1 hk), ia_nn (by omega), nk_zr_b]
theorem ktrB_0 (e : eq0 s s') (q : Nat) : ktrB s' q = ktrB s q := by
  have h1 : ktl s' q = ktl s q := by
    funext i
    have h2 : kac s' q i = kac s q i := by unfold kac; rw [e.esN (by decide), e.esN (by decide), e.esN (by decide)]
    have h3 : kpt s' q i = kpt s q i := by
      funext p
      unfold kpt
      rw [h2, e.f 41 (by decide), e.f 43 (by decide), e.f 33 (by decide)]
    unfold ktl kse
    rw [h2, h3, e.f 44 (by decide), e.f 35 (by decide)]
  unfold ktrB
  rw [h1, e.esN (by decide)]
theorem md_isTrue {M : Nat} (H : St h M s) (hI : Inv s n w a c hr) (v : Int32) : ∃ r, ((if rg v c = true then (0 : Int32) else 1) = 0 → r = b2i (ktrB s v.toNatClampNeg)) ∧ Ok h M (nk_u2 s 0 0 (if rg v c = true then 0 else 1)) r (f_X12_isTrue h M v) := by
  have hc := hI.1.2.2.2.2.2.2.2.2.1
  have e : f_X12_isTrue h M v = f_X12_isTrue_c14 h M v (if rg v c = true then 0 else 1) (some M) := by
    unfold f_X12_isTrue
    rw [w_rcv H, do_eq (m_isCopy H hI.1.2.2.2.2.2.2.2.1 hc v), ite_not]
    cases rg v c <;> rfl
  rw [e]
  unfold f_X12_isTrue_c14
  refine mq H (r := 0) (rg v c) (fun _ h1 H1 => rfl) (fun hb h1 H1 => ?_)
  obtain ⟨q, rfl, hq⟩ := rg_ex (by omega) hb
  have hI1 := hI.eq0 (eq0_u s 0)
  obtain ⟨hq2, k, f, z, b, hk, hb2, e1, e2, e3, ez, e4, hz, hf, hka, ha, hact⟩ := co_I hI1 hq
  rw [ia_nn (by omega), ← ktrB_0 (eq0_u s 0)]
  generalize nk_u2 s 0 0 0 = s0 at *
  have key := loop_any (P := kbad s0 q) (N := 6 * sN s0 40 q) (F := fun k9 z => f_X12_isTrue_b20 (k9 + 1) h1 M (Int32.ofNat q) 1 z) (a0 := some (h1, (1 : Int32))) (a1 := some (h1, (0 : Int32))) (by omega) (fun k9 x hx => by
      show f_X12_isTrue_c20 (f_X12_isTrue_b20 (k9 + 1)) h1 M (Int32.ofNat q) 1 (Int32.ofNat x) = _
      have e0 : f_X12_isTrue_b20 (k9 + 1) h1 M (Int32.ofNat q) 0 (Int32.ofNat (x + 1)) = some (h1, 0) := rfl
      unfold f_X12_isTrue_c20 f_X12_isTrue_c101 f_X12_isTrue_c120 f_X12_isTrue_c149 f_X12_isTrue_c150 f_X12_isTrue_c157
      rw [if_neg (by decide), w_gP H1 40, w_aI H1 40 (by show q < 12; omega), e3, show (6 : Int32) = Int32.ofNat 6 from rfl, ia_mul]
      by_cases h2 : 6 * sN s0 40 q ≤ x
      · rw [if_pos ((ia_le (by omega) (by omega)).mpr (by omega)), if_pos h2]
        rfl
      · obtain ⟨k2, f', e, hk2, ek2, ef2, hfi, hfi2, he, he2, ee, ea⟩ := kac_at hI1 hq (i := x / 6) (by omega)
        have d6 : Int32.ofNat x / Int32.ofNat 6 = Int32.ofNat (x / 6) := ia_div6 x (by omega)
        rw [if_neg (fun e => h2 (by have := (ia_le (by omega) (by omega)).mp e; omega)), if_neg h2, w_gP H1 31, w_gP H1 38, w_aI H1 38 (by show q < 12; omega), w_gP H1 39, w_aI H1 39 (by show q < 12; omega), ek2, ef2, d6, ia_160, ia_add, show 160 * k2 + f' + x / 6 = 160 * k2 + (f' + x / 6) by omega, w_aI H1 31 (by show 160 * k2 + (f' + x / 6) < 960; omega), ee, w_gP H1 43, show (960 : Int32) = Int32.ofNat 960 from rfl, ia_mul, ia_add, w_aI H1 43 (by show 960 * q + x < 11520; omega), w_gP H1 33, ia_mul, ia_mul, ia_sub (by omega), ia_add, show x - x / 6 * 6 = x % 6 by omega, w_aI H1 33 (by show 6 * e + x % 6 < 960; omega)]
        unfold kbad kpt kse
        rw [ea, show 6 * (160 * q + x / 6) + x % 6 = 960 * q + x by omega]
        by_cases h3 : s0 43 (960 * q + x) = s0 33 (6 * e + x % 6)
        · rw [if_pos h3, decide_eq_true h3, w_rcv H1, do_eq (m_isLeftOut H1 hq2 (p := x % 6) (by omega)), ia_160, w_gP H1 44, w_aI H1 44 (by show 160 * q + x / 6 < 1920; omega), w_gP H1 35, w_aI H1 35 (by show e < 160; omega), ia_1, e0]
          by_cases h4 : s0 44 (160 * q + x / 6) = s0 35 e <;> cases gb (s0 41 q) (x % 6) <;> simp [h4, b2i]
        · rw [if_neg h3, decide_eq_false h3, w_rcv H1, do_eq (m_isLeftOut H1 hq2 (p := x % 6) (by omega)), ia_160, w_gP H1 44, w_aI H1 44 (by show 160 * q + x / 6 < 1920; omega), w_gP H1 35, w_aI H1 35 (by show e < 160; omega), ia_1, e0]
          by_cases h4 : s0 44 (160 * q + x / 6) = s0 35 e <;> cases gb (s0 41 q) (x % 6) <;> simp [h4, b2i]) 4095 0 (by omega) (by omega) (fun j hj => by omega)
  refine Eq.trans (show _ = f_X12_isTrue_b20 (4095 + 1) h1 M (Int32.ofNat q) 1 (Int32.ofNat 0) from rfl) ?_
  refine key.trans ?_
  unfold ktrB
  rw [ktr_bad]
  cases anyB (fun i => !ktl s0 q i) (sN s0 40 q) <;> rfl
end QQ
