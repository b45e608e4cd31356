/-! ===== the reference's questions while an act is being made ===== -/
def I0w (s : Nat → Nat → Int32) (n w a c hr : Nat) : Prop := s 3 0 = Int32.ofNat n ∧ n ≤ 160 ∧ s 12 0 = Int32.ofNat w ∧ w ≤ 40 ∧ w ≤ n ∧ True ∧ a ≤ n ∧ s 37 0 = Int32.ofNat c ∧ c ≤ 12 ∧ s 1 0 = Int32.ofNat hr ∧ hr ≤ 400
def I4w (s : Nat → Nat → Int32) (n w a : Nat) : Prop := ∀ e, e < a → (∃ p, p < n ∧ s 32 e = Int32.ofNat p ∧ s 4 p = 3 ∧ s 7 p = Int32.ofNat e) ∧ (∃ q, q < w ∧ s 33 (6 * e + 1) = Int32.ofNat q) ∧ (∃ k, k < 6 ∧ s 33 (6 * e + 2) = Int32.ofNat k) ∧ (∃ b, s 33 (6 * e + 4) = b2i b) ∧ True
def Inw (s : Nat → Nat → Int32) (n w a c hr : Nat) : Prop := I0w s n w a c hr ∧ I1 s n w a hr ∧ I2 s n hr ∧ I3 s n w ∧ I4w s n w a ∧ True ∧ True ∧ True ∧ I8 s n ∧ True
section MW
variable {h : nk_H} {M n w a c hr : Nat}
theorem m_has_w (hM : MR h M) (hI : Inw (nm h M) n w a c hr) {B : Int32} (hB : byok n B) {j : Nat} (hj : j < n) : f_X12_has h M B (Int32.ofNat j) = some (h, b2i (hasB (nm h M) B j)) := by
  obtain ⟨⟨i1, i2, i3, i4, i5, i6, i7, i8, i9, i10, i11⟩, hI1, hI2, -⟩ := hI
  unfold f_X12_has f_X12_has_c81 f_X12_has_c85 f_X12_has_c86
  rcases hB with rfl | ⟨b, hb, rfl⟩ | ⟨i, hi, rfl⟩
  · simp [hasB, nk_zr_1, b2i]
  · have h1 : ¬ (6 : Int32) ≤ Int32.ofNat b := by
      rw [show (6 : Int32) = Int32.ofNat 6 from rfl, ia_le (by omega) (by omega)]; omega
    have h2 := (hI2 b hb j (by omega)).2
    rw [if_neg (ia_m1 (by omega)), if_neg h1, m_gP hM 11, Option.bind_some, show (160 : Int32) = Int32.ofNat 160 from rfl, ia_mul, ia_add, show (2 : Nat) = mk 11 from rfl, m_aI hM 11 _ (by show _ < 960; omega), Option.bind_some]
    have h3 : hasB (nm h M) (Int32.ofNat b) j = (nm h M 11 (160 * b + j) == 1) := by
      unfold hasB
      rw [if_neg (ia_m1 (by omega)), if_neg h1, ia_nn (by omega)]
    rw [h3]
    rcases h2 with e | ⟨e, -⟩ <;> rw [e] <;> rfl
  · have h1 : (6 : Int32) ≤ Int32.ofNat (6 + i) := by
      rw [show (6 : Int32) = Int32.ofNat 6 from rfl, ia_le (by omega) (by omega)]; omega
    have h6 : Int32.ofNat (6 + i) - 6 = Int32.ofNat i := by
      rw [show (6 : Int32) = Int32.ofNat 6 from rfl, ia_sub (by omega), Nat.add_sub_cancel_left]
    obtain ⟨⟨k, hk, ek⟩, ⟨t, ht, et⟩, -⟩ := hI1 i hi
    have h3 : hasB (nm h M) (Int32.ofNat (6 + i)) j = (decide (0 ≤ nm h M 10 (160 * k + j)) && decide (nm h M 10 (160 * k + j) ≤ nm h M 6 i) && (!decide (nm h M 5 j = nm h M 5 i) || decide (j < i))) := by
      unfold hasB sN
      rw [if_neg (ia_m1 (by omega)), if_pos h1, h6, ia_nn (by omega)]
      simp only [ek]
      rw [ia_nn (by omega)]
    rw [if_neg (ia_m1 (by omega)), if_pos h1, h3, h6]
    rw [m_gP hM 5, Option.bind_some, show (1 : Nat) = mk 5 from rfl, m_aI hM 5 _ (by show _ < 160; omega), Option.bind_some, m_gP hM 10, Option.bind_some, ek, show (160 : Int32) = Int32.ofNat 160 from rfl, ia_mul, ia_add, show mk 5 = mk 10 from rfl, m_aI hM 10 _ (by show _ < 960; omega), Option.bind_some, m_gP hM 6, Option.bind_some, show mk 10 = mk 6 from rfl, m_aI hM 6 _ (by show _ < 160; omega), Option.bind_some]
    rw [do_eq (m_in h _ _ _)]
    cases hc : (decide (0 ≤ nm h M 10 (160 * k + j)) && decide (nm h M 10 (160 * k + j) ≤ nm h M 6 i)) with
    | false => simp [b2i, nk_zr_0]
    | true =>
      rw [if_neg (by decide), m_gP hM 5, Option.bind_some, show mk 6 = mk 5 from rfl, m_aI hM 5 _ (by show _ < 160; omega), Option.bind_some]
      by_cases h7 : nm h M 5 j = Int32.ofNat k
      · rw [if_pos h7]
        have h10 := ia_le (a := i) (b := j) (by omega) (by omega)
        by_cases h8 : i ≤ j
        · have : ¬ j < i := by omega
          rw [if_pos (h10.mpr h8)]
          simp [this, h7, b2i, nk_zr_0]
        · have : j < i := by omega
          rw [if_neg (fun e => h8 (h10.mp e))]
          simp [h7, this, b2i, nk_zr_1]
      · simp [h7, b2i, nk_zr_1]
theorem src_lt_w {s : Nat → Nat → Int32} (hI : Inw s n w a c hr) {q r : Nat} (hq : q < w) (e : src s q = some r) : r < q ∧ s 16 q = Int32.ofNat r := by
  rcases (hI.2.2.2.1 q hq).2 with h1 | ⟨r', h1, h2⟩
  · unfold src at e; rw [if_pos h1] at e; cases e
  · have hw := hI.1.2.2.2.1
    unfold src sN at e
    rw [h2, if_neg (ia_m1 (by omega)), ia_nn (by omega)] at e
    cases e
    exact ⟨h1, h2⟩
theorem src_no_w {s : Nat → Nat → Int32} (hI : Inw s n w a c hr) {q : Nat} (hq : q < w) (e : src s q = none) : s 16 q = -1 := by
  unfold src at e
  by_cases h1 : s 16 q = -1
  · exact h1
  · rw [if_neg h1] at e; cases e
theorem srcw_lt_w {s : Nat → Nat → Int32} (hI : Inw s n w a c hr) : ∀ q r, srcw s w q = some r → r < q := by
  intro q r e
  unfold srcw at e
  by_cases hq : q < w
  · rw [if_pos hq] at e; exact (src_lt_w hI hq e).1
  · rw [if_neg hq] at e; cases e
theorem on_src_w {s : Nat → Nat → Int32} (hI : Inw s n w a c hr) {q : Nat} (hq : q < w) : s 16 q = on (srcw s w q) := by
  unfold srcw
  rw [if_pos hq]
  cases e : src s q with
  | none => exact src_no_w hI hq e
  | some r => exact (src_lt_w hI hq e).2
theorem m_inLine_w (hM : MR h M) (hI : Inw (nm h M) n w a c hr) (v : Int32) {q : Nat} (hq : q < w) (hv : ¬ v < 0) : f_X12_isInLine h M v (Int32.ofNat q) = some (h, b2i (lineB (nm h M) w (fun x => decide (Int32.ofNat x = v)) q)) := by
  have hw := hI.1.2.2.2.1
  unfold f_X12_isInLine
  have key := loop_ch (src := srcw (nm h M) w) (P := fun x => decide (Int32.ofNat x = v)) (F := fun k z => f_X12_isInLine_b2 k h M v z) (a0 := some (h, b2i false)) (a1 := some (h, b2i true)) (w := w) on (srcw_lt_w hI) (fun k => by
      show f_X12_isInLine_c2 (f_X12_isInLine_b2 k) h M v (-1) = _
      unfold f_X12_isInLine_c2 f_X12_isInLine_c22 f_X12_isInLine_c32
      have : ¬ (-1 : Int32) = v := fun e => hv (by rw [← e]; exact n_1)
      rw [if_pos rfl, if_neg this]; rfl) (fun k x hx => by
      show f_X12_isInLine_c2 (f_X12_isInLine_b2 k) h M v (Int32.ofNat x) = _
      unfold f_X12_isInLine_c2 f_X12_isInLine_c22 f_X12_isInLine_c32
      rw [if_neg (ia_m1 (by omega))]
      by_cases e : Int32.ofNat x = v
      · rw [if_pos e, if_pos e, if_pos (by simpa using e)]; rfl
      · rw [if_neg e, if_neg (by simpa using e), m_gP hM 16, Option.bind_some, m_r16 hM (by omega), Option.bind_some, on_src_w hI hx]) 4096 (some q) (by omega) (fun r hr => by cases hr; exact hq)
  show f_X12_isInLine_b2 4096 h M v (on (some q)) = _
  rw [key]
  unfold lineB
  cases chB (srcw (nm h M) w) (fun x => decide (Int32.ofNat x = v)) w (some q) <;> rfl
theorem m_line_w (F : Nat → Int32 → Option (nk_H × Int32)) (P : Nat → Bool) (z o : Bool) (hI : Inw (nm h M) n w a c hr) {q : Nat} (hq : q < w)
    (h0 : ∀ k, F (k + 1) (-1) = some (h, b2i z)) (hF : ∀ k x, x < w → F (k + 1) (Int32.ofNat x) = if P x = true then some (h, b2i o) else F k (nm h M 16 x)) : F 4096 (Int32.ofNat q) = some (h, b2i (if lineB (nm h M) w P q = true then o else z)) := by
  have hw := hI.1.2.2.2.1
  have key := loop_ch (src := srcw (nm h M) w) (P := P) (F := F) (a0 := some (h, b2i z)) (a1 := some (h, b2i o)) (w := w) on (srcw_lt_w hI) h0 (fun k x hx => by
      show F (k + 1) (Int32.ofNat x) = _
      rw [hF k x hx, on_src_w hI hx]) 4096 (some q) (by omega) (fun r hr => by cases hr; exact hq)
  show F 4096 (on (some q)) = _
  rw [key]
  unfold lineB
  cases chB (srcw (nm h M) w) P w (some q) <;> rfl
theorem m_known_w (hM : MR h M) (hI : Inw (nm h M) n w a c hr) {B : Int32} (hB : byok n B) {q : Nat} (hq : q < w) : f_X12_isKnown h M B (Int32.ofNat q) = some (h, b2i (knownB (nm h M) w B q)) := by
  have hw := hI.1.2.2.2.1
  unfold f_X12_isKnown
  rw [m_line_w (F := fun k z => f_X12_isKnown_b2 k h M B z) (P := fun x => !hasB (nm h M) B (sN (nm h M) 13 x)) true false hI hq (fun k => by
      show f_X12_isKnown_c2 (f_X12_isKnown_b2 k) h M B (-1) = _
      unfold f_X12_isKnown_c2
      rw [if_pos rfl]; rfl) (fun k x hx => by
      show f_X12_isKnown_c2 (f_X12_isKnown_b2 k) h M B (Int32.ofNat x) = _
      unfold f_X12_isKnown_c2
      obtain ⟨⟨p, hp, ep, -⟩, -⟩ := hI.2.2.2.1 x hx
      have e13 : sN (nm h M) 13 x = p := by
        have := hI.1.2.1
        unfold sN; rw [ep, ia_nn (by omega)]
      rw [if_neg (ia_m1 (by omega)), m_gP hM 13, Option.bind_some, m_r hM 13 (by show x < 40; omega), Option.bind_some, m_rcv hM, Option.bind_some, ep, do_eq (m_has_w hM hI hB hp), e13, ite_b, m_gP hM 16, Option.bind_some, m_r hM 16 (by show x < 40; omega), Option.bind_some]
      cases hasB (nm h M) B p <;> rfl)]
  unfold knownB
  cases lineB (nm h M) w (fun x => !hasB (nm h M) B (sN (nm h M) 13 x)) q <;> rfl
theorem m_over_w (hM : MR h M) (hI : Inw (nm h M) n w a c hr) (t : Int32) {q : Nat} (hq : q < w) : f_X12_isOver h M (Int32.ofNat q) t = some (h, b2i (overB (nm h M) w q t)) := by
  have hw := hI.1.2.2.2.1
  unfold f_X12_isOver
  rw [m_line_w (F := fun k z => f_X12_isOver_b2 k h M t z) (P := fun x => !decide (t ≤ nm h M 20 x)) false true hI hq (fun k => by
      show f_X12_isOver_c2 (f_X12_isOver_b2 k) h M t (-1) = _
      unfold f_X12_isOver_c2
      rw [if_pos rfl]; rfl) (fun k x hx => by
      show f_X12_isOver_c2 (f_X12_isOver_b2 k) h M t (Int32.ofNat x) = _
      unfold f_X12_isOver_c2
      rw [if_neg (ia_m1 (by omega)), m_gP hM 20, Option.bind_some, m_r hM 20 (by show x < 40; omega), Option.bind_some, m_gP hM 16, Option.bind_some, m_r hM 16 (by show x < 40; omega), Option.bind_some]
      by_cases e : t ≤ nm h M 20 x <;> simp [e, nk_zr_1, b2i])]
  unfold overB
  cases lineB (nm h M) w (fun x => !decide (t ≤ nm h M 20 x)) q <;> rfl
theorem m_lim_w (hM : MR h M) (hI : Inw (nm h M) n w a c hr) (t : Int32) {q : Nat} (hq : q < w) : f_X12_isAboveLimits h M (Int32.ofNat q) t = some (h, b2i (limB (nm h M) w q t)) := by
  have hw := hI.1.2.2.2.1
  unfold f_X12_isAboveLimits
  rw [m_line_w (F := fun k z => f_X12_isAboveLimits_b2 k h M t z) (P := fun x => !decide (t ≤ nm h M 18 x)) false true hI hq (fun k => by
      show f_X12_isAboveLimits_c2 (f_X12_isAboveLimits_b2 k) h M t (-1) = _
      unfold f_X12_isAboveLimits_c2
      rw [if_pos rfl]; rfl) (fun k x hx => by
      show f_X12_isAboveLimits_c2 (f_X12_isAboveLimits_b2 k) h M t (Int32.ofNat x) = _
      unfold f_X12_isAboveLimits_c2
      rw [if_neg (ia_m1 (by omega)), m_gP hM 18, Option.bind_some, m_r hM 18 (by show x < 40; omega), Option.bind_some, m_gP hM 16, Option.bind_some, m_r hM 16 (by show x < 40; omega), Option.bind_some]
      by_cases e : t ≤ nm h M 18 x <;> simp [e, nk_zr_1, b2i])]
  unfold limB
  cases lineB (nm h M) w (fun x => !decide (t ≤ nm h M 18 x)) q <;> rfl
theorem m_rev_w (hM : MR h M) (hI : Inw (nm h M) n w a c hr) {B : Int32} (hB : byok n B) {q : Nat} (hq : q < w) : f_X12_isRevoked h M B (Int32.ofNat q) = some (h, b2i (revB (nm h M) n w B q)) := by
  have hw := hI.1.2.2.2.1
  have hn := hI.1.2.1
  have hn3 := hI.1.1
  unfold f_X12_isRevoked
  have key := loop_any (P := fun j => decide (nm h M 4 j = 1) && lineB (nm h M) w (fun x => decide (Int32.ofNat x = nm h M 7 j)) q && hasB (nm h M) B j) (N := n) (F := fun k z => f_X12_isRevoked_b2 k h M B (Int32.ofNat q) z) (a0 := some (h, b2i false)) (a1 := some (h, b2i true)) (by omega) (fun k i hi => by
      show f_X12_isRevoked_c2 (f_X12_isRevoked_b2 k) h M B (Int32.ofNat q) (Int32.ofNat i) = _
      unfold f_X12_isRevoked_c2 f_X12_isRevoked_c45
      rw [m_gI hM 3, Option.bind_some, hn3]
      by_cases h1 : n ≤ i
      · rw [if_pos ((ia_le (by omega) (by omega)).mpr h1), if_pos h1]; rfl
      · rw [if_neg (fun e => h1 ((ia_le (by omega) (by omega)).mp e)), if_neg h1, m_gP hM 4, Option.bind_some, m_r hM 4 (by show i < 160; omega), Option.bind_some, show (1 : Int32) = Int32.ofNat 1 from rfl, ia_add]
        by_cases h2 : nm h M 4 i = Int32.ofNat 1
        · rw [if_pos h2, m_gP hM 7, Option.bind_some, m_r hM 7 (by show i < 160; omega), Option.bind_some, m_rcv hM, Option.bind_some]
          have h7 : ¬ nm h M 7 i < 0 := by
            obtain ⟨-, -, ⟨h4, -⟩ | ⟨-, x, hx, e⟩ | ⟨h4, -⟩ | ⟨h4, -⟩⟩ := hI.2.1 i (by omega)
            · rw [h4] at h2; exact absurd h2 (by decide)
            · rw [e]; exact ia_n0 (by omega)
            · rw [h4] at h2; exact absurd h2 (by decide)
            · rw [h4] at h2; exact absurd h2 (by decide)
          rw [do_eq (m_inLine_w hM hI _ hq h7), ite_b, m_rcv hM, Option.bind_some, do_eq (m_has_w hM hI hB (j := i) (by omega)), ite_b, h2]
          cases lineB (nm h M) w (fun x => decide (Int32.ofNat x = nm h M 7 i)) q <;> cases hasB (nm h M) B i <;> rfl
        · rw [if_neg h2]
          have : decide (nm h M 4 i = Int32.ofNat 1) = false := decide_eq_false h2
          rw [this]
          rfl) 4096 0 (by omega) (by omega) (fun j hj => by omega)
  show f_X12_isRevoked_b2 4096 h M B (Int32.ofNat q) (Int32.ofNat 0) = _
  rw [key]
  unfold revB
  cases anyB (fun j => decide (nm h M 4 j = 1) && lineB (nm h M) w (fun x => decide (Int32.ofNat x = nm h M 7 j)) q && hasB (nm h M) B j) n <;> rfl
theorem m_done_w (hM : MR h M) (hI : Inw (nm h M) n w a c hr) {B : Int32} (hB : byok n B) {q : Nat} (hq : q < w) : f_X12_doneWith h M B (Int32.ofNat q) = some (h, doneS (nm h M) n w B q) := by
  have hw := hI.1.2.2.2.1
  have hn := hI.1.2.1
  have hn3 := hI.1.1
  have ha := hI.1.2.2.2.2.2.2.1
  unfold f_X12_doneWith
  have key := loop_sum (g := fun j => if (decide (nm h M 4 j = 3) && lineB (nm h M) w (fun x => decide (Int32.ofNat x = Int32.ofNat q)) (sN (nm h M) 33 (6 * sN (nm h M) 7 j + 1)) && hasB (nm h M) B j) = true then nm h M 34 (sN (nm h M) 7 j) else 0) (N := n) (F := fun k acc z => f_X12_doneWith_b5 k h M B (Int32.ofNat q) acc z) (A := fun acc => some (h, acc)) (fun k i acc hi => by
      show f_X12_doneWith_c5 (f_X12_doneWith_b5 k) h M B (Int32.ofNat q) acc (Int32.ofNat i) = _
      unfold f_X12_doneWith_c5 f_X12_doneWith_c75
      rw [m_gI hM 3, Option.bind_some, hn3]
      by_cases h1 : n ≤ i
      · rw [if_pos ((ia_le (by omega) (by omega)).mpr h1), if_pos h1]
      · rw [if_neg (fun e => h1 ((ia_le (by omega) (by omega)).mp e)), if_neg h1, m_gP hM 4, Option.bind_some, m_r hM 4 (by show i < 160; omega), Option.bind_some, show (1 : Int32) = Int32.ofNat 1 from rfl, ia_add]
        by_cases h2 : nm h M 4 i = 3
        · obtain ⟨-, -, ⟨h4, -⟩ | ⟨h4, -⟩ | ⟨h4, -⟩ | ⟨-, e, he, e7, -⟩⟩ := hI.2.1 i (by omega)
          · rw [h4] at h2; exact absurd h2 (by decide)
          · rw [h4] at h2; exact absurd h2 (by decide)
          · rw [h4] at h2; exact absurd h2 (by decide)
          · have s7 : sN (nm h M) 7 i = e := by unfold sN; rw [e7, ia_nn (by omega)]
            obtain ⟨-, ⟨x, hx, ex⟩, -⟩ := hI.2.2.2.2.1 e he
            have s33 : sN (nm h M) 33 (6 * e + 1) = x := by unfold sN; rw [ex, ia_nn (by omega)]
            rw [if_pos h2, m_gP hM 33, Option.bind_some, m_gP hM 7, Option.bind_some, m_r hM 7 (by show i < 160; omega), Option.bind_some, e7, show (6 : Int32) = Int32.ofNat 6 from rfl, ia_mul, ia_add, m_r hM 33 (by show 6 * e + 1 < 960; omega), Option.bind_some, m_rcv hM, Option.bind_some, ex, do_eq (m_inLine_w hM hI _ hx (ia_n0 (by omega))), ite_b, m_rcv hM, Option.bind_some, do_eq (m_has_w hM hI hB (j := i) (by omega)), ite_b, m_gP hM 34, Option.bind_some, m_gP hM 7, Option.bind_some, m_r hM 7 (by show i < 160; omega), Option.bind_some, e7, m_r hM 34 (by show e < 160; omega), Option.bind_some, s7, s33, h2]
            cases lineB (nm h M) w (fun x => decide (Int32.ofNat x = Int32.ofNat q)) x <;> cases hasB (nm h M) B i <;> simp
        · rw [if_neg h2]
          have : decide (nm h M 4 i = 3) = false := decide_eq_false h2
          simp [this]) 4096 0 (by omega) (by omega)
  exact key
theorem m_deputy_w (hM : MR h M) (hI : Inw (nm h M) n w a c hr) {B : Int32} (hB : byok n B) (k0 t : Int32) : f_X12_isDeputy h M B k0 t = some (h, b2i (deputyB (nm h M) n B k0 t)) := by
  have hn := hI.1.2.1
  have hn3 := hI.1.1
  unfold f_X12_isDeputy
  have key := loop_any (P := fun j => decide (nm h M 4 j = 2) && decide (nm h M 7 j = k0) && (decide (nm h M 8 j ≤ t) && decide (t ≤ nm h M 9 j)) && hasB (nm h M) B j) (N := n) (F := fun k z => f_X12_isDeputy_b3 k h M B k0 t z) (a0 := some (h, b2i false)) (a1 := some (h, b2i true)) (by omega) (fun k i hi => by
      show f_X12_isDeputy_c3 (f_X12_isDeputy_b3 k) h M B k0 t (Int32.ofNat i) = _
      unfold f_X12_isDeputy_c3 f_X12_isDeputy_c67
      rw [m_gI hM 3, Option.bind_some, hn3]
      by_cases h1 : n ≤ i
      · rw [if_pos ((ia_le (by omega) (by omega)).mpr h1), if_pos h1]; rfl
      · rw [if_neg (fun e => h1 ((ia_le (by omega) (by omega)).mp e)), if_neg h1, m_gP hM 4, Option.bind_some, m_r hM 4 (by show i < 160; omega), Option.bind_some, show (1 : Int32) = Int32.ofNat 1 from rfl, ia_add]
        by_cases h2 : nm h M 4 i = 2
        · rw [if_pos h2, m_gP hM 7, Option.bind_some, m_r hM 7 (by show i < 160; omega), Option.bind_some]
          by_cases h3 : nm h M 7 i = k0
          · rw [if_pos h3, m_gP hM 8, Option.bind_some, m_r hM 8 (by show i < 160; omega), Option.bind_some, m_gP hM 9, Option.bind_some, m_r hM 9 (by show i < 160; omega), Option.bind_some, do_eq (m_in h _ _ _), ite_b, m_rcv hM, Option.bind_some, do_eq (m_has_w hM hI hB (j := i) (by omega)), ite_b, h2, h3]
            cases (decide (nm h M 8 i ≤ t) && decide (t ≤ nm h M 9 i)) <;> cases hasB (nm h M) B i <;> simp [nk_zr_1, b2i]
          · rw [if_neg h3]
            have : decide (nm h M 7 i = k0) = false := decide_eq_false h3
            simp [this]
        · rw [if_neg h2]
          have : decide (nm h M 4 i = 2) = false := decide_eq_false h2
          simp [this]) 4096 0 (by omega) (by omega) (fun j hj => by omega)
  show f_X12_isDeputy_b3 4096 h M B k0 t (Int32.ofNat 0) = _
  rw [key]
  unfold deputyB
  cases anyB (fun j => decide (nm h M 4 j = 2) && decide (nm h M 7 j = k0) && (decide (nm h M 8 j ≤ t) && decide (t ≤ nm h M 9 j)) && hasB (nm h M) B j) n <;> rfl
theorem m_tot_w (hM : MR h M) (hI : Inw (nm h M) n w a c hr) {B : Int32} (hB : byok n B) (t : Int32) {q : Nat} (hq : q < w) : f_X12_isAboveTotals h M B (Int32.ofNat q) t = some (h, b2i (totB (nm h M) n w B q t)) := by
  have hw := hI.1.2.2.2.1
  unfold f_X12_isAboveTotals
  rw [m_line_w (F := fun k z => f_X12_isAboveTotals_b3 k h M B t z) (P := fun x => !decide (doneS (nm h M) n w B x + t ≤ nm h M 19 x)) false true hI hq (fun k => by
      show f_X12_isAboveTotals_c3 (f_X12_isAboveTotals_b3 k) h M B t (-1) = _
      unfold f_X12_isAboveTotals_c3
      rw [if_pos rfl]; rfl) (fun k x hx => by
      show f_X12_isAboveTotals_c3 (f_X12_isAboveTotals_b3 k) h M B t (Int32.ofNat x) = _
      unfold f_X12_isAboveTotals_c3
      rw [if_neg (ia_m1 (by omega)), m_rcv hM, Option.bind_some, do_eq (m_done_w hM hI hB hx), m_gP hM 19, Option.bind_some, m_r hM 19 (by show x < 40; omega), Option.bind_some, m_gP hM 16, Option.bind_some, m_r hM 16 (by show x < 40; omega), Option.bind_some]
      by_cases e : doneS (nm h M) n w B x + t ≤ nm h M 19 x <;> simp [e, nk_zr_1, b2i])]
  unfold totB
  cases lineB (nm h M) w (fun x => !decide (doneS (nm h M) n w B x + t ≤ nm h M 19 x)) q <;> rfl
theorem m_reason_w (hM : MR h M) (hI : Inw (nm h M) n w a c hr) {B : Int32} (hB : byok n B) (k0 t person kind amt off : Int32) {q : Nat} (hq : q < w) : f_X12_reason h M B k0 t person (Int32.ofNat q) kind amt off = some (h, reasonS (nm h M) n w B k0 t person q kind amt off) := by
  have hw := hI.1.2.2.2.1
  unfold f_X12_reason f_X12_reason_c125 f_X12_reason_c116
  rw [m_rcv hM, Option.bind_some, do_eq (m_known_w hM hI hB hq), ite_b]
  unfold reasonS
  cases h1 : knownB (nm h M) w B q with
  | false => rfl
  | true =>
    rw [if_pos rfl, if_neg (by decide), m_gP hM 15, Option.bind_some, m_r hM 15 (by show q < 40; omega), Option.bind_some]
    by_cases h2 : nm h M 15 q = person
    · rw [if_pos h2, if_neg (fun e => e h2), m_rcv hM, Option.bind_some, do_eq (m_rev_w hM hI hB hq), ite_b]
      cases h3 : revB (nm h M) n w B q with
      | true => rfl
      | false =>
        rw [if_neg (by decide), if_neg (by decide), m_rcv hM, Option.bind_some, do_eq (m_over_w hM hI t hq), ite_b]
        cases h4 : overB (nm h M) w q t with
        | true => rfl
        | false =>
          rw [if_neg (by decide), if_neg (by decide), m_gP hM 17, Option.bind_some, m_r hM 17 (by show q < 40; omega), Option.bind_some]
          by_cases h5 : (nm h M 17 q >>> (kind &&& 31)) &&& 1 = 0
          · rw [if_pos h5, if_pos h5]
          · rw [if_neg h5, if_neg h5, m_rcv hM, Option.bind_some, do_eq (m_lim_w hM hI amt hq), ite_b]
            cases h6 : limB (nm h M) w q amt with
            | true => rfl
            | false =>
              rw [if_neg (by decide), if_neg (by decide), m_rcv hM, Option.bind_some, do_eq (m_tot_w hM hI hB amt hq), ite_b]
              cases h7 : totB (nm h M) n w B q amt with
              | true => rfl
              | false =>
                rw [if_neg (by decide), if_neg (by decide), m_rcv hM, Option.bind_some, do_eq (m_deputy_w hM hI hB k0 t)]
                by_cases h8 : off = 1
                · simp only [if_pos h8]
                  split <;> rfl
                · simp only [if_neg h8]
                  split <;> rfl
    · rw [if_neg h2, if_pos h2]
end MW
/-- all but the counts, the seals and what stands is the same -/
def eqX (s s' : Nat → Nat → Int32) : Prop := ∀ k, (k ≠ 0 ∧ k ≠ 29 ∧ k ≠ 30 ∧ k ≠ 35 ∧ k ≠ 36) → s' k = s k
section MX
variable {h : nk_H} {M n w a c hr : Nat} {s s' : Nat → Nat → Int32}
theorem eqX.f (e : eqX s s') (k : Nat) (hk : k ≠ 0 ∧ k ≠ 29 ∧ k ≠ 30 ∧ k ≠ 35 ∧ k ≠ 36) : s' k = s k := e k hk
theorem hasB_x (e : eqX s s') : hasB s' = hasB s := by
  funext B j
  unfold hasB sN
  rw [e.f 5 (by decide), e.f 6 (by decide), e.f 10 (by decide), e.f 11 (by decide)]
theorem lineB_x (e : eqX s s') (w : Nat) : lineB s' w = lineB s w := by
  have : srcw s' w = srcw s w := by
    funext q
    unfold srcw src sN
    rw [e.f 16 (by decide)]
  funext P q
  unfold lineB
  rw [this]
theorem knownB_x (e : eqX s s') (w : Nat) : knownB s' w = knownB s w := by
  funext B q
  unfold knownB sN
  rw [lineB_x e, hasB_x e, e.f 13 (by decide)]
theorem revB_x (e : eqX s s') (n w : Nat) : revB s' n w = revB s n w := by
  funext B q
  unfold revB
  rw [lineB_x e, hasB_x e, e.f 4 (by decide), e.f 7 (by decide)]
theorem overB_x (e : eqX s s') (w : Nat) : overB s' w = overB s w := by
  funext q t
  unfold overB
  rw [lineB_x e, e.f 20 (by decide)]
theorem limB_x (e : eqX s s') (w : Nat) : limB s' w = limB s w := by
  funext q t
  unfold limB
  rw [lineB_x e, e.f 18 (by decide)]
theorem doneS_x (e : eqX s s') (n w : Nat) : doneS s' n w = doneS s n w := by
  funext B q
  unfold doneS sN
  rw [lineB_x e, hasB_x e, e.f 4 (by decide), e.f 7 (by decide), e.f 33 (by decide), e.f 34 (by decide)]
theorem totB_x (e : eqX s s') (n w : Nat) : totB s' n w = totB s n w := by
  funext B q t
  unfold totB
  rw [lineB_x e, doneS_x e, e.f 19 (by decide)]
theorem deputyB_x (e : eqX s s') (n : Nat) : deputyB s' n = deputyB s n := by
  funext B k t
  unfold deputyB
  rw [hasB_x e, e.f 4 (by decide), e.f 7 (by decide), e.f 8 (by decide), e.f 9 (by decide)]
theorem reasonS_x (e : eqX s s') (n w : Nat) : reasonS s' n w = reasonS s n w := by
  funext B k t p q kd amt off
  unfold reasonS
  rw [knownB_x e, revB_x e, overB_x e, limB_x e, totB_x e, deputyB_x e, e.f 15 (by decide), e.f 17 (by decide)]
theorem m_faultOf_w {M : Nat} (H : St h M s) (hI : Inw s n w a c hr) {e : Nat} (he : e < a) : f_X12_faultOf h M (Int32.ofNat e) = some (h, faultS s n w e) := by
  have hn := hI.1.2.1
  have hw := hI.1.2.2.2.1
  have ha := hI.1.2.2.2.2.2.2.1
  obtain ⟨⟨p, hp, ep, -⟩, ⟨q, hq, eq⟩, -⟩ := hI.2.2.2.2.1 e he
  have sq : sN s 33 (6 * e + 1) = q := sN_of eq (by omega)
  have sp : sN s 32 e = p := sN_of ep (by omega)
  have hI1 : Inw (nm h M) n w a c hr := by rw [H.2]; exact hI
  have hB : byok n (6 + Int32.ofNat p) := Or.inr (Or.inr ⟨p, hp, by rw [show (6 : Int32) = Int32.ofNat 6 from rfl, ia_add]⟩)
  have hre := fun k0 t person kind amt off => m_reason_w H.1 hI1 hB k0 t person kind amt off hq
  unfold f_X12_faultOf
  have e60 : (6 : Int32) * Int32.ofNat e = Int32.ofNat (6 * e) := by rw [show (6 : Int32) = Int32.ofNat 6 from rfl, ia_mul]
  have e61 : Int32.ofNat (6 * e) + 1 = Int32.ofNat (6 * e + 1) := ia_1 _
  have e62 : Int32.ofNat (6 * e) + 2 = Int32.ofNat (6 * e + 2) := by rw [show (2 : Int32) = Int32.ofNat 2 from rfl, ia_add]
  have e64 : Int32.ofNat (6 * e) + 4 = Int32.ofNat (6 * e + 4) := by rw [show (4 : Int32) = Int32.ofNat 4 from rfl, ia_add]
  rw [w_gP H 32, w_aI H 32 (by show e < 160; omega), ep, w_gP H 5, w_aI H 5 (by show p < 160; omega), w_gP H 6, w_aI H 6 (by show p < 160; omega), e60, w_gP H 33, w_aI H 33 (by show 6 * e < 960; omega), w_gP H 33, e61, w_aI H 33 (by show 6 * e + 1 < 960; omega), w_gP H 33, e62, w_aI H 33 (by show 6 * e + 2 < 960; omega), w_gP H 34, w_aI H 34 (by show e < 160; omega), w_gP H 33, e64, w_aI H 33 (by show 6 * e + 4 < 960; omega), w_rcv H, eq, do_eq (hre _ _ _ _ _ _), H.2]
  unfold faultS
  rw [sp, sq, show (6 : Int32) = Int32.ofNat 6 from rfl, ia_add]
theorem faultS_x (e : eqX s s') (n w x : Nat) : faultS s' n w x = faultS s n w x := by
  unfold faultS sN
  rw [reasonS_x e, e.f 32 (by decide), e.f 5 (by decide), e.f 6 (by decide), e.f 33 (by decide), e.f 34 (by decide)]
theorem Inv.ww (hI : Inv s' n w a c hr) (e : ∀ x, x ≠ 29 → x ≠ 30 → x ≠ 36 → s x = s' x) : Inw s n w a c hr := by
  have o1 : ∀ x y, x ≠ 29 → x ≠ 30 → x ≠ 36 → s x y = s' x y := fun x y h1 h2 h3 => by rw [e x h1 h2 h3]
  obtain ⟨⟨i1, i2, i3, i4, i5, i6, i7, i8, i9, i10, i11⟩, hI1, hI2, hI3, hI4, -, -, -, hI8, -⟩ := hI
  refine ⟨⟨by rw [e 3 (by decide) (by decide) (by decide)]; exact i1, i2, by rw [e 12 (by decide) (by decide) (by decide)]; exact i3, i4, i5, trivial, i7, by rw [e 37 (by decide) (by decide) (by decide)]; exact i8, i9, by rw [e 1 (by decide) (by decide) (by decide)]; exact i10, i11⟩, hI1.cg (fun k hk => e k (by omega) (by omega) (by omega)), hI2.cg (fun k hk => e k (by omega) (by omega) (by omega)), hI3.cg (fun k hk => e k (by omega) (by omega) (by omega)), fun x hx => ?_, trivial, trivial, trivial, hI8.cg (fun k hk => e k (by omega) (by omega) (by omega)), trivial⟩
  obtain ⟨q1, q2, q3, q4, -⟩ := hI4 x hx
  rw [e 32 (by decide) (by decide) (by decide), e 4 (by decide) (by decide) (by decide), e 7 (by decide) (by decide) (by decide), e 33 (by decide) (by decide) (by decide)]
  exact ⟨q1, q2, q3, q4, trivial⟩
end MX
