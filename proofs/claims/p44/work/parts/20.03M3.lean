/-! ===== the reference's invariant; its questions ===== -/
def sN (s : Nat → Nat → Int32) (k j : Nat) : Nat := (s k j).toNatClampNeg
def I0 (s : Nat → Nat → Int32) (n w a c hr : Nat) : Prop := s 3 0 = Int32.ofNat n ∧ n ≤ 160 ∧ s 12 0 = Int32.ofNat w ∧ w ≤ 40 ∧ w ≤ n ∧ s 29 0 = Int32.ofNat a ∧ a ≤ n ∧ s 37 0 = Int32.ofNat c ∧ c ≤ 12 ∧ s 1 0 = Int32.ofNat hr ∧ hr ≤ 400
def I1 (s : Nat → Nat → Int32) (n w a hr : Nat) : Prop := ∀ j, j < n → (∃ k, k < 6 ∧ s 5 j = Int32.ofNat k) ∧ (∃ t, t ≤ hr ∧ s 6 j = Int32.ofNat t) ∧
  ((s 4 j = 0 ∧ ∃ q, q < w ∧ s 7 j = Int32.ofNat q ∧ s 13 q = Int32.ofNat j) ∨ (s 4 j = 1 ∧ ∃ q, q < w ∧ s 7 j = Int32.ofNat q) ∨ (s 4 j = 2 ∧ ∃ k, k < 6 ∧ s 7 j = Int32.ofNat k) ∨ (s 4 j = 3 ∧ ∃ e, e < a ∧ s 7 j = Int32.ofNat e ∧ s 32 e = Int32.ofNat j))
def I2 (s : Nat → Nat → Int32) (n hr : Nat) : Prop := ∀ k, k < 6 → ∀ j, j < 160 → (s 10 (160 * k + j) = -1 ∨ (j < n ∧ ∃ t, t ≤ hr ∧ sN s 6 j ≤ t ∧ s 10 (160 * k + j) = Int32.ofNat t)) ∧ (s 11 (160 * k + j) = 0 ∨ (s 11 (160 * k + j) = 1 ∧ s 10 (160 * k + j) ≠ -1))
def I3 (s : Nat → Nat → Int32) (n w : Nat) : Prop := ∀ q, q < w → (∃ p, p < n ∧ s 13 q = Int32.ofNat p ∧ s 4 p = 0 ∧ s 7 p = Int32.ofNat q) ∧ (s 16 q = -1 ∨ ∃ r, r < q ∧ s 16 q = Int32.ofNat r)
def I4 (s : Nat → Nat → Int32) (n w a : Nat) : Prop := ∀ e, e < a → (∃ p, p < n ∧ s 32 e = Int32.ofNat p ∧ s 4 p = 3 ∧ s 7 p = Int32.ofNat e) ∧ (∃ q, q < w ∧ s 33 (6 * e + 1) = Int32.ofNat q) ∧ (∃ k, k < 6 ∧ s 33 (6 * e + 2) = Int32.ofNat k) ∧ (∃ b, s 33 (6 * e + 4) = b2i b) ∧ ∃ b, s 36 e = b2i b
def I5 (s : Nat → Nat → Int32) (a : Nat) : Prop := (∀ k, k < 6 → ∃ r, s 30 k = Int32.ofNat r ∧ r ≤ a ∧ ∀ i, i < r → ∃ e, e < a ∧ s 31 (160 * k + i) = Int32.ofNat e) ∧ sN s 30 0 + sN s 30 1 + sN s 30 2 + sN s 30 3 + sN s 30 4 + sN s 30 5 = a
def I6 (s : Nat → Nat → Int32) (c : Nat) : Prop := ∀ e, e < c → (∃ k f z, k < 6 ∧ s 38 e = Int32.ofNat k ∧ s 39 e = Int32.ofNat f ∧ s 40 e = Int32.ofNat z ∧ 1 ≤ z ∧ f + z ≤ sN s 30 k) ∧ ∃ b, b < 64 ∧ s 41 e = Int32.ofNat b
def I7 (s : Nat → Nat → Int32) : Prop := (∃ b, s 27 0 = b2i b) ∧ (∃ k, k < 6 ∧ s 28 0 = Int32.ofNat k) ∧ ∀ k, k < 6 → ∃ b, b < 64 ∧ s 2 k = Int32.ofNat b
def I8 (s : Nat → Nat → Int32) (n : Nat) : Prop := ∀ j, j < n → s 10 (160 * sN s 5 j + j) = s 6 j ∧ ∀ i, i < j → sN s 6 i ≤ sN s 6 j
/-- as many acts stand as the chains tell -/
def I9 (s : Nat → Nat → Int32) (a : Nat) : Prop := sumB (fun k => sumB (fun r => s 36 (sN s 31 (160 * k + r))) (sN s 30 k)) 6 = sumB (fun e => s 36 e) a
def Inv (s : Nat → Nat → Int32) (n w a c hr : Nat) : Prop := I0 s n w a c hr ∧ I1 s n w a hr ∧ I2 s n hr ∧ I3 s n w ∧ I4 s n w a ∧ I5 s a ∧ I6 s c ∧ I7 s ∧ I8 s n ∧ I9 s a
theorem n_1 : (-1 : Int32) < 0 := by decide
theorem ia_m1 {n : Nat} (h : n < 2147483648) : Int32.ofNat n ≠ -1 := fun e => ia_n0 h (by rw [e]; exact n_1)
theorem ia_0le {n : Nat} (h : n < 2147483648) : (0 : Int32) ≤ Int32.ofNat n := Int32.not_lt.mp (ia_n0 h)
theorem ia_and31 (v : Int32) : v &&& 31 = v &&& 31 := rfl
/-- by which news is asked -/
def byok (n : Nat) (B : Int32) : Prop := B = -1 ∨ (∃ b, b < 6 ∧ B = Int32.ofNat b) ∨ ∃ i, i < n ∧ B = Int32.ofNat (6 + i)
def hasB (s : Nat → Nat → Int32) (B : Int32) (j : Nat) : Bool :=
  if B = -1 then true else if 6 ≤ B then (let i := (B - 6).toNatClampNeg; decide (0 ≤ s 10 (160 * sN s 5 i + j)) && decide (s 10 (160 * sN s 5 i + j) ≤ s 6 i) && (!decide (s 5 j = s 5 i) || decide (j < i)))
  else s 11 (160 * B.toNatClampNeg + j) == 1
def src (s : Nat → Nat → Int32) (q : Nat) : Option Nat := if s 16 q = -1 then none else some (sN s 16 q)
section MQ
variable {h : nk_H} {M n w a c hr : Nat}
theorem m_has (hM : MR h M) (hI : Inv (nm h M) n w a c hr) {B : Int32} (hB : byok n B) {j : Nat} (hj : j < n) : f_X12_has h M B (Int32.ofNat j) = some (h, b2i (hasB (nm h M) B j)) := by
  obtain ⟨⟨i1, i2, i3, i4, i5, i6, i7, i8, i9, i10, i11⟩, hI1, hI2, -⟩ := hI
  unfold f_X12_has f_X12_has_c81 f_X12_has_c85 f_X12_has_c86
  rcases hB with rfl | ⟨b, hb, rfl⟩ | ⟨i, hi, rfl⟩
  · simp [hasB, nk_zr_1, b2i]
  · have h1 : ¬ (6 : Int32) ≤ Int32.ofNat b := by
      rw [show (6 : Int32) = Int32.ofNat 6 from rfl, ia_le (by omega) (by omega)]; omega
    have h2 := (hI2 b hb j (by omega)).2
    rw [if_neg (ia_m1 (by omega)), if_neg h1, m_gP hM 11, Option.bind_some, show (160 : Int32) = Int32.ofNat 160 from rfl, ia_mul, ia_add, show (2 : Nat) = mk 11 from rfl, m_aI hM 11 _ (by show _ < 960; omega), Option.bind_some]
    have h3 : hasB (nm h M) (Int32.ofNat b) j = (nm h M 11 (160 * b + j) == 1) := by
      unfold hasB
      rw [if_neg (ia_m1 (by omega)), if_neg h1, ia_nn (by omega)]
    rw [h3]
    rcases h2 with e | ⟨e, -⟩ <;> rw [e] <;> rfl
  · have h1 : (6 : Int32) ≤ Int32.ofNat (6 + i) := by
      rw [show (6 : Int32) = Int32.ofNat 6 from rfl, ia_le (by omega) (by omega)]; omega
    have h6 : Int32.ofNat (6 + i) - 6 = Int32.ofNat i := by
      rw [show (6 : Int32) = Int32.ofNat 6 from rfl, ia_sub (by omega), Nat.add_sub_cancel_left]
    obtain ⟨⟨k, hk, ek⟩, ⟨t, ht, et⟩, -⟩ := hI1 i hi
    have h3 : hasB (nm h M) (Int32.ofNat (6 + i)) j = (decide (0 ≤ nm h M 10 (160 * k + j)) && decide (nm h M 10 (160 * k + j) ≤ nm h M 6 i) && (!decide (nm h M 5 j = nm h M 5 i) || decide (j < i))) := by
      unfold hasB sN
      rw [if_neg (ia_m1 (by omega)), if_pos h1, h6, ia_nn (by omega)]
      simp only [ek]
      rw [ia_nn (by omega)]
    rw [if_neg (ia_m1 (by omega)), if_pos h1, h3, h6]
    rw [m_gP hM 5, Option.bind_some, show (1 : Nat) = mk 5 from rfl, m_aI hM 5 _ (by show _ < 160; omega), Option.bind_some, m_gP hM 10, Option.bind_some, ek, show (160 : Int32) = Int32.ofNat 160 from rfl, ia_mul, ia_add, show mk 5 = mk 10 from rfl, m_aI hM 10 _ (by show _ < 960; omega), Option.bind_some, m_gP hM 6, Option.bind_some, show mk 10 = mk 6 from rfl, m_aI hM 6 _ (by show _ < 160; omega), Option.bind_some]
    rw [do_eq (m_in h _ _ _)]
    cases hc : (decide (0 ≤ nm h M 10 (160 * k + j)) && decide (nm h M 10 (160 * k + j) ≤ nm h M 6 i)) with
    | false => simp [b2i, nk_zr_0]
    | true =>
      rw [if_neg (by decide), m_gP hM 5, Option.bind_some, show mk 6 = mk 5 from rfl, m_aI hM 5 _ (by show _ < 160; omega), Option.bind_some]
      by_cases h7 : nm h M 5 j = Int32.ofNat k
      · rw [if_pos h7]
        have h10 := ia_le (a := i) (b := j) (by omega) (by omega)
        by_cases h8 : i ≤ j
        · have : ¬ j < i := by omega
          rw [if_pos (h10.mpr h8)]
          simp [this, h7, b2i, nk_zr_0]
        · have : j < i := by omega
          rw [if_neg (fun e => h8 (h10.mp e))]
          simp [h7, this, b2i, nk_zr_1]
      · simp [h7, b2i, nk_zr_1]
/-- the sources of powers -/
theorem src_lt {s : Nat → Nat → Int32} (hI : Inv s n w a c hr) {q r : Nat} (hq : q < w) (e : src s q = some r) : r < q ∧ s 16 q = Int32.ofNat r := by
  rcases (hI.2.2.2.1 q hq).2 with h1 | ⟨r', h1, h2⟩
  · unfold src at e; rw [if_pos h1] at e; cases e
  · have hw := hI.1.2.2.2.1
    unfold src sN at e
    rw [h2, if_neg (ia_m1 (by omega)), ia_nn (by omega)] at e
    cases e
    exact ⟨h1, h2⟩
theorem src_no {s : Nat → Nat → Int32} (hI : Inv s n w a c hr) {q : Nat} (hq : q < w) (e : src s q = none) : s 16 q = -1 := by
  unfold src at e
  by_cases h1 : s 16 q = -1
  · exact h1
  · rw [if_neg h1] at e; cases e
/-- sources of powers that are there; of others none -/
def srcw (s : Nat → Nat → Int32) (w q : Nat) : Option Nat := if q < w then src s q else none
theorem srcw_lt {s : Nat → Nat → Int32} (hI : Inv s n w a c hr) : ∀ q r, srcw s w q = some r → r < q := by
  intro q r e
  unfold srcw at e
  by_cases hq : q < w
  · rw [if_pos hq] at e; exact (src_lt hI hq e).1
  · rw [if_neg hq] at e; cases e
/-- a power's number, or -1 -/
def on (o : Option Nat) : Int32 := match o with
  | none => -1
  | some q => Int32.ofNat q
theorem on_src {s : Nat → Nat → Int32} (hI : Inv s n w a c hr) {q : Nat} (hq : q < w) : s 16 q = on (srcw s w q) := by
  unfold srcw
  rw [if_pos hq]
  cases e : src s q with
  | none => exact src_no hI hq e
  | some r => exact (src_lt hI hq e).2
/-- whether P holds of some power of a line -/
def lineB (s : Nat → Nat → Int32) (w : Nat) (P : Nat → Bool) (q : Nat) : Bool := chB (srcw s w) P w (some q)
/-- the reference's loops along a line, read -/
theorem m_r16 (hM : MR h M) {q : Nat} (hq : q < 40) : nk_aI 1 h (some (M + mo 16)) (Int32.ofNat q) = some (nm h M 16 q) := m_aI hM 16 q (by show q < 40; omega)
theorem m_inLine (hM : MR h M) (hI : Inv (nm h M) n w a c hr) (v : Int32) {q : Nat} (hq : q < w) (hv : ¬ v < 0) : f_X12_isInLine h M v (Int32.ofNat q) = some (h, b2i (lineB (nm h M) w (fun x => decide (Int32.ofNat x = v)) q)) := by
  have hw := hI.1.2.2.2.1
  unfold f_X12_isInLine
  have key := loop_ch (src := srcw (nm h M) w) (P := fun x => decide (Int32.ofNat x = v)) (F := fun k z => f_X12_isInLine_b2 k h M v z) (a0 := some (h, b2i false)) (a1 := some (h, b2i true)) (w := w) on (srcw_lt hI) (fun k => by
      show f_X12_isInLine_c2 (f_X12_isInLine_b2 k) h M v (-1) = _
      unfold f_X12_isInLine_c2 f_X12_isInLine_c22 f_X12_isInLine_c32
      have : ¬ (-1 : Int32) = v := fun e => hv (by rw [← e]; exact n_1)
      rw [if_pos rfl, if_neg this]; rfl) (fun k x hx => by
      show f_X12_isInLine_c2 (f_X12_isInLine_b2 k) h M v (Int32.ofNat x) = _
      unfold f_X12_isInLine_c2 f_X12_isInLine_c22 f_X12_isInLine_c32
      rw [if_neg (ia_m1 (by omega))]
      by_cases e : Int32.ofNat x = v
      · rw [if_pos e, if_pos e, if_pos (by simpa using e)]; rfl
      · rw [if_neg e, if_neg (by simpa using e), m_gP hM 16, Option.bind_some, m_r16 hM (by omega), Option.bind_some, on_src hI hx]) 4096 (some q) (by omega) (fun r hr => by cases hr; exact hq)
  show f_X12_isInLine_b2 4096 h M v (on (some q)) = _
  rw [key]
  unfold lineB
  cases chB (srcw (nm h M) w) (fun x => decide (Int32.ofNat x = v)) w (some q) <;> rfl
end MQ
