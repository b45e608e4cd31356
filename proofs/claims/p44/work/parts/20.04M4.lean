def knownB (s : Nat → Nat → Int32) (w : Nat) (B : Int32) (q : Nat) : Bool := !lineB s w (fun x => !hasB s B (sN s 13 x)) q
def revB (s : Nat → Nat → Int32) (n w : Nat) (B : Int32) (q : Nat) : Bool := anyB (fun j => decide (s 4 j = 1) && lineB s w (fun x => decide (Int32.ofNat x = s 7 j)) q && hasB s B j) n
def overB (s : Nat → Nat → Int32) (w q : Nat) (t : Int32) : Bool := lineB s w (fun x => !decide (t ≤ s 20 x)) q
def doneS (s : Nat → Nat → Int32) (n w : Nat) (B : Int32) (q : Nat) : Int32 := sumB (fun j => if (decide (s 4 j = 3) && lineB s w (fun x => decide (Int32.ofNat x = Int32.ofNat q)) (sN s 33 (6 * sN s 7 j + 1)) && hasB s B j) = true then s 34 (sN s 7 j) else 0) n
def deputyB (s : Nat → Nat → Int32) (n : Nat) (B k t : Int32) : Bool := anyB (fun j => decide (s 4 j = 2) && decide (s 7 j = k) && (decide (s 8 j ≤ t) && decide (t ≤ s 9 j)) && hasB s B j) n
def limB (s : Nat → Nat → Int32) (w q : Nat) (amt : Int32) : Bool := lineB s w (fun x => !decide (amt ≤ s 18 x)) q
def totB (s : Nat → Nat → Int32) (n w : Nat) (B : Int32) (q : Nat) (amt : Int32) : Bool := lineB s w (fun x => !decide (doneS s n w B x + amt ≤ s 19 x)) q
def reasonS (s : Nat → Nat → Int32) (n w : Nat) (B k t person : Int32) (q : Nat) (kind amt off : Int32) : Int32 :=
  if knownB s w B q = false then 1 else if s 15 q ≠ person then 2 else if revB s n w B q = true then 3 else if overB s w q t = true then 4 else if (s 17 q >>> (kind &&& 31)) &&& 1 = 0 then 5
  else if limB s w q amt = true then 6 else if totB s n w B q amt = true then 7 else if b2i (deputyB s n B k t) = (if off = 1 then 1 else 0) then 0 else 8
section MQ2
variable {h : nk_H} {M n w a c hr : Nat}
theorem m_r (hM : MR h M) (k : Nat) {j : Nat} (hj : j < ml k) (hk : k < 45 := by decide) (h0 : mo k ≠ 0 := by decide) (h1 : mk k = 1 := by decide) : nk_aI 1 h (some (M + mo k)) (Int32.ofNat j) = some (nm h M k j) := by
  have := m_aI hM k j hj hk h0
  rw [h1] at this
  exact this
theorem ite_b {α : Type} (b : Bool) (x y : α) : (if b2i b = 0 then x else y) = if b = true then y else x := by cases b <;> rfl
theorem m_line (F : Nat → Int32 → Option (nk_H × Int32)) (P : Nat → Bool) (z o : Bool) (hI : Inv (nm h M) n w a c hr) {q : Nat} (hq : q < w)
    (h0 : ∀ k, F (k + 1) (-1) = some (h, b2i z)) (hF : ∀ k x, x < w → F (k + 1) (Int32.ofNat x) = if P x = true then some (h, b2i o) else F k (nm h M 16 x)) : F 4096 (Int32.ofNat q) = some (h, b2i (if lineB (nm h M) w P q = true then o else z)) := by
  have hw := hI.1.2.2.2.1
  have key := loop_ch (src := srcw (nm h M) w) (P := P) (F := F) (a0 := some (h, b2i z)) (a1 := some (h, b2i o)) (w := w) on (srcw_lt hI) h0 (fun k x hx => by
      show F (k + 1) (Int32.ofNat x) = _
      rw [hF k x hx, on_src hI hx]) 4096 (some q) (by omega) (fun r hr => by cases hr; exact hq)
  show F 4096 (on (some q)) = _
  rw [key]
  unfold lineB
  cases chB (srcw (nm h M) w) P w (some q) <;> rfl
theorem m_known (hM : MR h M) (hI : Inv (nm h M) n w a c hr) {B : Int32} (hB : byok n B) {q : Nat} (hq : q < w) : f_X12_isKnown h M B (Int32.ofNat q) = some (h, b2i (knownB (nm h M) w B q)) := by
  have hw := hI.1.2.2.2.1
  unfold f_X12_isKnown
  rw [m_line (F := fun k z => f_X12_isKnown_b2 k h M B z) (P := fun x => !hasB (nm h M) B (sN (nm h M) 13 x)) true false hI hq (fun k => by
      show f_X12_isKnown_c2 (f_X12_isKnown_b2 k) h M B (-1) = _
      unfold f_X12_isKnown_c2
      rw [if_pos rfl]; rfl) (fun k x hx => by
      show f_X12_isKnown_c2 (f_X12_isKnown_b2 k) h M B (Int32.ofNat x) = _
      unfold f_X12_isKnown_c2
      obtain ⟨⟨p, hp, ep, -⟩, -⟩ := hI.2.2.2.1 x hx
      have e13 : sN (nm h M) 13 x = p := by
        have := hI.1.2.1
        unfold sN; rw [ep, ia_nn (by omega)]
      rw [if_neg (ia_m1 (by omega)), m_gP hM 13, Option.bind_some, m_r hM 13 (by show x < 40; omega), Option.bind_some, m_rcv hM, Option.bind_some, ep, do_eq (m_has hM hI hB hp), e13, ite_b, m_gP hM 16, Option.bind_some, m_r hM 16 (by show x < 40; omega), Option.bind_some]
      cases hasB (nm h M) B p <;> rfl)]
  unfold knownB
  cases lineB (nm h M) w (fun x => !hasB (nm h M) B (sN (nm h M) 13 x)) q <;> rfl
theorem m_over (hM : MR h M) (hI : Inv (nm h M) n w a c hr) (t : Int32) {q : Nat} (hq : q < w) : f_X12_isOver h M (Int32.ofNat q) t = some (h, b2i (overB (nm h M) w q t)) := by
  have hw := hI.1.2.2.2.1
  unfold f_X12_isOver
  rw [m_line (F := fun k z => f_X12_isOver_b2 k h M t z) (P := fun x => !decide (t ≤ nm h M 20 x)) false true hI hq (fun k => by
      show f_X12_isOver_c2 (f_X12_isOver_b2 k) h M t (-1) = _
      unfold f_X12_isOver_c2
      rw [if_pos rfl]; rfl) (fun k x hx => by
      show f_X12_isOver_c2 (f_X12_isOver_b2 k) h M t (Int32.ofNat x) = _
      unfold f_X12_isOver_c2
      rw [if_neg (ia_m1 (by omega)), m_gP hM 20, Option.bind_some, m_r hM 20 (by show x < 40; omega), Option.bind_some, m_gP hM 16, Option.bind_some, m_r hM 16 (by show x < 40; omega), Option.bind_some]
      by_cases e : t ≤ nm h M 20 x <;> simp [e, nk_zr_1, b2i])]
  unfold overB
  cases lineB (nm h M) w (fun x => !decide (t ≤ nm h M 20 x)) q <;> rfl
theorem m_lim (hM : MR h M) (hI : Inv (nm h M) n w a c hr) (t : Int32) {q : Nat} (hq : q < w) : f_X12_isAboveLimits h M (Int32.ofNat q) t = some (h, b2i (limB (nm h M) w q t)) := by
  have hw := hI.1.2.2.2.1
  unfold f_X12_isAboveLimits
  rw [m_line (F := fun k z => f_X12_isAboveLimits_b2 k h M t z) (P := fun x => !decide (t ≤ nm h M 18 x)) false true hI hq (fun k => by
      show f_X12_isAboveLimits_c2 (f_X12_isAboveLimits_b2 k) h M t (-1) = _
      unfold f_X12_isAboveLimits_c2
      rw [if_pos rfl]; rfl) (fun k x hx => by
      show f_X12_isAboveLimits_c2 (f_X12_isAboveLimits_b2 k) h M t (Int32.ofNat x) = _
      unfold f_X12_isAboveLimits_c2
      rw [if_neg (ia_m1 (by omega)), m_gP hM 18, Option.bind_some, m_r hM 18 (by show x < 40; omega), Option.bind_some, m_gP hM 16, Option.bind_some, m_r hM 16 (by show x < 40; omega), Option.bind_some]
      by_cases e : t ≤ nm h M 18 x <;> simp [e, nk_zr_1, b2i])]
  unfold limB
  cases lineB (nm h M) w (fun x => !decide (t ≤ nm h M 18 x)) q <;> rfl
theorem m_rev (hM : MR h M) (hI : Inv (nm h M) n w a c hr) {B : Int32} (hB : byok n B) {q : Nat} (hq : q < w) : f_X12_isRevoked h M B (Int32.ofNat q) = some (h, b2i (revB (nm h M) n w B q)) := by
  have hw := hI.1.2.2.2.1
  have hn := hI.1.2.1
  have hn3 := hI.1.1
  unfold f_X12_isRevoked
  have key := loop_any (P := fun j => decide (nm h M 4 j = 1) && lineB (nm h M) w (fun x => decide (Int32.ofNat x = nm h M 7 j)) q && hasB (nm h M) B j) (N := n) (F := fun k z => f_X12_isRevoked_b2 k h M B (Int32.ofNat q) z) (a0 := some (h, b2i false)) (a1 := some (h, b2i true)) (by omega) (fun k i hi => by
      show f_X12_isRevoked_c2 (f_X12_isRevoked_b2 k) h M B (Int32.ofNat q) (Int32.ofNat i) = _
      unfold f_X12_isRevoked_c2 f_X12_isRevoked_c45
      rw [m_gI hM 3, Option.bind_some, hn3]
      by_cases h1 : n ≤ i
      · rw [if_pos ((ia_le (by omega) (by omega)).mpr h1), if_pos h1]; rfl
      · rw [if_neg (fun e => h1 ((ia_le (by omega) (by omega)).mp e)), if_neg h1, m_gP hM 4, Option.bind_some, m_r hM 4 (by show i < 160; omega), Option.bind_some, show (1 : Int32) = Int32.ofNat 1 from rfl, ia_add]
        by_cases h2 : nm h M 4 i = Int32.ofNat 1
        · rw [if_pos h2, m_gP hM 7, Option.bind_some, m_r hM 7 (by show i < 160; omega), Option.bind_some, m_rcv hM, Option.bind_some]
          have h7 : ¬ nm h M 7 i < 0 := by
            obtain ⟨-, -, ⟨h4, -⟩ | ⟨-, x, hx, e⟩ | ⟨h4, -⟩ | ⟨h4, -⟩⟩ := hI.2.1 i (by omega)
            · rw [h4] at h2; exact absurd h2 (by decide)
            · rw [e]; exact ia_n0 (by omega)
            · rw [h4] at h2; exact absurd h2 (by decide)
            · rw [h4] at h2; exact absurd h2 (by decide)
          rw [do_eq (m_inLine hM hI _ hq h7), ite_b, m_rcv hM, Option.bind_some, do_eq (m_has hM hI hB (j := i) (by omega)), ite_b, h2]
          cases lineB (nm h M) w (fun x => decide (Int32.ofNat x = nm h M 7 i)) q <;> cases hasB (nm h M) B i <;> rfl
        · rw [if_neg h2]
          have : decide (nm h M 4 i = Int32.ofNat 1) = false := decide_eq_false h2
          rw [this]
          rfl) 4096 0 (by omega) (by omega) (fun j hj => by omega)
  show f_X12_isRevoked_b2 4096 h M B (Int32.ofNat q) (Int32.ofNat 0) = _
  rw [key]
  unfold revB
  cases anyB (fun j => decide (nm h M 4 j = 1) && lineB (nm h M) w (fun x => decide (Int32.ofNat x = nm h M 7 j)) q && hasB (nm h M) B j) n <;> rfl
theorem m_done (hM : MR h M) (hI : Inv (nm h M) n w a c hr) {B : Int32} (hB : byok n B) {q : Nat} (hq : q < w) : f_X12_doneWith h M B (Int32.ofNat q) = some (h, doneS (nm h M) n w B q) := by
  have hw := hI.1.2.2.2.1
  have hn := hI.1.2.1
  have hn3 := hI.1.1
  have ha := hI.1.2.2.2.2.2.2.1
  unfold f_X12_doneWith
  have key := loop_sum (g := fun j => if (decide (nm h M 4 j = 3) && lineB (nm h M) w (fun x => decide (Int32.ofNat x = Int32.ofNat q)) (sN (nm h M) 33 (6 * sN (nm h M) 7 j + 1)) && hasB (nm h M) B j) = true then nm h M 34 (sN (nm h M) 7 j) else 0) (N := n) (F := fun k acc z => f_X12_doneWith_b5 k h M B (Int32.ofNat q) acc z) (A := fun acc => some (h, acc)) (fun k i acc hi => by
      show f_X12_doneWith_c5 (f_X12_doneWith_b5 k) h M B (Int32.ofNat q) acc (Int32.ofNat i) = _
      unfold f_X12_doneWith_c5 f_X12_doneWith_c75
      rw [m_gI hM 3, Option.bind_some, hn3]
      by_cases h1 : n ≤ i
      · rw [if_pos ((ia_le (by omega) (by omega)).mpr h1), if_pos h1]
      · rw [if_neg (fun e => h1 ((ia_le (by omega) (by omega)).mp e)), if_neg h1, m_gP hM 4, Option.bind_some, m_r hM 4 (by show i < 160; omega), Option.bind_some, show (1 : Int32) = Int32.ofNat 1 from rfl, ia_add]
        by_cases h2 : nm h M 4 i = 3
        · obtain ⟨-, -, ⟨h4, -⟩ | ⟨h4, -⟩ | ⟨h4, -⟩ | ⟨-, e, he, e7, -⟩⟩ := hI.2.1 i (by omega)
          · rw [h4] at h2; exact absurd h2 (by decide)
          · rw [h4] at h2; exact absurd h2 (by decide)
          · rw [h4] at h2; exact absurd h2 (by decide)
          · have s7 : sN (nm h M) 7 i = e := by unfold sN; rw [e7, ia_nn (by omega)]
            obtain ⟨-, ⟨x, hx, ex⟩, -⟩ := hI.2.2.2.2.1 e he
            have s33 : sN (nm h M) 33 (6 * e + 1) = x := by unfold sN; rw [ex, ia_nn (by omega)]
            rw [if_pos h2, m_gP hM 33, Option.bind_some, m_gP hM 7, Option.bind_some, m_r hM 7 (by show i < 160; omega), Option.bind_some, e7, show (6 : Int32) = Int32.ofNat 6 from rfl, ia_mul, ia_add, m_r hM 33 (by show 6 * e + 1 < 960; omega), Option.bind_some, m_rcv hM, Option.bind_some, ex, do_eq (m_inLine hM hI _ hx (ia_n0 (by omega))), ite_b, m_rcv hM, Option.bind_some, do_eq (m_has hM hI hB (j := i) (by omega)), ite_b, m_gP hM 34, Option.bind_some, m_gP hM 7, Option.bind_some, m_r hM 7 (by show i < 160; omega), Option.bind_some, e7, m_r hM 34 (by show e < 160; omega), Option.bind_some, s7, s33, h2]
            cases lineB (nm h M) w (fun x => decide (Int32.ofNat x = Int32.ofNat q)) x <;> cases hasB (nm h M) B i <;> simp
        · rw [if_neg h2]
          have : decide (nm h M 4 i = 3) = false := decide_eq_false h2
          simp [this]) 4096 0 (by omega) (by omega)
  exact key
theorem m_deputy (hM : MR h M) (hI : Inv (nm h M) n w a c hr) {B : Int32} (hB : byok n B) (k0 t : Int32) : f_X12_isDeputy h M B k0 t = some (h, b2i (deputyB (nm h M) n B k0 t)) := by
  have hn := hI.1.2.1
  have hn3 := hI.1.1
  unfold f_X12_isDeputy
  have key := loop_any (P := fun j => decide (nm h M 4 j = 2) && decide (nm h M 7 j = k0) && (decide (nm h M 8 j ≤ t) && decide (t ≤ nm h M 9 j)) && hasB (nm h M) B j) (N := n) (F := fun k z => f_X12_isDeputy_b3 k h M B k0 t z) (a0 := some (h, b2i false)) (a1 := some (h, b2i true)) (by omega) (fun k i hi => by
      show f_X12_isDeputy_c3 (f_X12_isDeputy_b3 k) h M B k0 t (Int32.ofNat i) = _
      unfold f_X12_isDeputy_c3 f_X12_isDeputy_c67
      rw [m_gI hM 3, Option.bind_some, hn3]
      by_cases h1 : n ≤ i
      · rw [if_pos ((ia_le (by omega) (by omega)).mpr h1), if_pos h1]; rfl
      · rw [if_neg (fun e => h1 ((ia_le (by omega) (by omega)).mp e)), if_neg h1, m_gP hM 4, Option.bind_some, m_r hM 4 (by show i < 160; omega), Option.bind_some, show (1 : Int32) = Int32.ofNat 1 from rfl, ia_add]
        by_cases h2 : nm h M 4 i = 2
        · rw [if_pos h2, m_gP hM 7, Option.bind_some, m_r hM 7 (by show i < 160; omega), Option.bind_some]
          by_cases h3 : nm h M 7 i = k0
          · rw [if_pos h3, m_gP hM 8, Option.bind_some, m_r hM 8 (by show i < 160; omega), Option.bind_some, m_gP hM 9, Option.bind_some, m_r hM 9 (by show i < 160; omega), Option.bind_some, do_eq (m_in h _ _ _), ite_b, m_rcv hM, Option.bind_some, do_eq (m_has hM hI hB (j := i) (by omega)), ite_b, h2, h3]
            cases (decide (nm h M 8 i ≤ t) && decide (t ≤ nm h M 9 i)) <;> cases hasB (nm h M) B i <;> simp [nk_zr_1, b2i]
          · rw [if_neg h3]
            have : decide (nm h M 7 i = k0) = false := decide_eq_false h3
            simp [this]
        · rw [if_neg h2]
          have : decide (nm h M 4 i = 2) = false := decide_eq_false h2
          simp [this]) 4096 0 (by omega) (by omega) (fun j hj => by omega)
  show f_X12_isDeputy_b3 4096 h M B k0 t (Int32.ofNat 0) = _
  rw [key]
  unfold deputyB
  cases anyB (fun j => decide (nm h M 4 j = 2) && decide (nm h M 7 j = k0) && (decide (nm h M 8 j ≤ t) && decide (t ≤ nm h M 9 j)) && hasB (nm h M) B j) n <;> rfl
theorem m_tot (hM : MR h M) (hI : Inv (nm h M) n w a c hr) {B : Int32} (hB : byok n B) (t : Int32) {q : Nat} (hq : q < w) : f_X12_isAboveTotals h M B (Int32.ofNat q) t = some (h, b2i (totB (nm h M) n w B q t)) := by
  have hw := hI.1.2.2.2.1
  unfold f_X12_isAboveTotals
  rw [m_line (F := fun k z => f_X12_isAboveTotals_b3 k h M B t z) (P := fun x => !decide (doneS (nm h M) n w B x + t ≤ nm h M 19 x)) false true hI hq (fun k => by
      show f_X12_isAboveTotals_c3 (f_X12_isAboveTotals_b3 k) h M B t (-1) = _
      unfold f_X12_isAboveTotals_c3
      rw [if_pos rfl]; rfl) (fun k x hx => by
      show f_X12_isAboveTotals_c3 (f_X12_isAboveTotals_b3 k) h M B t (Int32.ofNat x) = _
      unfold f_X12_isAboveTotals_c3
      rw [if_neg (ia_m1 (by omega)), m_rcv hM, Option.bind_some, do_eq (m_done hM hI hB hx), m_gP hM 19, Option.bind_some, m_r hM 19 (by show x < 40; omega), Option.bind_some, m_gP hM 16, Option.bind_some, m_r hM 16 (by show x < 40; omega), Option.bind_some]
      by_cases e : doneS (nm h M) n w B x + t ≤ nm h M 19 x <;> simp [e, nk_zr_1, b2i])]
  unfold totB
  cases lineB (nm h M) w (fun x => !decide (doneS (nm h M) n w B x + t ≤ nm h M 19 x)) q <;> rfl
theorem m_reason (hM : MR h M) (hI : Inv (nm h M) n w a c hr) {B : Int32} (hB : byok n B) (k0 t person kind amt off : Int32) {q : Nat} (hq : q < w) : f_X12_reason h M B k0 t person (Int32.ofNat q) kind amt off = some (h, reasonS (nm h M) n w B k0 t person q kind amt off) := by
  have hw := hI.1.2.2.2.1
  unfold f_X12_reason f_X12_reason_c125 f_X12_reason_c116
  rw [m_rcv hM, Option.bind_some, do_eq (m_known hM hI hB hq), ite_b]
  unfold reasonS
  cases h1 : knownB (nm h M) w B q with
  | false => rfl
  | true =>
    rw [if_pos rfl, if_neg (by decide), m_gP hM 15, Option.bind_some, m_r hM 15 (by show q < 40; omega), Option.bind_some]
    by_cases h2 : nm h M 15 q = person
    · rw [if_pos h2, if_neg (fun e => e h2), m_rcv hM, Option.bind_some, do_eq (m_rev hM hI hB hq), ite_b]
      cases h3 : revB (nm h M) n w B q with
      | true => rfl
      | false =>
        rw [if_neg (by decide), if_neg (by decide), m_rcv hM, Option.bind_some, do_eq (m_over hM hI t hq), ite_b]
        cases h4 : overB (nm h M) w q t with
        | true => rfl
        | false =>
          rw [if_neg (by decide), if_neg (by decide), m_gP hM 17, Option.bind_some, m_r hM 17 (by show q < 40; omega), Option.bind_some]
          by_cases h5 : (nm h M 17 q >>> (kind &&& 31)) &&& 1 = 0
          · rw [if_pos h5, if_pos h5]
          · rw [if_neg h5, if_neg h5, m_rcv hM, Option.bind_some, do_eq (m_lim hM hI amt hq), ite_b]
            cases h6 : limB (nm h M) w q amt with
            | true => rfl
            | false =>
              rw [if_neg (by decide), if_neg (by decide), m_rcv hM, Option.bind_some, do_eq (m_tot hM hI hB amt hq), ite_b]
              cases h7 : totB (nm h M) n w B q amt with
              | true => rfl
              | false =>
                rw [if_neg (by decide), if_neg (by decide), m_rcv hM, Option.bind_some, do_eq (m_deputy hM hI hB k0 t)]
                by_cases h8 : off = 1
                · simp only [if_pos h8]
                  split <;> rfl
                · simp only [if_neg h8]
                  split <;> rfl
    · rw [if_neg h2, if_pos h2]
theorem m_goodAt (hM : MR h M) (hI : Inv (nm h M) n w a c hr) {B : Int32} (hB : byok n B) {q : Nat} (hq : q < w) : f_X12_isGoodAt h M B (Int32.ofNat q) = some (h, b2i (knownB (nm h M) w B q && !revB (nm h M) n w B q && !overB (nm h M) w q (nm h M 1 0))) := by
  unfold f_X12_isGoodAt f_X12_isGoodAt_c34 f_X12_isGoodAt_c35
  rw [m_rcv hM, Option.bind_some, do_eq (m_known hM hI hB hq), ite_b]
  cases h1 : knownB (nm h M) w B q with
  | false => rfl
  | true =>
    rw [if_pos rfl, m_rcv hM, Option.bind_some, do_eq (m_rev hM hI hB hq), ite_b]
    cases h3 : revB (nm h M) n w B q with
    | true => rfl
    | false =>
      rw [if_neg (by decide), m_gI hM 1, Option.bind_some, m_rcv hM, Option.bind_some, do_eq (m_over hM hI _ hq), ite_b]
      cases h4 : overB (nm h M) w q (nm h M 1 0) with
      | true => rfl
      | false => rfl
theorem m_reasonNow (hM : MR h M) (hI : Inv (nm h M) n w a c hr) {B : Int32} (hB : byok n B) (person amt : Int32) {q : Nat} (hq : q < w) : f_X12_reasonNow h M B person (Int32.ofNat q) amt = some (h, reasonS (nm h M) n w B B (nm h M 1 0) person q (nm h M 28 0) amt (nm h M 27 0)) := by
  unfold f_X12_reasonNow
  rw [m_gI hM 1, Option.bind_some, m_gI hM 28, Option.bind_some, m_gI hM 27, Option.bind_some, m_rcv hM, Option.bind_some, do_eq (m_reason hM hI hB _ _ _ _ _ _ hq)]
end MQ2
