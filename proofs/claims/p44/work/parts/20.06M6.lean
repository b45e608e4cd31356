/-- a value from 0 up to n -/
def rg (v : Int32) (n : Nat) : Bool := !decide (v < 0) && decide (v < Int32.ofNat n)
theorem rg_ex {v : Int32} {n : Nat} (hn : n < 2147483648) (h : rg v n = true) : ∃ k, v = Int32.ofNat k ∧ k < n := by
  unfold rg at h
  simp only [Bool.and_eq_true, Bool.not_eq_true', decide_eq_false_iff_not, decide_eq_true_eq] at h
  exact ia_ex hn h.1 h.2
theorem rg_of {k n : Nat} (hn : n < 2147483648) (h : k < n) : rg (Int32.ofNat k) n = true := by
  unfold rg
  rw [decide_eq_false (ia_n0 (by omega)), decide_eq_true ((ia_lt (by omega) hn).mpr h)]; rfl
theorem rg_in {v : Int32} {n : Nat} (hn : n < 2147483648) : (decide ((0 : Int32) ≤ v) && decide (v ≤ Int32.ofNat n - 1)) = rg v n := by
  unfold rg
  have h1 : decide ((0 : Int32) ≤ v) = !decide (v < 0) := by
    by_cases h : v < 0
    · rw [decide_eq_true h, decide_eq_false (Int32.not_le.mpr h)]; rfl
    · rw [decide_eq_false h, decide_eq_true (Int32.not_lt.mp h)]; rfl
  rw [h1]
  congr 1
  have h2 : (Int32.ofNat n - 1).toInt = (n : Int) - 1 := by
    cases n with
    | zero => decide
    | succ m => rw [ia_s1, ia_ti (by omega)]; omega
  by_cases h : v < Int32.ofNat n
  · have := Int32.lt_iff_toInt_lt.mp h
    rw [ia_ti hn] at this
    rw [decide_eq_true h, decide_eq_true (Int32.le_iff_toInt_le.mpr (by omega))]
  · have := Int32.le_iff_toInt_le.mp (Int32.not_lt.mp h)
    rw [ia_ti hn] at this
    rw [decide_eq_false h, decide_eq_false (fun e => by have := Int32.le_iff_toInt_le.mp e; omega)]
theorem ite_not {α : Type} (b : Bool) (x y : α) : (if b2i b = 0 then x else y) = if b = false then x else y := by cases b <;> rfl
section MS
variable {h : nk_H} {M : Nat} {s : Nat → Nat → Int32}
theorem in_rg (h : nk_H) (v : Int32) (n : Nat) (hn : n < 2147483648) : f_X12_in h v 0 (Int32.ofNat n - 1) = some (h, b2i (rg v n)) := by rw [m_in, rg_in hn]
theorem m_isKiosk (h : nk_H) (v : Int32) : f_X12_isKiosk h v = some (h, b2i (rg v 6)) := by
  unfold f_X12_isKiosk
  rw [show (5 : Int32) = Int32.ofNat 6 - 1 from rfl, do_eq (in_rg h v 6 (by decide)), nk_zr_b]
theorem m_isPerson (h : nk_H) (v : Int32) : f_X12_isPerson h v = some (h, b2i (rg v 10)) := by
  unfold f_X12_isPerson
  rw [show (9 : Int32) = Int32.ofNat 10 - 1 from rfl, do_eq (in_rg h v 10 (by decide)), nk_zr_b]
theorem m_isPower (H : St h M s) {w : Nat} (hw : s 12 0 = Int32.ofNat w) (hw2 : w ≤ 40) (v : Int32) : f_X12_isPower h M v = some (h, b2i (rg v w)) := by
  unfold f_X12_isPower
  rw [w_gI H 12, hw, do_eq (in_rg h v w (by omega)), nk_zr_b]
theorem m_isCopy (H : St h M s) {c : Nat} (hc : s 37 0 = Int32.ofNat c) (hc2 : c ≤ 12) (v : Int32) : f_X12_isCopy h M v = some (h, b2i (rg v c)) := by
  unfold f_X12_isCopy
  rw [w_gI H 37, hc, do_eq (in_rg h v c (by omega)), nk_zr_b]
/-- whether a kiosk has a record -/
def recB (s : Nat → Nat → Int32) (v r : Int32) : Bool := rg v 6 && rg r (sN s 30 v.toNatClampNeg)
theorem sN_of {k j x : Nat} (e : s k j = Int32.ofNat x) (hx : x < 2147483648) : sN s k j = x := by unfold sN; rw [e, ia_nn hx]
theorem m_isRecord (H : St h M s) {a : Nat} (hI : I5 s a) (ha : a ≤ 160) (v r : Int32) : f_X12_isRecord h M v r = some (h, b2i (recB s v r)) := by
  unfold f_X12_isRecord f_X12_isRecord_c27 f_X12_isRecord_c28 recB
  rw [do_eq (m_isKiosk h v), ite_not]
  cases h1 : rg v 6 with
  | false => rfl
  | true =>
    obtain ⟨k, rfl, hk⟩ := rg_ex (by decide) h1
    obtain ⟨x, ex, hx, -⟩ := hI.1 k hk
    rw [if_neg (by decide), w_gP H 30, w_aI H 30 (by show k < 6; omega), ex, do_eq (in_rg h r x (by omega)), ite_not, ia_nn (by omega), sN_of ex (by omega)]
    cases rg r x <;> rfl
def thereB (n w : Nat) (v p q : Int32) : Bool := rg v 6 && rg p 10 && rg q w
theorem m_areThere (H : St h M s) {w : Nat} (hw : s 12 0 = Int32.ofNat w) (hw2 : w ≤ 40) (v p q : Int32) : f_X12_areThere h M v p q = some (h, b2i (rg v 6 && rg p 10 && rg q w)) := by
  unfold f_X12_areThere f_X12_areThere_c26 f_X12_areThere_c27
  rw [do_eq (m_isKiosk h v), ite_not]
  cases h1 : rg v 6 with
  | false => rfl
  | true =>
    rw [if_neg (by decide), do_eq (m_isPerson h p), ite_not]
    cases h2 : rg p 10 with
    | false => rfl
    | true =>
      rw [if_neg (by decide), w_rcv H, do_eq (m_isPower H hw hw2 q), ite_not]
      cases rg q w <;> rfl
/-- seals -/
def sealS (x y : Int32) : Int32 := (((131 * x) + (17 * y)) + 7) - (((131 * x) + (17 * y)) + 7) / 1000003 * 1000003
def markS (k r p v : Int32) : Int32 := sealS (((7919 * k) + (613 * r)) + (97 * p)) v
theorem m_sealed (h : nk_H) (x y : Int32) : f_X12_sealed h x y = some (h, sealS x y) := rfl
theorem m_markOf (h : nk_H) (k r p v : Int32) : f_X12_markOf h k r p v = some (h, markS k r p v) := rfl
/-- six parts folded into a mark -/
def foldS (f : Nat → Int32) : Nat → Int32
  | 0 => 1
  | n + 1 => sealS (foldS f n) (f n)
theorem foldS_congr {f g : Nat → Int32} {n : Nat} (h : ∀ j, j < n → f j = g j) : foldS f n = foldS g n := by
  induction n with
  | zero => rfl
  | succ n ih => simp only [foldS]; rw [ih (fun j hj => h j (by omega)), h n (by omega)]
theorem loop_fold {α : Type} {g : Nat → Int32} {N : Nat} {F : Nat → Int32 → Int32 → α} {A : Int32 → α} (hF : ∀ n i (acc : Int32), i ≤ N → F (n + 1) acc (Int32.ofNat i) = if N ≤ i then A acc else F n (sealS acc (g i)) (Int32.ofNat (i + 1))) :
    ∀ n i, i ≤ N → N - i < n → F n (foldS g i) (Int32.ofNat i) = A (foldS g N) := by
  intro n
  induction n with
  | zero => intro i _ h; omega
  | succ n ih =>
    intro i hi hn
    rw [hF n i _ hi]
    by_cases h1 : N ≤ i
    · have e : i = N := by omega
      subst e
      rw [if_pos h1]
    · rw [if_neg h1]
      exact ih (i + 1) (by omega) (by omega)
/-- the seal ahead of a record; what its seal comes out as -/
def aheadS (s : Nat → Nat → Int32) (k r : Nat) : Int32 := if r = 0 then 1000 + Int32.ofNat k else s 35 (sN s 31 (160 * k + (r - 1)))
def nowS (s : Nat → Nat → Int32) (k r : Nat) : Int32 := sealS (aheadS s k r) (foldS (fun p => markS (Int32.ofNat k) (Int32.ofNat r) (Int32.ofNat p) (s 33 (6 * sN s 31 (160 * k + r) + p))) 6)
theorem m_ahead (H : St h M s) {a : Nat} (ha : a ≤ 160) {k r : Nat} (hk : k < 6) (hr : r < 160) (hact : r ≠ 0 → ∃ e, e < 160 ∧ s 31 (160 * k + (r - 1)) = Int32.ofNat e) : f_X12_sealAhead h M (Int32.ofNat k) (Int32.ofNat r) = some (h, aheadS s k r) := by
  unfold f_X12_sealAhead f_X12_sealAhead_c31 aheadS
  by_cases h0 : r = 0
  · subst h0; rfl
  · obtain ⟨e, he, ee⟩ := hact h0
    have h1 : ¬ Int32.ofNat r = 0 := fun e1 => h0 ((ia_eq (by omega) (by omega)).mp (e1.trans (show (0 : Int32) = Int32.ofNat 0 from rfl)))
    have h2 : Int32.ofNat (160 * k + r) - 1 = Int32.ofNat (160 * k + (r - 1)) := by
      rw [show 160 * k + r = 160 * k + (r - 1) + 1 by omega, ia_s1]
    rw [if_neg h1, if_neg h0, w_gP H 35, w_gP H 31, ia_160, h2, w_aI H 31 (by show 160 * k + (r - 1) < 960; omega), ee, w_aI H 35 (by show e < 160; omega), sN_of ee (by omega)]
theorem m_sealNow (H : St h M s) {a : Nat} (ha : a ≤ 160) {k r : Nat} (hk : k < 6) (hr : r < 160) (hact : r ≠ 0 → ∃ e, e < 160 ∧ s 31 (160 * k + (r - 1)) = Int32.ofNat e) (hr2 : ∃ e, e < 160 ∧ s 31 (160 * k + r) = Int32.ofNat e) : f_X12_sealNow h M (Int32.ofNat k) (Int32.ofNat r) = some (h, nowS s k r) := by
  obtain ⟨e, he, ee⟩ := hr2
  unfold f_X12_sealNow
  have key := loop_fold (g := fun p => markS (Int32.ofNat k) (Int32.ofNat r) (Int32.ofNat p) (s 33 (6 * e + p))) (N := 6) (F := fun k9 acc z => f_X12_sealNow_b5 k9 h M (Int32.ofNat k) (Int32.ofNat r) acc z) (A := fun acc => some (h, sealS (aheadS s k r) acc)) (fun k9 i acc hi => by
      show f_X12_sealNow_c5 (f_X12_sealNow_b5 k9) h M (Int32.ofNat k) (Int32.ofNat r) acc (Int32.ofNat i) = _
      unfold f_X12_sealNow_c5
      by_cases h1 : 6 ≤ i
      · rw [if_pos (show (6 : Int32) ≤ Int32.ofNat i from (ia_le (a := 6) (by omega) (by omega)).mpr h1), if_pos h1, w_rcv H, do_eq (m_ahead H ha hk hr hact), do_eq (m_sealed h _ _)]
      · rw [if_neg (fun e9 : (6 : Int32) ≤ Int32.ofNat i => h1 ((ia_le (a := 6) (by omega) (by omega)).mp e9)), if_neg h1, w_gP H 33, w_gP H 31, ia_160, w_aI H 31 (by show 160 * k + r < 960; omega), ee, ia_6, w_aI H 33 (by show 6 * e + i < 960; omega), do_eq (m_markOf h _ _ _ _), do_eq (m_sealed h _ _), ia_1]) 4096 0 (by omega) (by omega)
  unfold nowS
  rw [sN_of ee (by omega)]
  exact key
end MS
