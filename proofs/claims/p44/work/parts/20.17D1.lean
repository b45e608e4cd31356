/-! ===== the class's checks ===== -/
def xx {α : Type} (h : nk_H) (E : String) : Option (nk_H × (α ⊕ String)) := some (nk_al h 0 0 6, .inr E)
theorem dt_l {α β : Type} {g : Option (nk_H × (β ⊕ String))} {K : nk_H → β → Option (nk_H × (α ⊕ String))} {h : nk_H} {v : β} (e : g = some (h, .inl v)) : nk_dt g K = K h v := by rw [e]; rfl
theorem dt_r {α β : Type} {g : Option (nk_H × (β ⊕ String))} {K : nk_H → β → Option (nk_H × (α ⊕ String))} {h : nk_H} {E : String} (e : g = some (h, .inr E)) : nk_dt g K = some (h, .inr E) := by rw [e]; rfl
theorem dt_if {α β : Type} {b : Bool} {E : String} {h : nk_H} {v : β} {g : Option (nk_H × (β ⊕ String))} {K : nk_H → β → Option (nk_H × (α ⊕ String))} (e : g = if b = true then some (h, .inl v) else xx h E) : nk_dt g K = if b = true then K h v else xx h E := by
  rw [e]; cases b <;> rfl
theorem mb_kiosk (h : nk_H) (v : Int32) : f_X11_mustBeKiosk h v = if rg v 6 = true then some (h, .inl ()) else xx h nk_IX := by
  unfold f_X11_mustBeKiosk f_X11_mustBeKiosk_c10 rg
  by_cases h1 : v < 0
  · rw [if_pos h1, decide_eq_true h1]; rfl
  · by_cases h2 : v < 6
    · have h3 : v < Int32.ofNat 6 := h2
      rw [if_neg h1, if_pos h2, decide_eq_false h1, decide_eq_true h3]; rfl
    · have h3 : ¬ v < Int32.ofNat 6 := h2
      rw [if_neg h1, if_neg h2, decide_eq_false h1, decide_eq_false h3]; rfl
theorem mb_person (h : nk_H) (v : Int32) : f_X11_mustBePerson h v = if rg v 10 = true then some (h, .inl ()) else xx h nk_IX := by
  unfold f_X11_mustBePerson f_X11_mustBePerson_c10 rg
  by_cases h1 : v < 0
  · rw [if_pos h1, decide_eq_true h1]; rfl
  · by_cases h2 : v < 10
    · have h3 : v < Int32.ofNat 10 := h2
      rw [if_neg h1, if_pos h2, decide_eq_false h1, decide_eq_true h3]; rfl
    · have h3 : ¬ v < Int32.ofNat 10 := h2
      rw [if_neg h1, if_neg h2, decide_eq_false h1, decide_eq_false h3]; rfl
theorem mb_part (h : nk_H) (v : Int32) : f_X11_mustBePart h v = if rg v 6 = true then some (h, .inl ()) else xx h nk_IX := by
  unfold f_X11_mustBePart f_X11_mustBePart_c10 rg
  by_cases h1 : v < 0
  · rw [if_pos h1, decide_eq_true h1]; rfl
  · by_cases h2 : v < 6
    · have h3 : v < Int32.ofNat 6 := h2
      rw [if_neg h1, if_pos h2, decide_eq_false h1, decide_eq_true h3]; rfl
    · have h3 : ¬ v < Int32.ofNat 6 := h2
      rw [if_neg h1, if_neg h2, decide_eq_false h1, decide_eq_false h3]; rfl
/-- a value between two -/
def wi (v l m : Int32) : Bool := decide (l ≤ v) && decide (v ≤ m)
theorem mb_within (h : nk_H) (v l m : Int32) : f_X11_mustBeWithin h v l m = if wi v l m = true then some (h, .inl ()) else xx h nk_IA := by
  unfold f_X11_mustBeWithin f_X11_mustBeWithin_c10 wi
  by_cases h1 : v < l
  · rw [if_pos h1, decide_eq_false (Int32.not_le.mpr h1)]; rfl
  · by_cases h2 : m < v
    · rw [if_neg h1, if_neg (Int32.not_le.mpr h2), decide_eq_true (Int32.not_lt.mp h1), decide_eq_false (Int32.not_le.mpr h2)]; rfl
    · rw [if_neg h1, if_pos (Int32.not_lt.mp h2), decide_eq_true (Int32.not_lt.mp h1), decide_eq_true (Int32.not_lt.mp h2)]; rfl
section MB
variable {h : nk_H} {X n w a c hr : Nat} {pa cp : Nat → Nat} {s m : Nat → Nat → Int32}
theorem mb_power (W : WR h X n w a c hr pa cp s m) (v : Int32) : f_X11_mustBePower h X v = if rg v w = true then some (h, .inl ()) else xx h nk_IX := by
  obtain ⟨k1, -, -, k2, -⟩ := W.1.1.1
  have L := W.1.2.2.2.2.2.1.2.1
  unfold f_X11_mustBePower f_X11_mustBePower_c15 rg
  by_cases h1 : v < 0
  · rw [if_pos h1, decide_eq_true h1]; rfl
  · rw [if_neg h1, decide_eq_false h1, rd_P [18] (by rw [k1]; decide) k2, rd_r [7] (by rw [L.1]; decide), do_eq (ls_size L)]
    by_cases h2 : v < Int32.ofNat w
    · rw [if_pos h2, decide_eq_true h2]; rfl
    · rw [if_neg h2, decide_eq_false h2]; rfl
theorem mb_piece (W : WR h X n w a c hr pa cp s m) (v : Int32) : f_X11_mustBePiece h X v = if rg v n = true then some (h, .inl ()) else xx h nk_IX := by
  obtain ⟨k1, -, k2, -, -, -, -, ⟨k3, k4, -⟩, -⟩ := W.1.1.1
  have L := W.1.1.2.1
  unfold f_X11_mustBePiece f_X11_mustBePiece_c15 f_X7_count rg
  by_cases h1 : v < 0
  · rw [if_pos h1, decide_eq_true h1]; rfl
  · have e : ∀ (K : nk_H → Int32 → Option (nk_H × (Unit ⊕ String))), nk_do (((nk_gP [15] 0 h (some (X + 4))).bind fun x1 => (nk_rcv [7] h x1).bind fun a2 => nk_do (f_Jx4a65c_size_8abf5 h a2) fun h3 x4 => some (h3, x4))) K = K h (Int32.ofNat n) := fun K => by
      rw [rd_P [15] (by rw [k3]; decide) k4, rd_r [7] (by rw [L.1]; decide), do_eq (ls_size L)]; rfl
    rw [if_neg h1, decide_eq_false h1, rd_P [18] (by rw [k1]; decide) k2, rd_r [15] (by rw [k3]; decide), e]
    by_cases h2 : v < Int32.ofNat n
    · rw [if_pos h2, decide_eq_true h2]; rfl
    · rw [if_neg h2, decide_eq_false h2]; rfl
theorem mb_copy (W : WR h X n w a c hr pa cp s m) (v : Int32) : f_X11_mustBeCopy h X v = if rg v c = true then some (h, .inl ()) else xx h nk_IX := by
  obtain ⟨k1, -, -, -, -, k2, -⟩ := W.1.1.1
  have L := W.1.2.2.2.2.2.1.2.2.2
  unfold f_X11_mustBeCopy f_X11_mustBeCopy_c15 rg
  by_cases h1 : v < 0
  · rw [if_pos h1, decide_eq_true h1]; rfl
  · rw [if_neg h1, decide_eq_false h1, rd_P [18] (by rw [k1]; decide) k2, rd_r [7] (by rw [L.1]; decide), do_eq (ls_size L)]
    by_cases h2 : v < Int32.ofNat c
    · rw [if_pos h2, decide_eq_true h2]; rfl
    · rw [if_neg h2, decide_eq_false h2]; rfl
/-- a kiosk's chain -/
theorem ch_at (W : WR h X n w a c hr pa cp s m) {k : Nat} (hk : k < 6) : nk_P h (X + 8) k = some (X + 9 + 2 * k) ∧ nk_K h (X + 9 + 2 * k) = 9 ∧ nk_P h (X + 9 + 2 * k) 1 = some (X + 10 + 2 * k) ∧ LSq h (X + 10 + 2 * k) (sN s 30 k) (fun r => ac s pa (sN s 31 (160 * k + r))) := by
  obtain ⟨-, -, -, -, -, -, -, -, -, f⟩ := W.1.1.1
  obtain ⟨f1, f2, f3⟩ := f k hk
  exact ⟨f1, f2, f3, W.1.2.2.2.2.2.1.2.2.1 k hk⟩
theorem q_count (W : WR h X n w a c hr pa cp s m) {k : Nat} (hk : k < 6) : f_X1_count h (X + 9 + 2 * k) = some (h, Int32.ofNat (sN s 30 k)) := by
  obtain ⟨f1, f2, f3, L⟩ := ch_at W hk
  unfold f_X1_count
  rw [rd_P [9] (by rw [f2]; decide) f3, rd_r [7] (by rw [L.1]; decide), do_eq (ls_size L)]
theorem mb_record (W : WR h X n w a c hr pa cp s m) (v r : Int32) : f_X11_mustBeRecord h X v r = if recB s v r = true then some (h, .inl ()) else xx h nk_IX := by
  obtain ⟨k1, -, -, -, k2, -, -, -, ⟨k3, k4⟩, -⟩ := W.1.1.1
  unfold f_X11_mustBeRecord f_X11_mustBeRecord_c21 recB
  rw [dt_if (mb_kiosk h v)]
  cases h0 : rg v 6 with
  | false => rfl
  | true =>
    obtain ⟨k, rfl, hk⟩ := rg_ex (by decide) h0
    rw [if_pos rfl, Bool.true_and, ia_nn (by omega)]
    unfold rg
    by_cases h1 : r < 0
    · rw [if_pos h1, decide_eq_true h1]; rfl
    · obtain ⟨f1, f2, f3, L⟩ := ch_at W hk
      rw [if_neg h1, decide_eq_false h1, rd_P [18] (by rw [k1]; decide) k2, rd_q 3 k3 (by omega) (by omega) f1, rd_r [9] (by rw [f2]; decide), do_eq (q_count W hk)]
      by_cases h2 : r < Int32.ofNat (sN s 30 k)
      · rw [if_pos h2, decide_eq_true h2]; rfl
      · rw [if_neg h2, decide_eq_false h2]; rfl
end MB
