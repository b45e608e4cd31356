section SN
variable {h h' : nk_H} {X n w a c hr : Nat} {pa cp : Nat → Nat} {s : Nat → Nat → Int32}
theorem came_0le (hI : Inv s n w a c hr) {k j : Nat} (hk : k < 6) (hj : j < 160) : decide ((0 : Int32) ≤ s 10 (160 * k + j)) = !decide (s 10 (160 * k + j) = -1) := by
  have hh := hI.1.2.2.2.2.2.2.2.2.2.2
  rcases (hI.2.2.1 k hk j hj).1 with e | ⟨-, t, ht, -, e⟩
  · rw [e]; decide
  · rw [e, decide_eq_true (ia_0le (by omega)), decide_eq_false (ia_m1 (by omega))]; rfl
theorem q_could (H : CQ h X n w a pa s) (hI : Inv s n w a c hr) {i j : Nat} (hi : i < n) (hj : j < n) : f_X8_couldBeReadFor h (pa j) (some (pa i)) = some (h, b2i (hasB s (Int32.ofNat (6 + i)) j)) := by
  have hn := hI.1.2.1
  have hh := hI.1.2.2.2.2.2.2.2.2.2.2
  obtain ⟨⟨k, hk, ek⟩, ⟨t, ht, et⟩, -⟩ := hI.2.1 i hi
  obtain ⟨⟨kj, hkj, ekj⟩, ⟨tj, htj, etj⟩, -⟩ := hI.2.1 j hj
  have h6 : (6 : Int32) ≤ Int32.ofNat (6 + i) := by
    rw [show (6 : Int32) = Int32.ofNat 6 from rfl, ia_le (by omega) (by omega)]; omega
  have h7 : Int32.ofNat (6 + i) - 6 = Int32.ofNat i := by
    rw [show (6 : Int32) = Int32.ofNat 6 from rfl, ia_sub (by omega), Nat.add_sub_cancel_left]
  have hB : hasB s (Int32.ofNat (6 + i)) j = (decide (0 ≤ s 10 (160 * k + j)) && decide (s 10 (160 * k + j) ≤ s 6 i) && (!decide (s 5 j = s 5 i) || decide (j < i))) := by
    unfold hasB
    rw [if_neg (ia_m1 (by omega)), if_pos h6, h7, ia_nn (by omega)]
    simp only [sN_of ek (show k < 2147483648 by omega)]
  obtain ⟨p0, p1, p2, p3, p4, p5⟩ := H.2.2.2.2.1 j hj
  obtain ⟨q0, q1, q2, -⟩ := H.2.2.2.2.1 i hi
  obtain ⟨-, s5, s6, s7⟩ := H.2.2.2.1 j hj
  have kj9 := pa_K H hI hj
  have ki9 := pa_K H hI hi
  unfold f_X8_couldBeReadFor f_X8_couldBeReadFor_c27 f_X8_couldBeReadFor_c62 f_X8_couldBeReadFor_c63
  rw [rd_I _ kj9 p1, rd_I _ ki9 q1, hB]
  by_cases e1 : s 5 j = s 5 i
  · rw [if_pos e1, rd_I _ kj9 p0, rd_I _ ki9 q0, decide_eq_true e1]
    have ekk : kj = k := by rw [ek, ekj] at e1; exact (ia_eq (by omega) (by omega)).mp e1
    obtain ⟨c1, c2⟩ := hI.2.2.2.2.2.2.2.2.1 j hj
    obtain ⟨-, c3⟩ := hI.2.2.2.2.2.2.2.2.1 i hi
    rw [sN_of ekj (by omega), ekk] at c1
    by_cases e2 : j < i
    · have e3 := c3 j e2
      rw [sN_of etj (by omega), sN_of et (by omega)] at e3
      rw [if_neg (fun e4 => by have := (ia_le (by omega) (by omega)).mp e4; omega), c1, et, etj, decide_eq_true (ia_0le (by omega)), decide_eq_true ((ia_le (by omega) (by omega)).mpr e3), decide_eq_true e2]
      rfl
    · rw [if_pos ((ia_le (by omega) (by omega)).mpr (by omega)), decide_eq_false e2]
      simp [b2i, nk_zr_0]
  · have e1' : ¬ s 5 j = Int32.ofNat k := by rw [← ek]; exact e1
    rw [if_neg e1, rd_I _ kj9 rfl, rd_I _ ki9 q1, ek, do_eq (cls_hasBit h _ hk), p3 k (by omega), decide_eq_true hk, Bool.true_and, ite_not, came_0le hI hk (by omega), decide_eq_false e1']
    cases h8 : (!decide (s 10 (160 * k + j) = -1)) with
    | false => rfl
    | true =>
      rw [if_neg (by decide), rd_P _ kj9 s5, rd_I _ ki9 q1, ek, rd_a 1 s6 (by omega) (by omega) (p5 k hk), rd_I _ ki9 q2]
      by_cases e5 : s 6 i < s 10 (160 * k + j)
      · have : ¬ s 10 (160 * k + j) ≤ s 6 i := Int32.not_le.mpr e5
        simp [e5, this, b2i, nk_zr_0]
      · have : s 10 (160 * k + j) ≤ s 6 i := Int32.not_lt.mp e5
        simp [e5, this, b2i, nk_zr_1]
theorem look_readable (H : CQ h X n w a pa s) (hI : Inv s n w a c hr) (hN : X + 57 ≤ nk_N h) {m : Nat} (hm : m < n) : ∃ h', f_X7_lookAtReadable h (X + 4) (some (pa m)) = some (h', ()) ∧ SM X h h' ∧ SE h' X n s (Int32.ofNat (6 + m)) := by
  have hn := hI.1.2.1
  exact seen_loop (F := fun k h z => f_X7_lookAtReadable_b2 k h (X + 4) (some (pa m)) z) (P := fun j => hasB s (Int32.ofNat (6 + m)) j) hI (fun k h i H hN hi => by
    obtain ⟨k1, k2, k3, k4, k5⟩ := H.1.2.2.2.2.2.2.2.1
    have k6 := H.2.1
    show f_X7_lookAtReadable_c2 (f_X7_lookAtReadable_b2 k) h (X + 4) (some (pa m)) (Int32.ofNat i) = _
    unfold f_X7_lookAtReadable_c2 f_X7_lookAtReadable_c49
    rw [rd_P [15] (by rw [k1]; decide) k2, rd_r [7] (by rw [k6.1]; decide), do_eq (ls_size k6)]
    by_cases h1 : n ≤ i
    · rw [if_pos ((ia_le (by omega) (by omega)).mpr h1), if_pos h1]
    · rw [if_neg (fun e => h1 ((ia_le (by omega) (by omega)).mp e)), if_neg h1, rd_P [15] (by rw [k1]; decide) k3, rd_l (by omega) (by omega), k5, if_neg (fun e => by have := (ia_le (by omega) (by omega)).mp e; omega), rd_P [15] (by rw [k1]; decide) k3, rd_P [15] (by rw [k1]; decide) k2, rd_r [7] (by rw [k6.1]; decide), do_eq (ls_get k6 (i := i) (by omega)), q_piece H hI (j := i) (by omega), do_eq (q_could H hI hm (j := i) (by omega)), ia_1]
      exact see_w k4 k5 (j := i) (by omega) _ _) 4096 h 0 H hN (by omega) (by omega) (fun j hj => by omega)
end SN
/-! ===== the whole relation ===== -/
/-- where a piece is in an hour, by when it came -/
def Rt (s : Nat → Nat → Int32) (j t k : Nat) : Bool := !decide (s 10 (160 * k + j) = -1) && decide (sN s 10 (160 * k + j) ≤ t)
/-- the kept links tell the comings -/
def CJ (h : nk_H) (X n hr : Nat) (s : Nat → Nat → Int32) : Prop := ∀ j, j < n → (∀ k, k < 6 → Rt s j (sN s 6 j) k = decide (k = sN s 5 j)) ∧ ∀ t, sN s 6 j < t → t ≤ hr → ∀ k, k < 6 → Rt s j t k = (Rt s j (t - 1) k || anyB (fun k' => Rt s j (t - 1) k' && gb (nk_I h (X + 3) (6 * t + k')) k) 6)
def CR (h : nk_H) (X n w a c hr : Nat) (pa cp : Nat → Nat) (s : Nat → Nat → Int32) : Prop := CQ h X n w a pa s ∧ CG h X s ∧ CD h X s ∧ KS h X c n pa cp s ∧ KI h c cp s ∧ CL h X n w c pa cp s ∧ CJ h X n hr s ∧ X + 57 ≤ nk_N h
/-- other arrays, other lists' -/
def OW (h : nk_H) (X : Nat) : Prop := ∃ ow : Nat → Nat, ∀ l e, (l = X + 5 ∨ l = X + 7 ∨ l = X + 21 ∨ ∃ k, k < 6 ∧ l = X + 10 + 2 * k) → nk_P h l 1 = some e → nk_K h e = 4 → ow e = l
section RG
variable {h h' : nk_H} {X n w a c hr : Nat} {pa cp : Nat → Nat} {s : Nat → Nat → Int32}
theorem OW.gn {DI DP : Nat → Prop} (O : OW h X) (G : Gn h h' DI DP) (hN : X + 57 ≤ nk_N h) (hD : ∀ x, X ≤ x → x ≤ X + 22 → ¬ DP x) (hb : ∀ l e, (l = X + 5 ∨ l = X + 7 ∨ l = X + 21 ∨ ∃ k, k < 6 ∧ l = X + 10 + 2 * k) → nk_P h l 1 = some e → e < nk_N h) : OW h' X := by
  obtain ⟨ow, ho⟩ := O
  refine ⟨ow, fun l e hl hp hk => ?_⟩
  have hlX : X ≤ l ∧ l ≤ X + 22 := by
    rcases hl with e1 | e1 | e1 | ⟨k, hk9, e1⟩ <;> omega
  obtain ⟨-, -, g3, -⟩ := G.2.2.2 l (by omega)
  rw [g3 (hD l hlX.1 hlX.2)] at hp
  have he := hb l e hl hp
  rw [(G.2.2.2 e he).1] at hk
  exact ho l e hl hp hk
/-- what is looked at changes: the whole relation stays -/
theorem CR.gnS (H : CR h X n w a c hr pa cp s) (hI : Inv s n w a c hr) (G : Gn h h' (atS X) no) : CR h' X n w a c hr pa cp s := by
  obtain ⟨h1, h2, h3, h4, h5, h6, h7, h8⟩ := H
  have hP := h1.2.2.1
  have dp : ∀ x, X + 57 ≤ x → ¬ atS X x := fun x hx => by unfold atS; omega
  have hd : ∀ d, nk_P h X 6 = some d → ¬ atS X d := fun d hd e => by
    obtain ⟨d', e1, -, e3, e2, -⟩ := h3
    rw [hd] at e1
    cases e1
    unfold atS at e
    rcases e with e | e
    · rw [e] at e2
      have := h1.1.2.2.2.2.2.2.2.1.2.2.2.1
      omega
    · omega
  refine ⟨CQ.gn h1 hI h8 G, h2.gn G h8 (by unfold atS; omega) (by unfold atS; omega) (fun k hk => by unfold atS; omega) rfl rfl rfl (fun _ _ => rfl), h3.gn G (by omega) id hd (fun _ _ _ => rfl), h4.gn G (fun _ _ => rfl) (fun _ _ => ⟨id, id⟩), KI.gn h4 h5 G (fun _ _ => ⟨rfl, rfl, rfl, rfl, rfl, fun _ _ => ⟨rfl, fun _ _ => rfl⟩⟩) (fun e he x hx _ => dp x (by have := (h4 e he).1; omega)), ?_, ?_, Nat.le_trans h8 G.1⟩
  · obtain ⟨l1, l2, l3, l4⟩ := h6
    exact ⟨l1.gn G (by omega) (by unfold atS; omega) id (fun _ _ => id), l2.gn G (by omega) (by unfold atS; omega) id (fun _ _ => id), fun k hk => (l3 k hk).gn G (by omega) (by unfold atS; omega) id (fun _ _ => id), l4.gn G (by omega) (by unfold atS; omega) id (fun _ _ => id)⟩
  · intro j hj
    obtain ⟨j1, j2⟩ := h7 j hj
    refine ⟨j1, fun t ht1 ht2 k hk => ?_⟩
    rw [(G.2.2.2 (X + 3) (by omega)).2.2.2 (by unfold atS; omega)]
    exact j2 t ht1 ht2 k hk
theorem CR.seen (H : CR h X n w a c hr pa cp s) (hI : Inv s n w a c hr) (S : SM X h h') : CR h' X n w a c hr pa cp s := H.gnS hI (S.gn _ _ (Or.inl rfl))
theorem CR.al (H : CR h X n w a c hr pa cp s) (hI : Inv s n w a c hr) (cc nn ww : Nat) : CR (nk_al h cc nn ww) X n w a c hr pa cp s := H.gnS hI (Gn_al h cc nn ww _ _)
end RG
