/-! ===== looking at news ===== -/
/-- only what is looked at has changed -/
def SM (X : Nat) (h h' : nk_H) : Prop := nk_K h' = nk_K h ∧ nk_P h' = nk_P h ∧ nk_L h' = nk_L h ∧ nk_N h' = nk_N h ∧ nk_S h' = nk_S h ∧ nk_E h' = nk_E h ∧ nk_M h' = nk_M h ∧ ∀ x, x ≠ X + 6 → nk_I h' x = nk_I h x
theorem SM.refl (X : Nat) (h : nk_H) : SM X h h := ⟨rfl, rfl, rfl, rfl, rfl, rfl, rfl, fun _ _ => rfl⟩
theorem SM.trans {X : Nat} {h h1 h2 : nk_H} (a : SM X h h1) (b : SM X h1 h2) : SM X h h2 := by
  obtain ⟨a1, a2, a3, a4, a5, a6, a7, a8⟩ := a
  obtain ⟨b1, b2, b3, b4, b5, b6, b7, b8⟩ := b
  exact ⟨b1.trans a1, b2.trans a2, b3.trans a3, b4.trans a4, b5.trans a5, b6.trans a6, b7.trans a7, fun x hx => (b8 x hx).trans (a8 x hx)⟩
theorem SM_sI (X : Nat) (h : nk_H) (j : Nat) (v : Int32) : SM X h (nk_sI h (X + 6) j v) := ⟨rfl, rfl, rfl, rfl, rfl, rfl, rfl, fun x hx => by funext y; exact nk_u2_ne _ _ _ _ y hx⟩
theorem SM.gn {X : Nat} {h h' : nk_H} (a : SM X h h') (DI DP : Nat → Prop) (hD : DI (X + 6)) : Gn h h' DI DP := by
  obtain ⟨a1, a2, a3, a4, a5, a6, a7, a8⟩ := a
  refine ⟨by rw [a4]; exact Nat.le_refl _, a6, a7, fun x _ => ⟨by rw [a1], by rw [a3], fun _ => by rw [a2], fun z => a8 x (fun e => z (by rw [e]; exact hD))⟩⟩
def atS (X : Nat) : Nat → Prop := fun x => x = X + 6 ∨ (X + 23 ≤ x ∧ x ≤ X + 56)
/-- the invariant's ranges, as the class's parts need them -/
theorem rg_pw {n w a c hr : Nat} {s : Nat → Nat → Int32} (hI : Inv s n w a c hr) : (∀ q, q < w → sN s 13 q < n) ∧ (∀ q r, q < w → src s q = some r → r < w) ∧ (∀ e, e < a → sN s 32 e < n ∧ sN s 33 (6 * e + 1) < w) ∧ (∀ j, j < n → s 4 j = 1 → sN s 7 j < w) := by
  have hn := hI.1.2.1
  have hw := hI.1.2.2.2.1
  refine ⟨fun q hq => (pw_at hI hq).1, fun q r hq e => by have := (src_lt hI hq e).1; omega, fun e he => ?_, fun j hj h1 => ?_⟩
  · obtain ⟨⟨p, hp, e1, -⟩, ⟨x, hx, ex⟩, -⟩ := hI.2.2.2.2.1 e he
    rw [sN_of e1 (by omega), sN_of ex (by omega)]
    exact ⟨hp, hx⟩
  · obtain ⟨-, -, ⟨e4, -⟩ | ⟨-, x, hx, ex⟩ | ⟨e4, -⟩ | ⟨e4, -⟩⟩ := hI.2.1 j hj
    · rw [h1] at e4; exact absurd e4 (by decide)
    · rw [sN_of ex (by omega)]; exact hx
    · rw [h1] at e4; exact absurd e4 (by decide)
    · rw [h1] at e4; exact absurd e4 (by decide)
section SN
variable {h h' : nk_H} {X n w a c hr : Nat} {pa cp : Nat → Nat} {s : Nat → Nat → Int32}
theorem CQ.gn (H : CQ h X n w a pa s) (hI : Inv s n w a c hr) (hN : X + 57 ≤ nk_N h) (G : Gn h h' (atS X) no) : CQ h' X n w a pa s := by
  obtain ⟨h1, h2, h3, h4, h5, h6, h7, h8, h9, h10⟩ := H
  obtain ⟨r1, r2, r3, r4⟩ := rg_pw hI
  have dj : ∀ j, j < n → ¬ atS X (pa j) ∧ ¬ atS X (pa j + 1) := fun j hj => by
    have := (h3 j hj).1
    unfold atS
    omega
  have da : ∀ e, e < a → ¬ atS X (ac s pa e) ∧ ¬ atS X (ac s pa e - 1) ∧ ¬ atS X (ac s pa e + 2) := fun e he => by
    have := (h9 e he).2.2.2.2.2.2.1
    unfold atS
    omega
  exact ⟨h1.gn G hN (fun _ _ _ => id), h2.gn G (by omega) (by unfold atS; omega) id (fun _ _ => id), h3.gn G, PS.gn h3 h4 G (fun _ _ => rfl) (fun _ _ => id), PI.gn h3 h5 G dj (fun _ _ => rfl) (fun _ _ => rfl) (fun _ _ _ _ => rfl) (fun _ _ _ _ => rfl),
    PW.gn h3 h6 G r1 r2 (fun _ _ _ _ _ => rfl) (fun q hq => ⟨(dj _ (r1 q hq)).1, id⟩), PR.gn (w := w) h3 h7 G (fun _ _ => rfl) (fun _ _ => rfl) r4 (fun _ _ _ _ _ => rfl) (fun _ _ => id), PD.gn h3 h8 G (fun _ _ => ⟨rfl, rfl, rfl, rfl⟩) (fun j hj _ => (dj j hj).1),
    AS.gn (w := w) h3 h9 G r3 (fun _ _ _ _ _ => rfl) (fun _ _ => ⟨rfl, rfl⟩) (fun _ _ => id), AI.gn h3 h9 h10 G (fun e he => (r3 e he).1) (fun _ _ => ⟨rfl, rfl, rfl, rfl, fun _ _ => rfl⟩) (fun _ _ => ⟨rfl, rfl⟩) da⟩
theorem seen_loop (F : Nat → nk_H → Int32 → Option (nk_H × Unit)) (P : Nat → Bool) (hI : Inv s n w a c hr)
    (hF : ∀ k h i, CQ h X n w a pa s → X + 57 ≤ nk_N h → i ≤ n → F (k + 1) h (Int32.ofNat i) = if n ≤ i then some (h, ()) else F k (nk_sI h (X + 6) i (b2i (P i))) (Int32.ofNat (i + 1))) :
    ∀ k h i, CQ h X n w a pa s → X + 57 ≤ nk_N h → i ≤ n → n - i < k → (∀ j, j < i → nk_I h (X + 6) j = b2i (P j)) → ∃ h', F k h (Int32.ofNat i) = some (h', ()) ∧ SM X h h' ∧ ∀ j, j < n → nk_I h' (X + 6) j = b2i (P j) := by
  intro k
  induction k with
  | zero => intro h i _ _ _ h9; omega
  | succ k ih =>
    intro h i H hN hi hk hp
    rw [hF k h i H hN hi]
    by_cases h1 : n ≤ i
    · rw [if_pos h1]
      exact ⟨h, rfl, SM.refl X h, fun j hj => hp j (by omega)⟩
    · rw [if_neg h1]
      have a1 := SM_sI X h i (b2i (P i))
      obtain ⟨h', e1, e2, e3⟩ := ih (nk_sI h (X + 6) i (b2i (P i))) (i + 1) (CQ.gn H hI hN (a1.gn _ _ (Or.inl rfl))) hN (by omega) (by omega) (fun j hj => by
        rw [nk_I_sI]
        by_cases e : j = i
        · rw [e, nk_u2_eq]
        · rw [nk_u2_nk _ _ _ _ _ e]; exact hp j (by omega))
      exact ⟨h', e1, a1.trans e2, e3⟩
theorem cls_hasBit (h : nk_H) (x : Int32) {k : Nat} (hk : k < 6) : f_X11_hasBit h x (Int32.ofNat k) = some (h, b2i (gb x k)) := by
  unfold f_X11_hasBit f_X11_hasBit_c14 f_X11_bit
  have e9 : ∀ (K : nk_H → Int32 → Option (nk_H × Int32)), nk_do (some (h, 1 <<< (Int32.ofNat k &&& 31))) K = K h (1 <<< (Int32.ofNat k &&& 31)) := fun K => rfl
  rw [e9]
  by_cases hg : gb x k = false
  · rw [if_pos ((gb_cls x hk).mpr hg), hg]; rfl
  · rw [if_neg (fun e => hg ((gb_cls x hk).mp e))]
    have : gb x k = true := by simpa using hg
    rw [this]; rfl
/-- the write into what is looked at -/
theorem see_w {α : Type} (h1 : nk_K h (X + 6) = 2) (h2 : nk_L h (X + 6) = 160) {j : Nat} (hj : j < 160) (b : Bool) (K : nk_H → Option (nk_H × α)) : (nk_wZ h (some (X + 6)) (Int32.ofNat j) (b2i b)).bind K = K (nk_sI h (X + 6) j (b2i b)) := by
  have e : vp_nar .boolean (b2i b) = b2i b := by cases b <;> rfl
  simp [nk_wZ, h1, h2, ia_n0 (n := j) (by omega), ia_nn (n := j) (by omega), hj, e]
theorem look_all (H : CQ h X n w a pa s) (hI : Inv s n w a c hr) (hN : X + 57 ≤ nk_N h) : ∃ h', f_X7_lookAtAll h (X + 4) = some (h', ()) ∧ SM X h h' ∧ SE h' X n s (-1) := by
  have hn := hI.1.2.1
  obtain ⟨h', e1, e2, e3⟩ := seen_loop (F := fun k h z => f_X7_lookAtAll_b2 k h (X + 4) z) (P := fun _ => true) hI (fun k h i H hN hi => by
    obtain ⟨k1, k2, k3, k4, k5⟩ := H.1.2.2.2.2.2.2.2.1
    have k6 := H.2.1
    show f_X7_lookAtAll_c2 (f_X7_lookAtAll_b2 k) h (X + 4) (Int32.ofNat i) = _
    unfold f_X7_lookAtAll_c2 f_X7_lookAtAll_c35
    rw [rd_P [15] (by rw [k1]; decide) k2, rd_r [7] (by rw [k6.1]; decide), do_eq (ls_size k6)]
    by_cases h1 : n ≤ i
    · rw [if_pos ((ia_le (by omega) (by omega)).mpr h1), if_pos h1]
    · rw [if_neg (fun e => h1 ((ia_le (by omega) (by omega)).mp e)), if_neg h1, rd_P [15] (by rw [k1]; decide) k3, rd_l (by omega) (by omega), k5, if_neg (fun e => by have := (ia_le (by omega) (by omega)).mp e; omega), rd_P [15] (by rw [k1]; decide) k3, ia_1]
      exact see_w k4 k5 (j := i) (by omega) true _) 4096 h 0 H hN (by omega) (by omega) (fun j hj => by omega)
  exact ⟨h', e1, e2, fun j hj => by rw [e3 j hj]; rfl⟩
theorem look_read (H : CQ h X n w a pa s) (hI : Inv s n w a c hr) (hN : X + 57 ≤ nk_N h) {k0 : Nat} (hk0 : k0 < 6) : ∃ h', f_X7_lookAtRead h (X + 4) (Int32.ofNat k0) = some (h', ()) ∧ SM X h h' ∧ SE h' X n s (Int32.ofNat k0) := by
  have hn := hI.1.2.1
  have hb : ∀ j, j < n → hasB s (Int32.ofNat k0) j = decide (s 11 (160 * k0 + j) = 1) := fun j hj => by
    have h1 : ¬ (6 : Int32) ≤ Int32.ofNat k0 := by
      rw [show (6 : Int32) = Int32.ofNat 6 from rfl, ia_le (by omega) (by omega)]; omega
    unfold hasB
    rw [if_neg (ia_m1 (by omega)), if_neg h1, ia_nn (by omega)]
    rfl
  obtain ⟨h', e1, e2, e3⟩ := seen_loop (F := fun k h z => f_X7_lookAtRead_b2 k h (X + 4) (Int32.ofNat k0) z) (P := fun j => decide (s 11 (160 * k0 + j) = 1)) hI (fun k h i H hN hi => by
    obtain ⟨k1, k2, k3, k4, k5⟩ := H.1.2.2.2.2.2.2.2.1
    have k6 := H.2.1
    show f_X7_lookAtRead_c2 (f_X7_lookAtRead_b2 k) h (X + 4) (Int32.ofNat k0) (Int32.ofNat i) = _
    unfold f_X7_lookAtRead_c2 f_X7_lookAtRead_c52
    rw [rd_P [15] (by rw [k1]; decide) k2, rd_r [7] (by rw [k6.1]; decide), do_eq (ls_size k6)]
    by_cases h1 : n ≤ i
    · rw [if_pos ((ia_le (by omega) (by omega)).mpr h1), if_pos h1]
    · obtain ⟨-, -, -, -, p5, -⟩ := H.2.2.2.2.1 i (by omega)
      have g4 : gb (nk_I h (pa i) 4) k0 = decide (s 11 (160 * k0 + i) = 1) := by rw [p5 k0 (by omega), decide_eq_true hk0, Bool.true_and]
      rw [if_neg (fun e => h1 ((ia_le (by omega) (by omega)).mp e)), if_neg h1, rd_P [15] (by rw [k1]; decide) k3, rd_l (by omega) (by omega), k5, if_neg (fun e => by have := (ia_le (by omega) (by omega)).mp e; omega), rd_P [15] (by rw [k1]; decide) k3, rd_P [15] (by rw [k1]; decide) k2, rd_r [7] (by rw [k6.1]; decide), do_eq (ls_get k6 (i := i) (by omega)), rd_c _ (pa_K H hI (j := i) (by omega)), rd_I _ (pa_K H hI (j := i) (by omega)) rfl, do_eq (cls_hasBit h _ hk0), g4, ia_1]
      exact see_w k4 k5 (j := i) (by omega) _ _) 4096 h 0 H hN (by omega) (by omega) (fun j hj => by omega)
  exact ⟨h', e1, e2, fun j hj => by rw [e3 j hj, hb j hj]⟩
end SN
