/-! ===== the reference's changes ===== -/
theorem MR_iff (h : nk_H) (M a j : Nat) (v : Int32) : MR (nk_sI h a j v) M ↔ MR h M := Iff.rfl
theorem ia_160 (k n : Nat) : 160 * Int32.ofNat k + Int32.ofNat n = Int32.ofNat (160 * k + n) := by
  rw [show (160 : Int32) = Int32.ofNat 160 from rfl, ia_mul, ia_add]
theorem ia_6 (k n : Nat) : 6 * Int32.ofNat k + Int32.ofNat n = Int32.ofNat (6 * k + n) := by
  rw [show (6 : Int32) = Int32.ofNat 6 from rfl, ia_mul, ia_add]
theorem ia_1 (n : Nat) : Int32.ofNat n + 1 = Int32.ofNat (n + 1) := by
  rw [show (1 : Int32) = Int32.ofNat 1 from rfl, ia_add]
theorem ia_s1 (n : Nat) : Int32.ofNat (n + 1) - 1 = Int32.ofNat n := by
  rw [show (1 : Int32) = Int32.ofNat 1 from rfl, ia_sub (by omega), Nat.add_sub_cancel]
theorem u2_eq (s : Nat → Nat → Int32) (k j : Nat) (v : Int32) : nk_u2 s k j v k j = v := nk_u2_eq s k j v
theorem u2_k (s : Nat → Nat → Int32) (k j : Nat) (v : Int32) {x : Nat} (y : Nat) (h : x ≠ k) : nk_u2 s k j v x y = s x y := nk_u2_ne s k j v y h
theorem u2_j (s : Nat → Nat → Int32) (k j : Nat) (v : Int32) (x : Nat) {y : Nat} (h : y ≠ j) : nk_u2 s k j v x y = s x y := nk_u2_nk s k j v x h
section WS
variable {α : Type} {h : nk_H} {M : Nat} {s : Nat → Nat → Int32}
def St (h : nk_H) (M : Nat) (s : Nat → Nat → Int32) : Prop := MR h M ∧ nm h M = s
theorem w_rcv (H : St h M s) (K : Nat → Option (nk_H × α)) : (nk_rcv [19] h (some M)).bind K = K M := by rw [m_rcv H.1]; rfl
theorem w_gP (H : St h M s) (k : Nat) (K : Option Nat → Option (nk_H × α)) (hk : k < 45 := by decide) (h0 : mo k ≠ 0 := by decide) : (nk_gP [19] k h (some M)).bind K = K (some (M + mo k)) := by rw [m_gP H.1 k hk h0]; rfl
theorem w_gI (H : St h M s) (k : Nat) (K : Int32 → Option (nk_H × α)) (h0 : mo k = 0 := by decide) : (nk_gI [19] k h (some M)).bind K = K (s k 0) := by rw [m_gI H.1 k h0, H.2]; rfl
theorem w_aI (H : St h M s) (k : Nat) {j : Nat} (hj : j < ml k) (K : Int32 → Option (nk_H × α)) (hk : k < 45 := by decide) (h0 : mo k ≠ 0 := by decide) (h1 : mk k = 1 := by decide) : (nk_aI 1 h (some (M + mo k)) (Int32.ofNat j)).bind K = K (s k j) := by rw [m_r H.1 k hj hk h0 h1, H.2]; rfl
theorem w_aZ (H : St h M s) (k : Nat) {j : Nat} (hj : j < ml k) (K : Int32 → Option (nk_H × α)) (hk : k < 45 := by decide) (h0 : mo k ≠ 0 := by decide) (h1 : mk k = 2 := by decide) : (nk_aI 2 h (some (M + mo k)) (Int32.ofNat j)).bind K = K (s k j) := by
  have := m_aI H.1 k j hj hk h0
  rw [h1] at this
  rw [this, H.2]; rfl
/-- what a change must come to -/
def Ok (h : nk_H) (M : Nat) (s' : Nat → Nat → Int32) (r : α) (f : Option (nk_H × α)) : Prop := ∃ h', f = some (h', r) ∧ MO h M h' ∧ St h' M s'
theorem Ok.mk {h' : nk_H} {s' : Nat → Nat → Int32} {r : α} (a : MO h M h') (b : St h' M s') : Ok h M s' r (some (h', r)) := ⟨h', rfl, a, b⟩
theorem Ok.here {r : α} (H : St h M s) : Ok h M s r (some (h, r)) := ⟨h, rfl, MO.refl h M, H⟩
theorem Ok.after {h1 : nk_H} {s' : Nat → Nat → Int32} {r : α} {f : Option (nk_H × α)} (a : MO h M h1) (b : Ok h1 M s' r f) : Ok h M s' r f := by
  obtain ⟨h', e, b1, b2⟩ := b
  exact ⟨h', e, a.trans b1, b2⟩
theorem w_wI (H : St h M s) (k : Nat) {j : Nat} (v : Int32) (hj : j < ml k) {s' : Nat → Nat → Int32} {r : α} {K : nk_H → Option (nk_H × α)} (kk : ∀ h1, St h1 M (nk_u2 s k j v) → Ok h1 M s' r (K h1)) (hk : k < 45 := by decide) (h0 : mo k ≠ 0 := by decide) (h1 : mk k = 1 := by decide) : Ok h M s' r ((nk_wI h (some (M + mo k)) (Int32.ofNat j) v).bind K) := by
  rw [m_wI H.1 k j v hj hk h0 h1]
  exact (kk (nk_sI h (M + mo k) j v) ⟨H.1, by rw [nm_sI h M k j v h0, H.2]⟩).after (MO_ar h M k j v)
theorem w_wZ (H : St h M s) (k : Nat) {j : Nat} (b : Bool) (hj : j < ml k) {s' : Nat → Nat → Int32} {r : α} {K : nk_H → Option (nk_H × α)} (kk : ∀ h1, St h1 M (nk_u2 s k j (b2i b)) → Ok h1 M s' r (K h1)) (hk : k < 45 := by decide) (h0 : mo k ≠ 0 := by decide) (h1 : mk k = 2 := by decide) : Ok h M s' r ((nk_wZ h (some (M + mo k)) (Int32.ofNat j) (b2i b)).bind K) := by
  rw [m_wZ H.1 k j b hj hk h0 h1]
  exact (kk (nk_sI h (M + mo k) j (b2i b)) ⟨H.1, by rw [nm_sI h M k j (b2i b) h0, H.2]⟩).after (MO_ar h M k j (b2i b))
theorem w_pI (H : St h M s) (k : Nat) (v : Int32) {s' : Nat → Nat → Int32} {r : α} {K : nk_H → Option (nk_H × α)} (kk : ∀ h1, St h1 M (nk_u2 s k 0 v) → Ok h1 M s' r (K h1)) (h0 : mo k = 0 := by decide) (hk : k < 45 := by decide) : Ok h M s' r ((nk_pI [19] k h (some M) v).bind K) := by
  rw [m_pI H.1 k v]
  exact (kk (nk_sI h M k v) ⟨H.1, by rw [nm_pI h M k v h0, H.2]⟩).after (MO_sI (by omega) (by
    have : k ≤ 44 := by omega
    omega))
theorem w_do {β : Type} {s1 s' : Nat → Nat → Int32} {v : β} {r : α} {g : Option (nk_H × β)} {K : nk_H → β → Option (nk_H × α)} (a : Ok h M s1 v g) (kk : ∀ h1, St h1 M s1 → Ok h1 M s' r (K h1 v)) : Ok h M s' r (nk_do g K) := by
  obtain ⟨h1, e, b1, b2⟩ := a
  rw [e]
  exact (kk h1 b2).after b1
end WS
/-- a piece is made -/
def uMk (s : Nat → Nat → Int32) (n k : Nat) (kd its : Int32) : Nat → Nat → Int32 :=
  nk_u2 (nk_u2 (nk_u2 (nk_u2 (nk_u2 (nk_u2 (nk_u2 s 4 n kd) 5 n (Int32.ofNat k)) 6 n (s 1 0)) 7 n its) 10 (160 * k + n) (s 1 0)) 11 (160 * k + n) 1) 3 0 (Int32.ofNat (n + 1))
section WT
variable {h : nk_H} {M : Nat} {s : Nat → Nat → Int32}
theorem w_makes (H : St h M s) {n k : Nat} (hn3 : s 3 0 = Int32.ofNat n) (hn : n < 160) (hk : k < 6) (kd its : Int32) : Ok h M (uMk s n k kd its) (Int32.ofNat n) (f_X12_makes h M (Int32.ofNat k) kd its) := by
  unfold f_X12_makes
  rw [w_gP H 4, w_gI H 3, hn3]
  refine w_wI H 4 kd (by show n < 160; omega) (fun h1 H => ?_)
  rw [w_gP H 5, w_gI H 3, u2_k _ _ _ _ _ (by decide), hn3]
  refine w_wI H 5 _ (by show n < 160; omega) (fun h2 H => ?_)
  rw [w_gP H 6, w_gI H 3, u2_k _ _ _ _ _ (by decide), u2_k _ _ _ _ _ (by decide), hn3, w_gI H 1, u2_k _ _ _ _ _ (by decide), u2_k _ _ _ _ _ (by decide)]
  refine w_wI H 6 _ (by show n < 160; omega) (fun h3 H => ?_)
  rw [w_gP H 7, w_gI H 3, u2_k _ _ _ _ _ (by decide), u2_k _ _ _ _ _ (by decide), u2_k _ _ _ _ _ (by decide), hn3]
  refine w_wI H 7 _ (by show n < 160; omega) (fun h4 H => ?_)
  rw [w_gP H 10, w_gI H 3, u2_k _ _ _ _ _ (by decide), u2_k _ _ _ _ _ (by decide), u2_k _ _ _ _ _ (by decide), u2_k _ _ _ _ _ (by decide), hn3, w_gI H 1, u2_k _ _ _ _ _ (by decide), u2_k _ _ _ _ _ (by decide), u2_k _ _ _ _ _ (by decide), u2_k _ _ _ _ _ (by decide), ia_160]
  refine w_wI H 10 _ (by show 160 * k + n < 960; omega) (fun h5 H => ?_)
  rw [w_gP H 11, w_gI H 3, u2_k _ _ _ _ _ (by decide), u2_k _ _ _ _ _ (by decide), u2_k _ _ _ _ _ (by decide), u2_k _ _ _ _ _ (by decide), u2_k _ _ _ _ _ (by decide), hn3, ia_160]
  refine w_wZ H 11 true (by show 160 * k + n < 960; omega) (fun h6 H => ?_)
  rw [w_gI H 3, u2_k _ _ _ _ _ (by decide), u2_k _ _ _ _ _ (by decide), u2_k _ _ _ _ _ (by decide), u2_k _ _ _ _ _ (by decide), u2_k _ _ _ _ _ (by decide), u2_k _ _ _ _ _ (by decide), hn3, ia_1]
  refine w_pI H 3 _ (fun h7 H => ?_)
  rw [w_gI H 3, u2_eq, ia_s1]
  exact Ok.here H
theorem w_holds (H : St h M s) (v : Int32) : Ok h M (nk_u2 s 0 0 v) (b2i (decide (v = 0))) (f_X12_holds h M v) := by
  unfold f_X12_holds f_X12_holds_c14
  refine w_pI H 0 _ (fun h1 H => ?_)
  by_cases e : v = 0
  · rw [if_pos e, decide_eq_true e]; exact Ok.here H
  · rw [if_neg e, decide_eq_false e]; exact Ok.here H
end WT
