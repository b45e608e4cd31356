/-! ===== the reference's state: its fields and arrays, read off the heap ===== -/
/-- the reference's arrays: their places behind the object, kinds, lengths -/
def mo (k : Nat) : Nat := if k = 2 then 1 else if k < 4 then 0 else if k ≤ 11 then k - 2 else if k < 13 then 0 else if k ≤ 21 then k - 3 else if k < 30 then 0 else if k ≤ 36 then k - 11 else if k < 38 then 0 else if k ≤ 44 then k - 12 else 0
def ml (k : Nat) : Nat := match k with
  | 2 => 6 | 10 => 960 | 11 => 960 | 30 => 6 | 31 => 960 | 33 => 960 | 43 => 11520 | 44 => 1920
  | k => if k < 13 then 160 else if k ≤ 21 then 40 else if k ≤ 36 then 160 else 12
def mk (k : Nat) : Nat := if k = 11 ∨ k = 36 then 2 else 1
def MR (h : nk_H) (M : Nat) : Prop := nk_K h M = 19 ∧ ∀ k, k < 45 → mo k ≠ 0 → nk_P h M k = some (M + mo k) ∧ nk_K h (M + mo k) = mk k ∧ nk_L h (M + mo k) = ml k
def nm (h : nk_H) (M k j : Nat) : Int32 := if mo k = 0 then (if j = 0 then nk_I h M k else 0) else nk_I h (M + mo k) j
theorem mo_le (k : Nat) : mo k ≤ 32 := by unfold mo; repeat' split
                                          all_goals omega
theorem mo_lt {k : Nat} (h : mo k ≠ 0) : k < 45 := by
  by_cases h2 : k < 45
  · exact h2
  · exfalso
    apply h
    unfold mo
    rw [if_neg (by omega), if_neg (by omega), if_neg (by omega), if_neg (by omega), if_neg (by omega), if_neg (by omega), if_neg (by omega), if_neg (by omega), if_neg (by omega)]
theorem mo_inj0 : ∀ k, k < 45 → ∀ k', k' < 45 → mo k ≠ 0 → mo k = mo k' → k = k' := by decide +kernel
theorem mo_inj {k k' : Nat} (h : mo k ≠ 0) (e : mo k = mo k') : k = k' := mo_inj0 k (mo_lt h) k' (mo_lt (by rw [← e]; exact h)) h e
theorem MR_sI {h : nk_H} {M a j : Nat} {v : Int32} (hM : MR h M) : MR (nk_sI h a j v) M := hM
/-- the reads and writes -/
theorem m_rcv {h : nk_H} {M : Nat} (hM : MR h M) : nk_rcv [19] h (some M) = some M := by
  simp [nk_rcv, hM.1]
theorem m_gP {h : nk_H} {M : Nat} (hM : MR h M) (k : Nat) (hk : k < 45 := by decide) (h0 : mo k ≠ 0 := by decide) : nk_gP [19] k h (some M) = some (some (M + mo k)) := by
  simp [nk_gP, hM.1, (hM.2 k hk h0).1]
theorem m_gI {h : nk_H} {M : Nat} (hM : MR h M) (k : Nat) (h0 : mo k = 0 := by decide) : nk_gI [19] k h (some M) = some (nm h M k 0) := by
  simp [nk_gI, hM.1, nm, h0]
theorem m_pI {h : nk_H} {M : Nat} (hM : MR h M) (k : Nat) (v : Int32) : nk_pI [19] k h (some M) v = some (nk_sI h M k v) := by
  simp [nk_pI, hM.1]
theorem m_aI {h : nk_H} {M : Nat} (hM : MR h M) (k j : Nat) (hj : j < ml k) (hk : k < 45 := by decide) (h0 : mo k ≠ 0 := by decide) : nk_aI (mk k) h (some (M + mo k)) (Int32.ofNat j) = some (nm h M k j) := by
  obtain ⟨-, h1, h2⟩ := hM.2 k hk h0
  have hl : ml k ≤ 11520 := by unfold ml; repeat' split
                               all_goals omega
  have hj2 : j < 2147483648 := by omega
  simp [nk_aI, h1, h2, ia_n0 hj2, ia_nn hj2, hj, nm, h0]
theorem m_wI {h : nk_H} {M : Nat} (hM : MR h M) (k j : Nat) (v : Int32) (hj : j < ml k) (hk : k < 45 := by decide) (h0 : mo k ≠ 0 := by decide) (h1 : mk k = 1 := by decide) : nk_wI h (some (M + mo k)) (Int32.ofNat j) v = some (nk_sI h (M + mo k) j v) := by
  obtain ⟨-, h2, h3⟩ := hM.2 k hk h0
  have hl : ml k ≤ 11520 := by unfold ml; repeat' split
                               all_goals omega
  have hj2 : j < 2147483648 := by omega
  simp [nk_wI, h2, h3, ia_n0 hj2, ia_nn hj2, hj, h1]
theorem m_wZ {h : nk_H} {M : Nat} (hM : MR h M) (k j : Nat) (b : Bool) (hj : j < ml k) (hk : k < 45 := by decide) (h0 : mo k ≠ 0 := by decide) (h1 : mk k = 2 := by decide) : nk_wZ h (some (M + mo k)) (Int32.ofNat j) (b2i b) = some (nk_sI h (M + mo k) j (b2i b)) := by
  obtain ⟨-, h2, h3⟩ := hM.2 k hk h0
  have hl : ml k ≤ 11520 := by unfold ml; repeat' split
                               all_goals omega
  have hj2 : j < 2147483648 := by omega
  have e : vp_nar .boolean (b2i b) = b2i b := by cases b <;> rfl
  simp [nk_wZ, h2, h3, ia_n0 hj2, ia_nn hj2, hj, h1, e]
/-- the state behind a write -/
theorem nm_pI (h : nk_H) (M k : Nat) (v : Int32) (h0 : mo k = 0) : nm (nk_sI h M k v) M = nk_u2 (nm h M) k 0 v := by
  funext k' j'
  unfold nm nk_u2
  rw [nk_I_sI]
  unfold nk_u2
  by_cases e : mo k' = 0
  · simp only [e, if_pos]
    by_cases e2 : k' = k
    · subst e2
      by_cases e3 : j' = 0 <;> simp [e3]
    · by_cases e3 : j' = 0 <;> simp [e3, e2]
  · have e2 : k' ≠ k := fun e3 => e (by rw [e3]; exact h0)
    have e4 : M + mo k' ≠ M := by omega
    simp [e, e2, e4]
theorem nm_sI (h : nk_H) (M k j : Nat) (v : Int32) (h0 : mo k ≠ 0) : nm (nk_sI h (M + mo k) j v) M = nk_u2 (nm h M) k j v := by
  funext k' j'
  unfold nm nk_u2
  rw [nk_I_sI]
  unfold nk_u2
  by_cases e : mo k' = 0
  · have e2 : k' ≠ k := fun e3 => h0 (by rw [← e3]; exact e)
    have e4 : M ≠ M + mo k := by omega
    by_cases e3 : j' = 0 <;> simp [e, e2, e3, h0]
  · by_cases e2 : k' = k
    · subst e2; simp [e]
    · have e5 : mo k' ≠ mo k := fun e6 => e2 (mo_inj e e6)
      simp [e, e2, e5]
/-- only the reference's own ints have changed -/
def MO (h : nk_H) (M : Nat) (h' : nk_H) : Prop := nk_K h' = nk_K h ∧ nk_P h' = nk_P h ∧ nk_L h' = nk_L h ∧ nk_N h' = nk_N h ∧ nk_S h' = nk_S h ∧ nk_E h' = nk_E h ∧ nk_M h' = nk_M h ∧ ∀ a, (a < M ∨ M + 32 < a) → nk_I h' a = nk_I h a
theorem MO.refl (h : nk_H) (M : Nat) : MO h M h := ⟨rfl, rfl, rfl, rfl, rfl, rfl, rfl, fun _ _ => rfl⟩
theorem MO.trans {h h1 h2 : nk_H} {M : Nat} (a : MO h M h1) (b : MO h1 M h2) : MO h M h2 := by
  obtain ⟨a1, a2, a3, a4, a5, a6, a7, a8⟩ := a
  obtain ⟨b1, b2, b3, b4, b5, b6, b7, b8⟩ := b
  exact ⟨b1.trans a1, b2.trans a2, b3.trans a3, b4.trans a4, b5.trans a5, b6.trans a6, b7.trans a7, fun x hx => (b8 x hx).trans (a8 x hx)⟩
theorem MO.eMR {h h' : nk_H} {M : Nat} (hM : MR h M) (a : MO h M h') : MR h' M := by
  obtain ⟨a1, a2, a3, -⟩ := a
  unfold MR
  rw [a1, a2, a3]
  exact hM
theorem MO_sI {h : nk_H} {M a j : Nat} {v : Int32} (h1 : M ≤ a) (h2 : a ≤ M + 32) : MO h M (nk_sI h a j v) := by
  refine ⟨rfl, rfl, rfl, rfl, rfl, rfl, rfl, fun x hx => ?_⟩
  funext y
  exact nk_u2_ne _ _ _ _ y (by omega)
theorem MO_ar (h : nk_H) (M k j : Nat) (v : Int32) : MO h M (nk_sI h (M + mo k) j v) := MO_sI (by omega) (by have := mo_le k; omega)
theorem MO_fi (h : nk_H) (M k : Nat) (v : Int32) : MO h M (nk_sI h M k v) := MO_sI (by omega) (by omega)
/-- answers that leave the heap -/
theorem do_eq {α β : Type} {g : Option (nk_H × β)} {K : nk_H → β → Option (nk_H × α)} {h : nk_H} {v : β} (e : g = some (h, v)) : nk_do g K = K h v := by rw [e]; rfl
theorem m_in (h : nk_H) (v a b : Int32) : f_X12_in h v a b = some (h, b2i (decide (a ≤ v) && decide (v ≤ b))) := by
  unfold f_X12_in f_X12_in_c14 f_X12_in_c15
  by_cases h1 : v < a
  · have : ¬ a ≤ v := Int32.not_le.mpr h1
    simp [h1, this, b2i, nk_zr_0]
  · have h1' : a ≤ v := Int32.not_lt.mp h1
    by_cases h2 : b < v
    · have : ¬ v ≤ b := Int32.not_le.mpr h2
      simp [h1, h2, this, b2i, nk_zr_0]
    · have h2' : v ≤ b := Int32.not_lt.mp h2
      simp [h1, h2, h1', h2', b2i, nk_zr_1]
