/-! ===== the class's objects and the reference's state ===== -/
/-- the fixed objects, in the order in which the constructor makes them -/
def CF (h : nk_H) (X : Nat) : Prop := nk_K h X = 18 ∧ nk_P h X 0 = some (X + 1) ∧ nk_P h X 1 = some (X + 4) ∧ nk_P h X 2 = some (X + 7) ∧ nk_P h X 3 = some (X + 8) ∧ nk_P h X 4 = some (X + 21) ∧
  (nk_K h (X + 1) = 14 ∧ nk_P h (X + 1) 0 = some (X + 2) ∧ nk_P h (X + 1) 1 = some (X + 3) ∧ nk_K h (X + 2) = 1 ∧ nk_L h (X + 2) = 6 ∧ nk_K h (X + 3) = 1 ∧ nk_L h (X + 3) = 2406) ∧
  (nk_K h (X + 4) = 15 ∧ nk_P h (X + 4) 0 = some (X + 5) ∧ nk_P h (X + 4) 1 = some (X + 6) ∧ nk_K h (X + 6) = 2 ∧ nk_L h (X + 6) = 160) ∧
  (nk_K h (X + 8) = 3 ∧ nk_L h (X + 8) = 6) ∧ ∀ k, k < 6 → nk_P h (X + 8) k = some (X + 9 + 2 * k) ∧ nk_K h (X + 9 + 2 * k) = 9 ∧ nk_P h (X + 9 + 2 * k) 1 = some (X + 10 + 2 * k)
/-- their ints -/
def CG (h : nk_H) (X : Nat) (s : Nat → Nat → Int32) : Prop := nk_I h X 5 = s 1 0 ∧ nk_I h X 7 = s 27 0 ∧ nk_I h X 8 = s 28 0 ∧ ∀ k, k < 6 → nk_I h (X + 2) k = s 2 k ∧ nk_I h (X + 9 + 2 * k) 0 = Int32.ofNat k
/-- the draft -/
def CD (h : nk_H) (X : Nat) (s : Nat → Nat → Int32) : Prop := ∃ d, nk_P h X 6 = some d ∧ d < nk_N h ∧ (d = X + 22 ∨ X + 57 ≤ d) ∧ nk_K h d = 13 ∧ nk_I h d 0 = s 22 0 ∧ nk_I h d 1 = s 23 0 ∧ nk_I h d 2 = s 24 0 ∧ nk_I h d 3 = s 25 0 ∧ nk_I h d 4 = s 26 0
/-- a list of n elements -/
def LSq (h : nk_H) (l n : Nat) (el : Nat → Nat) : Prop := nk_K h l = 7 ∧ nk_I h l 2 = Int32.ofNat n ∧ n ≤ 160 ∧ ∃ e, nk_P h l 1 = some e ∧ e < nk_N h ∧ ((nk_K h e = 20 ∧ n = 0 ∧ e = nk_E h) ∨ (nk_K h e = 4 ∧ n ≤ nk_L h e ∧ 1 ≤ nk_L h e ∧ nk_L h e ≤ 1000 ∧ ∀ i, i < n → nk_P h e i = some (el i) ∧ el i < nk_N h ∧ 7 ≤ nk_K h (el i) ∧ nk_K h (el i) ≤ 19))
/-- kinds of pieces -/
def pk (v : Int32) : Nat := if v = 0 then 16 else if v = 1 then 17 else if v = 2 then 12 else 8
/-- where the pieces lie: each with what comes with it, apart -/
def PA (h : nk_H) (X n : Nat) (pa : Nat → Nat) : Prop := ∀ j, j < n → X + 57 ≤ pa j ∧ pa j + 2 ≤ nk_N h ∧ ∀ i, i < j → pa i + 2 ≤ pa j
def PS (h : nk_H) (n : Nat) (pa : Nat → Nat) (s : Nat → Nat → Int32) : Prop := ∀ j, j < n → nk_K h (pa j) = pk (s 4 j) ∧ nk_P h (pa j) 5 = some (pa j + 1) ∧ nk_K h (pa j + 1) = 1 ∧ nk_L h (pa j + 1) = 6
def PI (h : nk_H) (n : Nat) (pa : Nat → Nat) (s : Nat → Nat → Int32) : Prop := ∀ j, j < n → nk_I h (pa j) 0 = Int32.ofNat j ∧ nk_I h (pa j) 1 = s 5 j ∧ nk_I h (pa j) 2 = s 6 j ∧
  (∀ k, k < 32 → gb (nk_I h (pa j) 3) k = (decide (k < 6) && !decide (s 10 (160 * k + j) = -1))) ∧ (∀ k, k < 32 → gb (nk_I h (pa j) 4) k = (decide (k < 6) && decide (s 11 (160 * k + j) = 1))) ∧
  ∀ k, k < 6 → nk_I h (pa j + 1) k = s 10 (160 * k + j)
/-- powers -/
def pw (s : Nat → Nat → Int32) (pa : Nat → Nat) (q : Nat) : Nat := pa (sN s 13 q)
def PW (h : nk_H) (w : Nat) (pa : Nat → Nat) (s : Nat → Nat → Int32) : Prop := ∀ q, q < w → nk_I h (pw s pa q) 6 = Int32.ofNat q ∧ nk_P h (pw s pa q) 7 = (src s q).map (pw s pa) ∧ nk_I h (pw s pa q) 8 = s 14 q ∧ nk_I h (pw s pa q) 9 = s 15 q ∧
  nk_I h (pw s pa q) 10 = s 17 q ∧ nk_I h (pw s pa q) 11 = s 18 q ∧ nk_I h (pw s pa q) 12 = s 19 q ∧ nk_I h (pw s pa q) 13 = s 20 q ∧ nk_I h (pw s pa q) 14 = s 21 q
def PR (h : nk_H) (n : Nat) (pa : Nat → Nat) (s : Nat → Nat → Int32) : Prop := ∀ j, j < n → s 4 j = 1 → nk_P h (pa j) 6 = some (pw s pa (sN s 7 j))
def PD (h : nk_H) (n : Nat) (pa : Nat → Nat) (s : Nat → Nat → Int32) : Prop := ∀ j, j < n → s 4 j = 2 → nk_I h (pa j) 6 = s 7 j ∧ nk_I h (pa j) 7 = s 8 j ∧ nk_I h (pa j) 8 = s 9 j
/-- acts -/
def ac (s : Nat → Nat → Int32) (pa : Nat → Nat) (e : Nat) : Nat := pa (sN s 32 e)
def AS (h : nk_H) (X a : Nat) (pa : Nat → Nat) (s : Nat → Nat → Int32) : Prop := ∀ e, e < a → nk_P h (ac s pa e) 6 = some (pw s pa (sN s 33 (6 * e + 1))) ∧ nk_P h (ac s pa e) 7 = some (ac s pa e - 1) ∧ nk_K h (ac s pa e - 1) = 11 ∧ nk_P h (ac s pa e) 8 = some (ac s pa e + 2) ∧ nk_K h (ac s pa e + 2) = 1 ∧ nk_L h (ac s pa e + 2) = 6 ∧ X + 58 ≤ ac s pa e ∧ ac s pa e + 3 ≤ nk_N h
def AI (h : nk_H) (a : Nat) (pa : Nat → Nat) (s : Nat → Nat → Int32) : Prop := ∀ e, e < a → nk_I h (ac s pa e) 9 = s 35 e ∧ nk_I h (ac s pa e) 10 = s 36 e ∧ (∀ i, i < 6 → nk_I h (ac s pa e + 2) i = s 33 (6 * e + i)) ∧
  nk_I h (ac s pa e - 1) 0 = s 5 (sN s 32 e) ∧ nk_I h (ac s pa e - 1) 1 = s 6 (sN s 32 e) ∧ nk_I h (ac s pa e - 1) 2 = s 33 (6 * e) ∧ nk_I h (ac s pa e - 1) 3 = s 33 (6 * e + 2) ∧ nk_I h (ac s pa e - 1) 4 = s 34 e ∧ nk_I h (ac s pa e - 1) 5 = s 33 (6 * e + 4)
/-- copies -/
def KS (h : nk_H) (X c n : Nat) (pa cp : Nat → Nat) (s : Nat → Nat → Int32) : Prop := ∀ e, e < c → X + 57 ≤ cp e ∧ cp e + 3 + sN s 40 e ≤ nk_N h ∧ (∀ i, i < e → cp i + 3 + sN s 40 i ≤ cp e) ∧ (∀ j, j < n → pa j + 2 ≤ cp e ∨ cp e + 3 + sN s 40 e ≤ pa j) ∧
  nk_K h (cp e) = 10 ∧ nk_P h (cp e) 4 = some (cp e + 1) ∧ nk_P h (cp e) 5 = some (cp e + 2 + sN s 40 e) ∧ nk_K h (cp e + 1) = 5 ∧ nk_L h (cp e + 1) = sN s 40 e ∧ nk_K h (cp e + 2 + sN s 40 e) = 1 ∧ nk_L h (cp e + 2 + sN s 40 e) = sN s 40 e ∧
  ∀ i, i < sN s 40 e → nk_P h (cp e + 1) i = some (cp e + 2 + i) ∧ nk_K h (cp e + 2 + i) = 1 ∧ nk_L h (cp e + 2 + i) = 6
def KI (h : nk_H) (c : Nat) (cp : Nat → Nat) (s : Nat → Nat → Int32) : Prop := ∀ e, e < c → nk_I h (cp e) 0 = s 38 e ∧ nk_I h (cp e) 1 = s 39 e ∧ nk_I h (cp e) 2 = s 40 e ∧ nk_I h (cp e) 3 = s 41 e ∧ nk_I h (cp e) 6 = s 42 e ∧
  ∀ i, i < sN s 40 e → nk_I h (cp e + 2 + sN s 40 e) i = s 44 (160 * e + i) ∧ ∀ p, p < 6 → nk_I h (cp e + 2 + i) p = s 43 (6 * (160 * e + i) + p)
/-- the lists -/
def CL (h : nk_H) (X n w c : Nat) (pa cp : Nat → Nat) (s : Nat → Nat → Int32) : Prop := LSq h (X + 5) n pa ∧ LSq h (X + 7) w (pw s pa) ∧ (∀ k, k < 6 → LSq h (X + 10 + 2 * k) (sN s 30 k) (fun r => ac s pa (sN s 31 (160 * k + r)))) ∧ LSq h (X + 21) c cp

section CR
variable {α : Type} {h : nk_H} {X : Nat}
theorem rd_P {h : nk_H} {a k : Nat} {b : Option Nat} (ks : List Nat) (hk : nk_K h a ∈ ks) (hp : nk_P h a k = b) (K : Option Nat → Option (nk_H × α)) : (nk_gP ks k h (some a)).bind K = K b := by
  simp [nk_gP, hk, hp]
theorem rd_I {h : nk_H} {a k : Nat} {v : Int32} (ks : List Nat) (hk : nk_K h a ∈ ks) (hp : nk_I h a k = v) (K : Int32 → Option (nk_H × α)) : (nk_gI ks k h (some a)).bind K = K v := by
  simp [nk_gI, hk, hp]
theorem rd_r {h : nk_H} {a : Nat} (ks : List Nat) (hk : nk_K h a ∈ ks) (K : Nat → Option (nk_H × α)) : (nk_rcv ks h (some a)).bind K = K a := by
  simp [nk_rcv, hk]
theorem rd_c {h : nk_H} {a : Nat} (ks : List Nat) (hk : nk_K h a ∈ ks) (K : Unit → Option (nk_H × α)) : (nk_cc ks h (some a)).bind K = K () := by
  simp [nk_cc, hk]
theorem rd_a {h : nk_H} {a : Nat} (c : Nat) {j : Nat} {v : Int32} (hk : nk_K h a = c) (hj : j < nk_L h a) (hj2 : j < 2147483648) (hv : nk_I h a j = v) (K : Int32 → Option (nk_H × α)) : (nk_aI c h (some a) (Int32.ofNat j)).bind K = K v := by
  simp [nk_aI, hk, ia_n0 hj2, ia_nn hj2, hj, hv]
theorem rd_q {h : nk_H} {a : Nat} (c : Nat) {j : Nat} {v : Option Nat} (hk : nk_K h a = c) (hj : j < nk_L h a) (hj2 : j < 2147483648) (hv : nk_P h a j = v) (K : Option Nat → Option (nk_H × α)) : (nk_aP c h (some a) (Int32.ofNat j)).bind K = K v := by
  simp [nk_aP, hk, ia_n0 hj2, ia_nn hj2, hj, hv]
theorem rd_l {h : nk_H} {a : Nat} (hk1 : 1 ≤ nk_K h a) (hk6 : nk_K h a ≤ 6) (K : Int32 → Option (nk_H × α)) : (nk_len h (some a)).bind K = K (Int32.ofNat (nk_L h a)) := by
  simp [nk_len, hk1, hk6]
/-- lists -/
theorem ls_size {l n : Nat} {el : Nat → Nat} (H : LSq h l n el) : f_Jx4a65c_size_8abf5 h l = some (h, Int32.ofNat n) := by
  unfold f_Jx4a65c_size_8abf5
  rw [rd_I [7] (by rw [H.1]; decide) H.2.1]
theorem ls_get {l n : Nat} {el : Nat → Nat} (H : LSq h l n el) {i : Nat} (hi : i < n) : f_Jx4a65c_get_915e3 h l (Int32.ofNat i) = some (h, some (el i)) := by
  obtain ⟨h1, h2, h3, e, h4, -, ⟨-, h0, -⟩ | ⟨h5, h6, h7, h8, h9⟩⟩ := H
  · omega
  unfold f_Jx4a65c_get_915e3 f_J15_checkIndex_7cf53 f_J3_checkIndex_8e157 f_Jx4a65c_elementData_915e3
  rw [rd_I [7] (by rw [h1]; decide) h2, if_neg (ia_n0 (by omega)), if_pos ((ia_lt (by omega) (by omega)).mpr hi)]
  have e1 : ∀ (K : nk_H → Int32 → Option (nk_H × Option Nat)), nk_do (nk_do (some (h, Int32.ofNat i)) fun h1 x2 => some (h1, x2)) K = K h (Int32.ofNat i) := fun K => rfl
  rw [e1, rd_r [7] (by rw [h1]; decide), rd_P [7] (by rw [h1]; decide) h4, rd_q 4 h5 (by omega) (by omega) (h9 i hi).1]
  rfl
end CR
