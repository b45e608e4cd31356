/-! ===== ints as naturals, booleans as ints ===== -/
def b2i (b : Bool) : Int32 := if b = true then 1 else 0
theorem b2i_true : b2i true = 1 := rfl
theorem b2i_false : b2i false = 0 := rfl
theorem b2i_eq0 (b : Bool) : (b2i b = 0) ↔ b = false := by cases b <;> decide
theorem b2i_eq1 (b : Bool) : (b2i b = 1) ↔ b = true := by cases b <;> decide
theorem b2i_inj (a b : Bool) : (b2i a = b2i b) ↔ a = b := by cases a <;> cases b <;> decide
theorem nk_zr_b {β : Type} (b : Bool) (r : nk_H × β) : nk_zr (b2i b) r = some r := by cases b <;> rfl
theorem nk_zr_0 {β : Type} (r : nk_H × β) : nk_zr 0 r = some r := rfl
theorem nk_zr_1 {β : Type} (r : nk_H × β) : nk_zr 1 r = some r := rfl
theorem ia_nn {n : Nat} (h : n < 2147483648) : (Int32.ofNat n).toNatClampNeg = n := by
  show (Int32.ofNat n).toInt.toNat = n
  rw [Int32.toInt_ofNat_of_lt (by simpa using h)]
  rfl
theorem ia_ti {n : Nat} (h : n < 2147483648) : (Int32.ofNat n).toInt = (n : Int) := Int32.toInt_ofNat_of_lt (by simpa using h)
theorem ia_n0 {n : Nat} (h : n < 2147483648) : ¬ Int32.ofNat n < 0 := by
  rw [Int32.lt_iff_toInt_lt, ia_ti h]; simp
theorem ia_le {a b : Nat} (ha : a < 2147483648) (hb : b < 2147483648) : (Int32.ofNat a ≤ Int32.ofNat b) ↔ a ≤ b := by
  rw [Int32.le_iff_toInt_le, ia_ti ha, ia_ti hb]; omega
theorem ia_lt {a b : Nat} (ha : a < 2147483648) (hb : b < 2147483648) : (Int32.ofNat a < Int32.ofNat b) ↔ a < b := by
  rw [Int32.lt_iff_toInt_lt, ia_ti ha, ia_ti hb]; omega
theorem ia_eq {a b : Nat} (ha : a < 2147483648) (hb : b < 2147483648) : (Int32.ofNat a = Int32.ofNat b) ↔ a = b := by
  rw [← Int32.toInt_inj, ia_ti ha, ia_ti hb]; omega
theorem ia_add (a b : Nat) : Int32.ofNat a + Int32.ofNat b = Int32.ofNat (a + b) := (Int32.ofNat_add a b).symm
theorem ia_mul (a b : Nat) : Int32.ofNat a * Int32.ofNat b = Int32.ofNat (a * b) := (Int32.ofNat_mul a b).symm
theorem ia_sub {a b : Nat} (h : b ≤ a) : Int32.ofNat a - Int32.ofNat b = Int32.ofNat (a - b) := by
  have : Int32.ofNat a = Int32.ofNat (a - b) + Int32.ofNat b := by rw [ia_add, Nat.sub_add_cancel h]
  rw [this, Int32.add_sub_cancel]
theorem ia_of {v : Int32} (h : ¬ v < 0) : v = Int32.ofNat v.toNatClampNeg := by
  have h0 : (0 : Int) ≤ v.toInt := by
    have := Int32.not_lt.mp h
    simpa using Int32.le_iff_toInt_le.mp this
  have h1 : v.toInt < 2147483648 := by simpa using Int32.toInt_lt v
  have hn : v.toNatClampNeg = v.toInt.toNat := rfl
  rw [← Int32.toInt_inj, ia_ti (by omega), hn]
  omega
theorem ia_lt_of {v : Int32} {n : Nat} (hn : n < 2147483648) (h : ¬ v < 0) (h2 : v < Int32.ofNat n) : v.toNatClampNeg < n := by
  rw [ia_of h] at h2
  have : v.toNatClampNeg < 2147483648 := by
    have h1 : v.toInt < 2147483648 := by simpa using Int32.toInt_lt v
    have hn : v.toNatClampNeg = v.toInt.toNat := rfl
    omega
  exact (ia_lt this hn).mp h2
/-- a value between 0 and n -/
theorem ia_ex {v : Int32} {n : Nat} (hn : n < 2147483648) (h : ¬ v < 0) (h2 : v < Int32.ofNat n) : ∃ k : Nat, v = Int32.ofNat k ∧ k < n := ⟨_, ia_of h, ia_lt_of hn h h2⟩
/-- loops: while i < n, from i; a step answers r or goes on -/
theorem b2i_ite (p : Prop) [Decidable p] : (if p then (1 : Int32) else 0) = b2i (decide p) := by
  by_cases h : p <;> simp [h, b2i]
