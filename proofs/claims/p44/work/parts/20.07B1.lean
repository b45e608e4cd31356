/-! ===== bits ===== -/
def gb (x : Int32) (k : Nat) : Bool := x.toBitVec.getLsbD k
theorem gb_and (x y : Int32) (k : Nat) : gb (x &&& y) k = (gb x k && gb y k) := by
  unfold gb; rw [Int32.toBitVec_and, BitVec.getLsbD_and]
theorem gb_or (x y : Int32) (k : Nat) : gb (x ||| y) k = (gb x k || gb y k) := by
  unfold gb; rw [Int32.toBitVec_or, BitVec.getLsbD_or]
theorem gb_xor (x y : Int32) (k : Nat) : gb (x ^^^ y) k = (gb x k ^^ gb y k) := by
  unfold gb; rw [Int32.toBitVec_xor, BitVec.getLsbD_xor]
theorem gb_ext {x y : Int32} (h : ∀ k, k < 32 → gb x k = gb y k) : x = y := by
  apply Int32.toBitVec_inj.mp
  exact BitVec.eq_of_getLsbD_eq (fun i hi => h i hi)
theorem gb_ge (x : Int32) {k : Nat} (h : 32 ≤ k) : gb x k = false := BitVec.getLsbD_of_ge _ _ h
theorem gb_0 (k : Nat) : gb 0 k = false := by unfold gb; simp
theorem gb_bit0 : ∀ k, k < 6 → ∀ j, j < 32 → gb (1 <<< (Int32.ofNat k &&& 31)) j = decide (j = k) := by decide +kernel
theorem gb_bit {k : Nat} (hk : k < 6) (j : Nat) : gb (1 <<< (Int32.ofNat k &&& 31)) j = decide (j = k) := by
  by_cases h : j < 32
  · exact gb_bit0 k hk j h
  · rw [gb_ge _ (by omega), decide_eq_false (by omega)]
theorem gb_not0 : ∀ k, k < 32 → gb (-1) k = true := by decide +kernel
theorem gb_not (x : Int32) {k : Nat} (hk : k < 32) : gb (x ^^^ (-1)) k = !gb x k := by
  rw [gb_xor, gb_not0 k hk]; cases gb x k <;> rfl
theorem gb_cls (x : Int32) {k : Nat} (hk : k < 6) : ((x &&& (1 <<< (Int32.ofNat k &&& 31))) = 0) ↔ gb x k = false := by
  constructor
  · intro h
    have h2 := congrArg (fun z => gb z k) h
    simp only [gb_and, gb_bit hk, gb_0] at h2
    simpa using h2
  · intro h
    apply gb_ext
    intro j _
    rw [gb_and, gb_bit hk, gb_0]
    by_cases e : j = k
    · rw [e, h]; rfl
    · rw [decide_eq_false e]; simp
theorem gb_shr0 : ∀ k, k < 6 → (Int32.ofNat k &&& 31).toBitVec.smod 32 = BitVec.ofNat 32 k := by decide +kernel
theorem gb_one : ∀ k, k < 32 → gb 1 k = decide (k = 0) := by decide +kernel
theorem gb_mod (x : Int32) {k : Nat} (hk : k < 6) : ((x >>> (Int32.ofNat k &&& 31)) &&& 1) = if gb x k = true then 1 else 0 := by
  have h : ∀ j, gb (x >>> (Int32.ofNat k &&& 31)) j = if j = 0 then gb x k else gb (x >>> (Int32.ofNat k &&& 31)) j := by
    intro j
    by_cases e : j = 0
    · subst e
      rw [if_pos rfl]
      unfold gb
      rw [Int32.toBitVec_shiftRight, gb_shr0 k hk]
      rw [BitVec.sshiftRight_eq', BitVec.getLsbD_sshiftRight]
      have : (BitVec.ofNat 32 k).toNat = k := by simp; omega
      rw [this]
      simp
      omega
    · rw [if_neg e]
  apply gb_ext
  intro j hj
  rw [gb_and, gb_one j hj, h j]
  by_cases e : j = 0
  · subst e
    rw [if_pos rfl]
    cases gb x k <;> rfl
  · rw [decide_eq_false e, Bool.and_false]
    cases gb x k
    · rw [if_neg (by decide), gb_0]
    · rw [if_pos rfl, gb_one j hj, decide_eq_false e]
theorem gb_mod1 (x : Int32) {k : Nat} (hk : k < 6) : (((x >>> (Int32.ofNat k &&& 31)) &&& 1) = 1) ↔ gb x k = true := by
  rw [gb_mod x hk]; cases gb x k <;> decide
theorem gb_mod0 (x : Int32) {k : Nat} (hk : k < 6) : (((x >>> (Int32.ofNat k &&& 31)) &&& 1) = 0) ↔ gb x k = false := by
  rw [gb_mod x hk]; cases gb x k <;> decide
/-- sets of kiosks -/
def six (x : Int32) : Prop := ∀ k, 6 ≤ k → k < 32 → gb x k = false
theorem six63 : ∀ k, k < 32 → gb 63 k = decide (k < 6) := by decide +kernel
theorem six_ex {x : Int32} (h : six x) : ∃ m, m < 64 ∧ x = Int32.ofNat m := by
  have e : x = x &&& 63 := by
    apply gb_ext
    intro k hk
    rw [gb_and, six63 k hk]
    by_cases h6 : k < 6
    · rw [decide_eq_true h6, Bool.and_true]
    · rw [decide_eq_false h6, Bool.and_false]; exact h k (by omega) hk
  refine ⟨(x &&& 63).toBitVec.toNat, ?_, ?_⟩
  · rw [Int32.toBitVec_and, BitVec.toNat_and]
    have : (63 : Int32).toBitVec.toNat = 63 := by decide
    rw [this]
    have := Nat.and_le_right (n := x.toBitVec.toNat) (m := 63)
    omega
  · rw [← e]
    apply Int32.toBitVec_inj.mp
    apply BitVec.eq_of_toNat_eq
    simp
theorem six_of0 : ∀ m, m < 64 → ∀ k, k < 32 → 6 ≤ k → gb (Int32.ofNat m) k = false := by decide +kernel
theorem six_of {m : Nat} (h : m < 64) : six (Int32.ofNat m) := fun k h1 h2 => six_of0 m h k h2 h1
def cnt (f : Nat → Bool) : Int32 := b2i (f 0) + b2i (f 1) + b2i (f 2) + b2i (f 3) + b2i (f 4) + b2i (f 5)
theorem bc0 (h : nk_H) : ∀ m, m < 64 → f_J6_bitCount_0f7a4 h (Int32.ofNat m) = some (h, cnt (gb (Int32.ofNat m))) := by
  have key : ∀ m, m < 64 → (f_J6_bitCount_0f7a4 (fun _ => 0, fun _ _ => 0, fun _ _ => none, fun _ => 0, 0, 0, 0, 0) (Int32.ofNat m)).map Prod.snd = some (cnt (gb (Int32.ofNat m))) := by decide +kernel
  intro m hm
  have := key m hm
  unfold f_J6_bitCount_0f7a4 at this ⊢
  simp only [Option.map_some, Option.some.injEq] at this
  rw [this]
theorem bc (h : nk_H) {x : Int32} (hx : six x) : f_J6_bitCount_0f7a4 h x = some (h, cnt (gb x)) := by
  obtain ⟨m, hm, rfl⟩ := six_ex hx
  exact bc0 h m hm
theorem m_many (h : nk_H) (x : Int32) : f_X12_many h x = some (h, cnt (gb x)) := by
  unfold f_X12_many
  have key := loop_sum (g := fun k => b2i (gb x k)) (N := 6) (F := fun k9 acc z => f_X12_many_b4 k9 h x acc z) (A := fun acc => some (h, acc)) (fun k9 i acc hi => by
      show f_X12_many_c4 (f_X12_many_b4 k9) h x acc (Int32.ofNat i) = _
      unfold f_X12_many_c4
      by_cases h1 : 6 ≤ i
      · rw [if_pos (show (6 : Int32) ≤ Int32.ofNat i from (ia_le (a := 6) (by omega) (by omega)).mpr h1), if_pos h1]
      · rw [if_neg (fun e9 : (6 : Int32) ≤ Int32.ofNat i => h1 ((ia_le (a := 6) (by omega) (by omega)).mp e9)), if_neg h1, gb_mod x (by omega), ia_1]; rfl) 4096 0 (by omega) (by omega)
  show f_X12_many_b4 4096 h x (sumB (fun k => b2i (gb x k)) 0) (Int32.ofNat 0) = _
  rw [key]
  simp [sumB, cnt]
