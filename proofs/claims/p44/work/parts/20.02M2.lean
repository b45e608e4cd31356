/-! ===== loops ===== -/
def anyB (P : Nat → Bool) : Nat → Bool
  | 0 => false
  | n + 1 => anyB P n || P n
def sumB (g : Nat → Int32) : Nat → Int32
  | 0 => 0
  | n + 1 => sumB g n + g n
def firstB (P : Nat → Bool) : Nat → Option Nat
  | 0 => none
  | n + 1 => match firstB P n with
    | some i => some i
    | none => if P n = true then some n else none
theorem anyB_false {P : Nat → Bool} {n : Nat} : anyB P n = false ↔ ∀ j, j < n → P j = false := by
  induction n with
  | zero => simp [anyB]
  | succ n ih =>
    simp only [anyB, Bool.or_eq_false_iff, ih]
    constructor
    · intro h j hj
      by_cases e : j = n
      · rw [e]; exact h.2
      · exact h.1 j (by omega)
    · intro h
      exact ⟨fun j hj => h j (by omega), h n (by omega)⟩
theorem anyB_true {P : Nat → Bool} {n : Nat} : anyB P n = true ↔ ∃ j, j < n ∧ P j = true := by
  constructor
  · intro h
    apply Classical.byContradiction
    intro h2
    have : anyB P n = false := anyB_false.mpr (fun j hj => by
      cases e : P j with
      | false => rfl
      | true => exact absurd ⟨j, hj, e⟩ h2)
    rw [this] at h; cases h
  · intro ⟨j, hj, hp⟩
    cases e : anyB P n with
    | true => rfl
    | false => rw [anyB_false.mp e j hj] at hp; cases hp
theorem anyB_congr {P Q : Nat → Bool} {n : Nat} (h : ∀ j, j < n → P j = Q j) : anyB P n = anyB Q n := by
  induction n with
  | zero => rfl
  | succ n ih => simp only [anyB]; rw [ih (fun j hj => h j (by omega)), h n (by omega)]
theorem sumB_congr {f g : Nat → Int32} {n : Nat} (h : ∀ j, j < n → f j = g j) : sumB f n = sumB g n := by
  induction n with
  | zero => rfl
  | succ n ih => simp only [sumB]; rw [ih (fun j hj => h j (by omega)), h n (by omega)]
theorem firstB_congr {P Q : Nat → Bool} {n : Nat} (h : ∀ j, j < n → P j = Q j) : firstB P n = firstB Q n := by
  induction n with
  | zero => rfl
  | succ n ih => simp only [firstB]; rw [ih (fun j hj => h j (by omega)), h n (by omega)]
theorem anyB_at {P : Nat → Bool} {n i : Nat} (hi : i < n) (hp : P i = true) : anyB P n = true := anyB_true.mpr ⟨i, hi, hp⟩
/-- a loop that answers 1 at the first place, 0 at the end -/
theorem loop_any {α : Type} {P : Nat → Bool} {N : Nat} {F : Nat → Int32 → α} {a0 a1 : α} (hN : N < 2000000) (hF : ∀ n i, i ≤ N → F (n + 1) (Int32.ofNat i) = if N ≤ i then a0 else if P i = true then a1 else F n (Int32.ofNat (i + 1))) :
    ∀ n i, i ≤ N → N - i < n → (∀ j, j < i → P j = false) → F n (Int32.ofNat i) = if anyB P N = true then a1 else a0 := by
  intro n
  induction n with
  | zero => intro i _ h; omega
  | succ n ih =>
    intro i hi hn hp
    rw [hF n i hi]
    by_cases h1 : N ≤ i
    · have e : i = N := by omega
      subst e
      rw [if_pos h1, anyB_false.mpr hp]; rfl
    · rw [if_neg h1]
      by_cases h2 : P i = true
      · rw [if_pos h2, if_pos (anyB_at (by omega) h2)]
      · rw [if_neg h2]
        refine ih (i + 1) (by omega) (by omega) (fun j hj => ?_)
        by_cases e : j = i
        · rw [e]; simpa using h2
        · exact hp j (by omega)
theorem loop_sum {α : Type} {g : Nat → Int32} {N : Nat} {F : Nat → Int32 → Int32 → α} {A : Int32 → α} (hF : ∀ n i (acc : Int32), i ≤ N → F (n + 1) acc (Int32.ofNat i) = if N ≤ i then A acc else F n (acc + g i) (Int32.ofNat (i + 1))) :
    ∀ n i, i ≤ N → N - i < n → F n (sumB g i) (Int32.ofNat i) = A (sumB g N) := by
  intro n
  induction n with
  | zero => intro i _ h; omega
  | succ n ih =>
    intro i hi hn
    rw [hF n i _ hi]
    by_cases h1 : N ≤ i
    · have e : i = N := by omega
      subst e
      rw [if_pos h1]
    · rw [if_neg h1]
      exact ih (i + 1) (by omega) (by omega)
theorem firstB_none {P : Nat → Bool} {n : Nat} (h : ∀ j, j < n → P j = false) : firstB P n = none := by
  induction n with
  | zero => rfl
  | succ n ih => simp only [firstB]; rw [ih (fun j hj => h j (by omega)), h n (by omega)]; rfl
theorem firstB_some {P : Nat → Bool} {n i : Nat} (hi : i < n) (hp : P i = true) (h : ∀ j, j < i → P j = false) : firstB P n = some i := by
  induction n with
  | zero => omega
  | succ n ih =>
    simp only [firstB]
    by_cases e : i = n
    · subst e
      rw [firstB_none h]; simp [hp]
    · rw [ih (by omega)]
theorem loop_first {α : Type} {P : Nat → Bool} {N : Nat} {F : Nat → Int32 → α} {a0 : α} {a1 : Nat → α} (hF : ∀ n i, i ≤ N → F (n + 1) (Int32.ofNat i) = if N ≤ i then a0 else if P i = true then a1 i else F n (Int32.ofNat (i + 1))) :
    ∀ n i, i ≤ N → N - i < n → (∀ j, j < i → P j = false) → F n (Int32.ofNat i) = match firstB P N with
      | some i => a1 i
      | none => a0 := by
  intro n
  induction n with
  | zero => intro i _ h; omega
  | succ n ih =>
    intro i hi hn hp
    rw [hF n i hi]
    by_cases h1 : N ≤ i
    · have e : i = N := by omega
      subst e
      rw [if_pos h1, firstB_none hp]
    · rw [if_neg h1]
      by_cases h2 : P i = true
      · rw [if_pos h2, firstB_some (by omega) h2 hp]
      · rw [if_neg h2]
        refine ih (i + 1) (by omega) (by omega) (fun j hj => ?_)
        by_cases e : j = i
        · rw [e]; simpa using h2
        · exact hp j (by omega)
/-- a chain of powers: each one's source comes ahead of it -/
def chB (src : Nat → Option Nat) (P : Nat → Bool) : Nat → Option Nat → Bool
  | 0, _ => false
  | _ + 1, none => false
  | n + 1, some q => P q || chB src P n (src q)
theorem chB_stable {src : Nat → Option Nat} {P : Nat → Bool} (hs : ∀ q r, src q = some r → r < q) : ∀ (n m : Nat) (o : Option Nat), (∀ q, o = some q → q < n) → (∀ q, o = some q → q < m) → chB src P n o = chB src P m o := by
  intro n
  induction n with
  | zero =>
    intro m o h1 h2
    cases o with
    | none => cases m <;> rfl
    | some q => have := h1 q rfl; omega
  | succ n ih =>
    intro m o h1 h2
    cases o with
    | none => cases m <;> rfl
    | some q =>
      cases m with
      | zero => have := h2 q rfl; omega
      | succ m =>
        simp only [chB]
        rw [ih m (src q) (fun r hr => by have := hs q r hr; have := h1 q rfl; omega) (fun r hr => by have := hs q r hr; have := h2 q rfl; omega)]
theorem chB_congr {src : Nat → Option Nat} {P Q : Nat → Bool} {w : Nat} (hs : ∀ q r, src q = some r → r < q) (h : ∀ q, q < w → P q = Q q) : ∀ (n : Nat) (o : Option Nat), (∀ q, o = some q → q < w) → chB src P n o = chB src Q n o := by
  intro n
  induction n with
  | zero => intro o _; rfl
  | succ n ih =>
    intro o ho
    cases o with
    | none => rfl
    | some q =>
      have hq := ho q rfl
      simp only [chB]
      rw [h q hq, ih (src q) (fun r hr => by have := hs q r hr; omega)]
/-- a loop along a chain: 1 at the first place, 0 at the end -/
theorem loop_ch {α β : Type} {src : Nat → Option Nat} {P : Nat → Bool} {F : Nat → β → α} {a0 a1 : α} {w : Nat} (E : Option Nat → β) (hs : ∀ q r, src q = some r → r < q)
    (h0 : ∀ n, F (n + 1) (E none) = a0) (hF : ∀ n q, q < w → F (n + 1) (E (some q)) = if P q = true then a1 else F n (E (src q))) :
    ∀ n (o : Option Nat), w < n → (∀ q, o = some q → q < w) → F n (E o) = if chB src P w o = true then a1 else a0 := by
  have key : ∀ n (o : Option Nat), (∀ q, o = some q → q + 1 < n ∧ q < w) → 0 < n → F n (E o) = if chB src P n o = true then a1 else a0 := by
    intro n
    induction n with
    | zero => intro o _ h; omega
    | succ n ih =>
      intro o ho _
      cases o with
      | none => rw [h0]; rfl
      | some q =>
        obtain ⟨h1, h2⟩ := ho q rfl
        rw [hF n q h2]
        by_cases hp : P q = true
        · have e : chB src P (n + 1) (some q) = true := by simp [chB, hp]
          rw [if_pos hp, if_pos e]
        · have e : chB src P (n + 1) (some q) = chB src P n (src q) := by simp [chB, hp]
          rw [if_neg hp, ih (src q) (fun r hr => by have := hs q r hr; omega) (by omega), e]
  intro n o hn ho
  rw [key n o (fun q hq => by have := ho q hq; omega) (by omega)]
  rw [chB_stable hs n w o (fun q hq => by have := ho q hq; omega) ho]
