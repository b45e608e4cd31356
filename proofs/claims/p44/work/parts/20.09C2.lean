/-- what the class's questions need -/
def CQ (h : nk_H) (X n w a : Nat) (pa : Nat → Nat) (s : Nat → Nat → Int32) : Prop := CF h X ∧ LSq h (X + 5) n pa ∧ PA h X n pa ∧ PS h n pa s ∧ PI h n pa s ∧ PW h w pa s ∧ PR h n pa s ∧ PD h n pa s ∧ AS h X a pa s ∧ AI h a pa s
/-- what is looked at -/
def SE (h : nk_H) (X n : Nat) (s : Nat → Nat → Int32) (B : Int32) : Prop := ∀ j, j < n → nk_I h (X + 6) j = b2i (hasB s B j)
theorem chB_any {src : Nat → Option Nat} (Q : Nat → Nat → Bool) (n : Nat) : ∀ (m : Nat) (o : Option Nat), chB src (fun x => anyB (Q x) n) m o = anyB (fun j => chB src (fun x => Q x j) m o) n := by
  intro m
  induction m with
  | zero =>
    intro o
    exact (anyB_false.mpr (fun j _ => rfl)).symm
  | succ m ih =>
    intro o
    cases o with
    | none => exact (anyB_false.mpr (fun j _ => rfl)).symm
    | some q =>
      simp only [chB]
      rw [ih]
      clear ih
      induction n with
      | zero => rfl
      | succ n ih2 =>
        simp only [anyB]
        rw [← ih2]
        cases anyB (Q q) n <;> cases Q q n <;> cases anyB (fun j => chB src (fun x => Q x j) m (src q)) n <;> rfl
theorem chB_and {src : Nat → Option Nat} (P : Nat → Bool) (b : Bool) : ∀ (m : Nat) (o : Option Nat), chB src (fun x => b && P x) m o = (b && chB src P m o) := by
  intro m
  induction m with
  | zero => intro o; cases b <;> rfl
  | succ m ih =>
    intro o
    cases o with
    | none => cases b <;> rfl
    | some q =>
      simp only [chB]
      rw [ih]
      cases b <;> rfl
section CC
variable {h : nk_H} {X n w a c hr : Nat} {pa : Nat → Nat} {s : Nat → Nat → Int32}
theorem cq_bound (H : CQ h X n w a pa s) (hI : Inv s n w a c hr) : n ≤ 160 ∧ w ≤ 40 ∧ a ≤ n := ⟨hI.1.2.1, hI.1.2.2.2.1, hI.1.2.2.2.2.2.2.1⟩
theorem pa_inj (H : PA h X n pa) {i j : Nat} (hi : i < n) (hj : j < n) (e : pa i = pa j) : i = j := by
  rcases Nat.lt_trichotomy i j with h1 | h1 | h1
  · have := (H j hj).2.2 i h1; omega
  · exact h1
  · have := (H i hi).2.2 j h1; omega
/-- a power's piece -/
theorem pw_at (hI : Inv s n w a c hr) {q : Nat} (hq : q < w) : sN s 13 q < n ∧ s 4 (sN s 13 q) = 0 ∧ s 7 (sN s 13 q) = Int32.ofNat q := by
  obtain ⟨⟨p, hp, e1, e2, e3⟩, -⟩ := hI.2.2.2.1 q hq
  have hn := hI.1.2.1
  have : sN s 13 q = p := sN_of e1 (by omega)
  rw [this]
  exact ⟨hp, e2, e3⟩
theorem pw_K (H : CQ h X n w a pa s) (hI : Inv s n w a c hr) {q : Nat} (hq : q < w) : nk_K h (pw s pa q) = 16 := by
  obtain ⟨h1, h2, -⟩ := pw_at hI hq
  have := (H.2.2.2.1 _ h1).1
  rw [h2] at this
  exact this
theorem pw_inj (H : CQ h X n w a pa s) (hI : Inv s n w a c hr) {q r : Nat} (hq : q < w) (hr : r < w) (e : pw s pa q = pw s pa r) : q = r := by
  obtain ⟨h1, -, h2⟩ := pw_at hI hq
  obtain ⟨h3, -, h4⟩ := pw_at hI hr
  have e1 := pa_inj H.2.2.1 h1 h3 e
  have hw := hI.1.2.2.2.1
  rw [e1, h4] at h2
  exact ((ia_eq (by omega) (by omega)).mp h2).symm
theorem pk_cases (hI : Inv s n w a c hr) {j : Nat} (hj : j < n) : (s 4 j = 0 ∧ pk (s 4 j) = 16) ∨ (s 4 j = 1 ∧ pk (s 4 j) = 17) ∨ (s 4 j = 2 ∧ pk (s 4 j) = 12) ∨ (s 4 j = 3 ∧ pk (s 4 j) = 8) := by
  obtain ⟨-, -, ⟨e, -⟩ | ⟨e, -⟩ | ⟨e, -⟩ | ⟨e, -⟩⟩ := hI.2.1 j hj <;> rw [e] <;> decide
theorem pa_K (H : CQ h X n w a pa s) (hI : Inv s n w a c hr) {j : Nat} (hj : j < n) : nk_K h (pa j) ∈ [8, 12, 16, 17] := by
  rw [(H.2.2.2.1 j hj).1]
  rcases pk_cases hI hj with ⟨-, e⟩ | ⟨-, e⟩ | ⟨-, e⟩ | ⟨-, e⟩ <;> rw [e] <;> decide
/-- loops along a line -/
theorem c_line (F : Nat → Option Nat → Option (nk_H × Int32)) (P : Nat → Bool) (z o : Bool) (hI : Inv s n w a c hr) {q : Nat} (hq : q < w)
    (h0 : ∀ k, F (k + 1) none = some (h, b2i z)) (hF : ∀ k x, x < w → F (k + 1) (some (pw s pa x)) = if P x = true then some (h, b2i o) else F k ((src s x).map (pw s pa))) : F 4096 (some (pw s pa q)) = some (h, b2i (if lineB s w P q = true then o else z)) := by
  have hw := hI.1.2.2.2.1
  have key := loop_ch (src := srcw s w) (P := P) (F := F) (a0 := some (h, b2i z)) (a1 := some (h, b2i o)) (w := w) (fun o => o.map (pw s pa)) (srcw_lt hI) h0 (fun k x hx => by
      show F (k + 1) (some (pw s pa x)) = _
      rw [hF k x hx]
      unfold srcw
      rw [if_pos hx]) 4096 (some q) (by omega) (fun r hr => by cases hr; exact hq)
  show F 4096 ((some q).map (pw s pa)) = _
  rw [key]
  unfold lineB
  cases chB (srcw s w) P w (some q) <;> rfl
theorem q_inLine (H : CQ h X n w a pa s) (hI : Inv s n w a c hr) {q r : Nat} (hq : q < w) (hr9 : r < w) : f_X9_hasInLine h (pw s pa q) (some (pw s pa r)) = some (h, b2i (lineB s w (fun x => decide (Int32.ofNat x = Int32.ofNat r)) q)) := by
  have hw := hI.1.2.2.2.1
  unfold f_X9_hasInLine
  rw [c_line (F := fun k z => f_X9_hasInLine_b2 k h (some (pw s pa r)) z) (P := fun x => decide (Int32.ofNat x = Int32.ofNat r)) false true hI hq (fun k => rfl) (fun k x hx => by
    show f_X9_hasInLine_c2 (f_X9_hasInLine_b2 k) h (some (pw s pa r)) (some (pw s pa x)) = _
    unfold f_X9_hasInLine_c2
    rw [if_neg (by simp)]
    by_cases e : x = r
    · subst e; rw [if_pos rfl, if_pos (by simp)]; rfl
    · rw [if_neg (fun e2 => e (pw_inj H hI hx hr9 (Option.some.inj e2))), if_neg (by
        intro e2
        exact e ((ia_eq (by omega) (by omega)).mp (of_decide_eq_true e2))), rd_P [16] (by rw [pw_K H hI hx]; decide) (H.2.2.2.2.2.1 x hx).2.1])]
  cases lineB s w (fun x => decide (Int32.ofNat x = Int32.ofNat r)) q <;> rfl
theorem q_over (H : CQ h X n w a pa s) (hI : Inv s n w a c hr) {q : Nat} (hq : q < w) (t : Int32) : f_X9_isOver h (pw s pa q) t = some (h, b2i (overB s w q t)) := by
  unfold f_X9_isOver
  rw [c_line (F := fun k z => f_X9_isOver_b2 k h t z) (P := fun x => !decide (t ≤ s 20 x)) false true hI hq (fun k => rfl) (fun k x hx => by
    show f_X9_isOver_c2 (f_X9_isOver_b2 k) h t (some (pw s pa x)) = _
    unfold f_X9_isOver_c2
    rw [if_neg (by simp), rd_I [16] (by rw [pw_K H hI hx]; decide) (H.2.2.2.2.2.1 x hx).2.2.2.2.2.2.2.1, rd_P [16] (by rw [pw_K H hI hx]; decide) (H.2.2.2.2.2.1 x hx).2.1]
    by_cases e : t ≤ s 20 x <;> simp [e, nk_zr_1, b2i])]
  unfold overB
  cases lineB s w (fun x => !decide (t ≤ s 20 x)) q <;> rfl
theorem q_lim (H : CQ h X n w a pa s) (hI : Inv s n w a c hr) {q : Nat} (hq : q < w) (t : Int32) : f_X9_limitsBelow h (pw s pa q) t = some (h, b2i (limB s w q t)) := by
  unfold f_X9_limitsBelow
  rw [c_line (F := fun k z => f_X9_limitsBelow_b2 k h t z) (P := fun x => !decide (t ≤ s 18 x)) false true hI hq (fun k => rfl) (fun k x hx => by
    show f_X9_limitsBelow_c2 (f_X9_limitsBelow_b2 k) h t (some (pw s pa x)) = _
    unfold f_X9_limitsBelow_c2
    rw [if_neg (by simp), rd_I [16] (by rw [pw_K H hI hx]; decide) (H.2.2.2.2.2.1 x hx).2.2.2.2.2.1, rd_P [16] (by rw [pw_K H hI hx]; decide) (H.2.2.2.2.2.1 x hx).2.1]
    by_cases e : t ≤ s 18 x <;> simp [e, nk_zr_1, b2i])]
  unfold limB
  cases lineB s w (fun x => !decide (t ≤ s 18 x)) q <;> rfl
def giverB (s : Nat → Nat → Int32) (w q : Nat) (v : Int32) : Bool := lineB s w (fun x => decide (s 14 x = v)) q
theorem q_giver (H : CQ h X n w a pa s) (hI : Inv s n w a c hr) {q : Nat} (hq : q < w) (t : Int32) : f_X9_hasGiver h (pw s pa q) t = some (h, b2i (giverB s w q t)) := by
  unfold f_X9_hasGiver
  rw [c_line (F := fun k z => f_X9_hasGiver_b2 k h t z) (P := fun x => decide (s 14 x = t)) false true hI hq (fun k => rfl) (fun k x hx => by
    show f_X9_hasGiver_c2 (f_X9_hasGiver_b2 k) h t (some (pw s pa x)) = _
    unfold f_X9_hasGiver_c2
    rw [if_neg (by simp), rd_I [16] (by rw [pw_K H hI hx]; decide) (H.2.2.2.2.2.1 x hx).2.2.1, rd_P [16] (by rw [pw_K H hI hx]; decide) (H.2.2.2.2.2.1 x hx).2.1]
    by_cases e : s 14 x = t <;> simp [e, nk_zr_1, b2i])]
  unfold giverB
  cases lineB s w (fun x => decide (s 14 x = t)) q <;> rfl
theorem q_sees (H : CQ h X n w a pa s) {B : Int32} (hS : SE h X n s B) {j : Nat} (hj : j < n) (hn : n ≤ 160) : f_X7_sees h (X + 4) (Int32.ofNat j) = some (h, b2i (hasB s B j)) := by
  obtain ⟨-, -, -, -, -, -, -, ⟨k1, k2, k3, k4, k5⟩, -⟩ := H.1
  unfold f_X7_sees f_X7_sees_c26 f_X7_sees_c27
  rw [if_neg (ia_n0 (by omega)), rd_P [15] (by rw [k1]; decide) k3, rd_l (by omega) (by omega), k5, if_neg (fun e => by have := (ia_le (by omega) (by omega)).mp e; omega), rd_P [15] (by rw [k1]; decide) k3, rd_a 2 k4 (by omega) (by omega) (hS j hj), ite_not]
  cases hasB s B j <;> rfl
theorem q_known (H : CQ h X n w a pa s) (hI : Inv s n w a c hr) {B : Int32} (hS : SE h X n s B) {q : Nat} (hq : q < w) : f_X7_knows h (X + 4) (some (pw s pa q)) = some (h, b2i (knownB s w B q)) := by
  have hn := hI.1.2.1
  have k1 := H.1.2.2.2.2.2.2.2.1.1
  unfold f_X7_knows
  rw [c_line (F := fun k z => f_X7_knows_b2 k h (X + 4) z) (P := fun x => !hasB s B (sN s 13 x)) true false hI hq (fun k => rfl) (fun k x hx => by
    show f_X7_knows_c2 (f_X7_knows_b2 k) h (X + 4) (some (pw s pa x)) = _
    unfold f_X7_knows_c2
    obtain ⟨h1, -, -⟩ := pw_at hI hx
    rw [if_neg (by simp), rd_I (a := pw s pa x) [16] (by rw [pw_K H hI hx]; decide) (H.2.2.2.2.1 _ h1).1, rd_r [15] (by rw [k1]; decide), do_eq (q_sees H hS h1 hn), ite_not, rd_P [16] (by rw [pw_K H hI hx]; decide) (H.2.2.2.2.2.1 x hx).2.1]
    cases hasB s B (sN s 13 x) <;> rfl)]
  unfold knownB
  cases lineB s w (fun x => !hasB s B (sN s 13 x)) q <;> rfl
end CC
