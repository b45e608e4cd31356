/-! ===== an hour passes: the state; the reference ===== -/
/-- whether a piece comes to a kiosk in the next hour -/
def frB (s : Nat → Nat → Int32) (j k : Nat) : Bool := decide (s 10 (160 * k + j) = -1) && anyB (fun f => !decide (s 10 (160 * f + j) = -1) && gb (s 2 f) k) 6
/-- the first i pieces have gone on in the hour t -/
def ptS (s : Nat → Nat → Int32) (t i : Nat) : Nat → Nat → Int32 := fun x y => if x = 10 ∧ y < 960 ∧ y % 160 < i ∧ frB s (y % 160) (y / 160) = true then Int32.ofNat t else s x y
/-- the first k steps of a piece's going on -/
def frK (s : Nat → Nat → Int32) (j k to : Nat) : Bool := decide (s 10 (160 * to + j) = -1) && anyB (fun f => decide (6 * f + to < k) && (!decide (s 10 (160 * f + j) = -1) && gb (s 2 f) to)) 6
def goS (s : Nat → Nat → Int32) (t j k : Nat) : Nat → Nat → Int32 := fun x y => if x = 10 ∧ y < 960 ∧ y % 160 = j ∧ frK s j k (y / 160) = true then Int32.ofNat t else s x y
section PT
variable {h : nk_H} {M n w a c hr : Nat} {s : Nat → Nat → Int32}
theorem ptS_O (s : Nat → Nat → Int32) (t i : Nat) {x : Nat} (hx : x ≠ 10) : ptS s t i x = s x := by
  funext y
  unfold ptS
  rw [if_neg (fun e => hx e.1)]
theorem ptS_at (s : Nat → Nat → Int32) (t i : Nat) {k j : Nat} (hk : k < 6) (hj : j < 160) : ptS s t i 10 (160 * k + j) = if j < i ∧ frB s j k = true then Int32.ofNat t else s 10 (160 * k + j) := by
  have e1 : (160 * k + j) % 160 = j := by omega
  have e2 : (160 * k + j) / 160 = k := by omega
  have e3 : 160 * k + j < 960 := by omega
  unfold ptS
  rw [e1, e2]
  by_cases z : j < i ∧ frB s j k = true
  · rw [if_pos z, if_pos ⟨rfl, e3, z⟩]
  · rw [if_neg z, if_neg (fun e => z e.2.2)]
theorem ptS_0 (s : Nat → Nat → Int32) (t : Nat) : ptS s t 0 = s := by
  funext x y
  unfold ptS
  rw [if_neg (by omega)]
theorem goS_O (s : Nat → Nat → Int32) (t j k : Nat) {x : Nat} (hx : x ≠ 10) : goS s t j k x = s x := by
  funext y
  unfold goS
  rw [if_neg (fun e => hx e.1)]
theorem goS_at (s : Nat → Nat → Int32) (t k : Nat) {to j : Nat} (hk : to < 6) (hj : j < 160) : goS s t j k 10 (160 * to + j) = if frK s j k to = true then Int32.ofNat t else s 10 (160 * to + j) := by
  have e1 : (160 * to + j) % 160 = j := by omega
  have e2 : (160 * to + j) / 160 = to := by omega
  have e3 : 160 * to + j < 960 := by omega
  unfold goS
  rw [e2]
  by_cases z : frK s j k to = true
  · rw [if_pos z, if_pos ⟨rfl, e3, e1, z⟩]
  · rw [if_neg z, if_neg (fun e => z e.2.2.2)]
theorem frK_0 (s : Nat → Nat → Int32) (j to : Nat) : frK s j 0 to = false := by
  unfold frK
  have : anyB (fun f => decide (6 * f + to < 0) && (!decide (s 10 (160 * f + j) = -1) && gb (s 2 f) to)) 6 = false := anyB_false.mpr (fun f _ => by rw [decide_eq_false (by omega)]; rfl)
  rw [this, Bool.and_false]
theorem frK_36 (s : Nat → Nat → Int32) (j : Nat) {to : Nat} (ht : to < 6) : frK s j 36 to = frB s j to := by
  unfold frK frB
  congr 1
  exact anyB_congr (fun f hf => by rw [decide_eq_true (by omega), Bool.true_and])
theorem frK_s (s : Nat → Nat → Int32) (j : Nat) {k to : Nat} (hk : k < 36) (ht : to < 6) : frK s j (k + 1) to = (frK s j k to || (decide (to = k % 6) && (decide (s 10 (160 * to + j) = -1) && (!decide (s 10 (160 * (k / 6) + j) = -1) && gb (s 2 (k / 6)) to)))) := by
  have key : ∀ P : Nat → Bool, anyB (fun f => decide (6 * f + to < k + 1) && P f) 6 = (anyB (fun f => decide (6 * f + to < k) && P f) 6 || (decide (to = k % 6) && P (k / 6))) := fun P => by
    rw [Bool.eq_iff_iff, Bool.or_eq_true, anyB_true, anyB_true, Bool.and_eq_true, decide_eq_true_eq]
    constructor
    · rintro ⟨f, hf, hp⟩
      rw [Bool.and_eq_true, decide_eq_true_eq] at hp
      by_cases z : 6 * f + to < k
      · exact Or.inl ⟨f, hf, by rw [Bool.and_eq_true, decide_eq_true_eq]; exact ⟨z, hp.2⟩⟩
      · have e1 : k / 6 = f := by omega
        exact Or.inr ⟨by omega, by rw [e1]; exact hp.2⟩
    · rintro (⟨f, hf, hp⟩ | ⟨e1, hp⟩)
      · rw [Bool.and_eq_true, decide_eq_true_eq] at hp
        exact ⟨f, hf, by rw [Bool.and_eq_true, decide_eq_true_eq]; exact ⟨by omega, hp.2⟩⟩
      · exact ⟨k / 6, by omega, by rw [Bool.and_eq_true, decide_eq_true_eq]; exact ⟨by omega, hp⟩⟩
  unfold frK
  rw [key]
  cases decide (s 10 (160 * to + j) = -1) <;> cases anyB (fun f => decide (6 * f + to < k) && (!decide (s 10 (160 * f + j) = -1) && gb (s 2 f) to)) 6 <;> cases decide (to = k % 6) <;> rfl
theorem cnt_congr {f g : Nat → Bool} (e : ∀ k, k < 6 → f k = g k) : cnt f = cnt g := by
  unfold cnt
  rw [e 0 (by decide), e 1 (by decide), e 2 (by decide), e 3 (by decide), e 4 (by decide), e 5 (by decide)]
theorem cnt_s {f g : Nat → Bool} {t : Nat} (ht : t < 6) (e : ∀ k, k < 6 → k ≠ t → g k = f k) (h1 : f t = false) (h2 : g t = true) : cnt g = cnt f + 1 := by
  have key : ∀ x : Int32, b2i true + x = (b2i false + x) + 1 := fun x => by
    show 1 + x = 0 + x + 1
    rw [Int32.zero_add, Int32.add_comm]
  have b1 : b2i true = b2i false + 1 := by decide
  have ar : ∀ x y : Int32, x + (b2i false + 1) + y = (x + b2i false + y) + 1 := fun x y => by
    rw [← Int32.add_assoc, Int32.add_assoc (x + b2i false) 1 y, Int32.add_comm 1 y, ← Int32.add_assoc]
  unfold cnt
  have ht' : t = 0 ∨ t = 1 ∨ t = 2 ∨ t = 3 ∨ t = 4 ∨ t = 5 := by omega
  rcases ht' with rfl | rfl | rfl | rfl | rfl | rfl
  · rw [h1, h2, e 1 (by decide) (by decide), e 2 (by decide) (by decide), e 3 (by decide) (by decide), e 4 (by decide) (by decide), e 5 (by decide) (by decide)]
    generalize b2i (f 1) = x1; generalize b2i (f 2) = x2; generalize b2i (f 3) = x3; generalize b2i (f 4) = x4; generalize b2i (f 5) = x5
    rw [b1]; ac_rfl
  · rw [h1, h2, e 0 (by decide) (by decide), e 2 (by decide) (by decide), e 3 (by decide) (by decide), e 4 (by decide) (by decide), e 5 (by decide) (by decide), b1]; ac_rfl
  · rw [h1, h2, e 0 (by decide) (by decide), e 1 (by decide) (by decide), e 3 (by decide) (by decide), e 4 (by decide) (by decide), e 5 (by decide) (by decide), b1]; ac_rfl
  · rw [h1, h2, e 0 (by decide) (by decide), e 1 (by decide) (by decide), e 2 (by decide) (by decide), e 4 (by decide) (by decide), e 5 (by decide) (by decide), b1]; ac_rfl
  · rw [h1, h2, e 0 (by decide) (by decide), e 1 (by decide) (by decide), e 2 (by decide) (by decide), e 3 (by decide) (by decide), e 5 (by decide) (by decide), b1]; ac_rfl
  · rw [h1, h2, e 0 (by decide) (by decide), e 1 (by decide) (by decide), e 2 (by decide) (by decide), e 3 (by decide) (by decide), e 4 (by decide) (by decide), b1]; ac_rfl
theorem dv6 : ∀ k, k < 36 → Int32.ofNat k / 6 = Int32.ofNat (k / 6) ∧ Int32.ofNat k - Int32.ofNat (k / 6) * 6 = Int32.ofNat (k % 6) := by decide +kernel
/-- a piece goes on, to the reference -/
theorem m_goesOn (hh : hr < 400) {j : Nat} (hj : j < 160) (e1 : s 1 0 = Int32.ofNat (hr + 1)) (hc : ∀ f, f < 6 → s 10 (160 * f + j) = -1 ∨ ∃ t, t ≤ hr ∧ s 10 (160 * f + j) = Int32.ofNat t) (H : St h M s) : Ok h M (goS s (hr + 1) j 36) (cnt (frB s j)) (f_X12_goesOn h M (Int32.ofNat j)) := by
  have key : ∀ kf k h, k ≤ 36 → 36 - k < kf → St h M (goS s (hr + 1) j k) → Ok h M (goS s (hr + 1) j 36) (cnt (frK s j 36)) (f_X12_goesOn_b4 kf h M (Int32.ofNat j) (cnt (frK s j k)) (Int32.ofNat k)) := by
    intro kf
    induction kf with
    | zero => intro k h _ h9; omega
    | succ kf ih =>
      intro k h hk hf H
      show Ok h M _ _ (f_X12_goesOn_c4 (f_X12_goesOn_b4 kf) h M (Int32.ofNat j) (cnt (frK s j k)) (Int32.ofNat k))
      unfold f_X12_goesOn_c4 f_X12_goesOn_c59 f_X12_goesOn_c111
      by_cases h1 : 36 ≤ k
      · have : k = 36 := by omega
        subst this
        rw [if_pos (by decide)]
        exact Ok.here H
      · have hk' : k < 36 := by omega
        obtain ⟨d1, d2⟩ := dv6 k hk'
        have f6 : k / 6 < 6 := by omega
        have t6 : k % 6 < 6 := by omega
        have same : frK s j (k + 1) (k % 6) = frK s j k (k % 6) → ((∀ to, to < 6 → frK s j (k + 1) to = frK s j k to) ∧ goS s (hr + 1) j (k + 1) = goS s (hr + 1) j k) := fun e => by
          have e9 : ∀ to, to < 6 → frK s j (k + 1) to = frK s j k to := fun to ht => by
            by_cases z : to = k % 6
            · rw [z]; exact e
            · rw [frK_s s j hk' ht, decide_eq_false z, Bool.false_and, Bool.or_false]
          refine ⟨e9, ?_⟩
          funext x y
          unfold goS
          by_cases z : x = 10 ∧ y < 960 ∧ y % 160 = j
          · rw [e9 (y / 160) (by omega)]
          · rw [if_neg (fun q => z ⟨q.1, q.2.1, q.2.2.1⟩), if_neg (fun q => z ⟨q.1, q.2.1, q.2.2.1⟩)]
        have go : frK s j (k + 1) (k % 6) = frK s j k (k % 6) → ∀ h, St h M (goS s (hr + 1) j k) → Ok h M (goS s (hr + 1) j 36) (cnt (frK s j 36)) (f_X12_goesOn_b4 kf h M (Int32.ofNat j) (cnt (frK s j k)) (Int32.ofNat (k + 1))) := fun e h H => by
          obtain ⟨q1, q2⟩ := same e
          rw [← cnt_congr q1]
          exact ih (k + 1) h (by omega) (by omega) (by rw [q2]; exact H)
        have st := frK_s s j hk' t6
        rw [decide_eq_true rfl, Bool.true_and] at st
        rw [if_neg (fun e : (36 : Int32) ≤ Int32.ofNat k => h1 ((ia_le (a := 36) (by omega) (by omega)).mp e)), w_gP H 2, d1, d2, w_aI H 2 (by show k / 6 < 6; omega), goS_O _ _ _ _ (by decide), ia_160, ia_160, ia_1]
        by_cases z1 : gb (s 2 (k / 6)) (k % 6) = true
        · rw [if_pos ((gb_mod1 _ t6).mpr z1), if_neg (by decide), w_gP H 10, w_aI H 10 (by show 160 * (k % 6) + j < 960; omega), goS_at s (hr + 1) k t6 hj]
          by_cases z2 : frK s j k (k % 6) = true
          · rw [if_pos z2, if_neg (ia_m1 (by omega))]
            exact go (by rw [st, z2]; rfl) h H
          · have z2' : frK s j k (k % 6) = false := by simpa using z2
            rw [if_neg z2]
            by_cases z3 : s 10 (160 * (k % 6) + j) = -1
            · rw [if_pos z3, w_gP H 10, w_aI H 10 (by show 160 * (k / 6) + j < 960; omega), goS_at s (hr + 1) k f6 hj, w_gIv H 1 (v := Int32.ofNat (hr + 1)) (by rw [goS_O _ _ _ _ (by decide)]; exact e1), ia_s1, do_eq (m_in h _ 0 (Int32.ofNat hr))]
              by_cases z4 : s 10 (160 * (k / 6) + j) = -1
              · have nin : (decide ((0 : Int32) ≤ (if frK s j k (k / 6) = true then Int32.ofNat (hr + 1) else s 10 (160 * (k / 6) + j))) && decide ((if frK s j k (k / 6) = true then Int32.ofNat (hr + 1) else s 10 (160 * (k / 6) + j)) ≤ Int32.ofNat hr)) = false := by
                  by_cases z5 : frK s j k (k / 6) = true
                  · rw [if_pos z5, decide_eq_false (fun e : Int32.ofNat (hr + 1) ≤ Int32.ofNat hr => by have := (ia_le (a := hr + 1) (b := hr) (by omega) (by omega)).mp e; omega), Bool.and_false]
                  · rw [if_neg z5, z4]; rfl
                rw [nin, b2i_false, if_pos rfl]
                exact go (by rw [st, decide_eq_true z4]; simp) h H
              · have nf : ¬ frK s j k (k / 6) = true := fun e => by
                  unfold frK at e
                  rw [Bool.and_eq_true, decide_eq_true_eq] at e
                  exact z4 e.1
                obtain ⟨tt, ht, et⟩ : ∃ t, t ≤ hr ∧ s 10 (160 * (k / 6) + j) = Int32.ofNat t := by
                  rcases hc (k / 6) f6 with e | e
                  · exact absurd e z4
                  · exact e
                have yin : (decide ((0 : Int32) ≤ (if frK s j k (k / 6) = true then Int32.ofNat (hr + 1) else s 10 (160 * (k / 6) + j))) && decide ((if frK s j k (k / 6) = true then Int32.ofNat (hr + 1) else s 10 (160 * (k / 6) + j)) ≤ Int32.ofNat hr)) = true := by
                  rw [if_neg nf, et, decide_eq_true (ia_0le (by omega)), decide_eq_true ((ia_le (by omega) (by omega)).mpr ht)]; rfl
                rw [yin, b2i_true, if_neg (by decide), w_gP H 10, w_gIv H 1 (v := Int32.ofNat (hr + 1)) (by rw [goS_O _ _ _ _ (by decide)]; exact e1)]
                have new : frK s j (k + 1) (k % 6) = true := by
                  rw [st, decide_eq_true z3, decide_eq_false z4, z1]; simp
                have oth : ∀ to, to < 6 → to ≠ k % 6 → frK s j (k + 1) to = frK s j k to := fun to ht z => by
                  rw [frK_s s j hk' ht, decide_eq_false z, Bool.false_and, Bool.or_false]
                refine w_wI H 10 _ (by show 160 * (k % 6) + j < 960; omega) (fun h2 H2 => ?_)
                rw [← cnt_s t6 oth z2' new]
                refine ih (k + 1) h2 (by omega) (by omega) ?_
                have es : nk_u2 (goS s (hr + 1) j k) 10 (160 * (k % 6) + j) (Int32.ofNat (hr + 1)) = goS s (hr + 1) j (k + 1) := by
                  funext x y
                  show (if x = 10 ∧ y = 160 * (k % 6) + j then Int32.ofNat (hr + 1) else goS s (hr + 1) j k x y) = goS s (hr + 1) j (k + 1) x y
                  by_cases z : x = 10 ∧ y = 160 * (k % 6) + j
                  · obtain ⟨rfl, rfl⟩ := z
                    rw [if_pos ⟨rfl, rfl⟩, goS_at s (hr + 1) (k + 1) t6 hj, if_pos new]
                  · rw [if_neg z]
                    unfold goS
                    by_cases y1 : x = 10 ∧ y < 960 ∧ y % 160 = j
                    · rw [oth (y / 160) (by omega) (fun q => z ⟨y1.1, by omega⟩)]
                    · rw [if_neg (fun q => y1 ⟨q.1, q.2.1, q.2.2.1⟩), if_neg (fun q => y1 ⟨q.1, q.2.1, q.2.2.1⟩)]
                rw [← es]; exact H2
            · rw [if_neg z3]
              exact go (by rw [st, decide_eq_false z3]; simp) h H
        · rw [if_neg (fun e => z1 ((gb_mod1 _ t6).mp e)), if_pos rfl]
          have z1' : gb (s 2 (k / 6)) (k % 6) = false := by simpa using z1
          exact go (by rw [st, z1']; simp) h H
  have e0 : goS s (hr + 1) j 0 = s := by
    funext x y
    unfold goS
    rw [frK_0]
    simp
  have c0 : cnt (frK s j 0) = 0 := by
    unfold cnt
    simp only [frK_0]
    decide
  have := key 4096 0 h (by omega) (by omega) (by rw [e0]; exact H)
  rw [c0, cnt_congr (fun to ht => frK_36 s j ht)] at this
  exact this
end PT
