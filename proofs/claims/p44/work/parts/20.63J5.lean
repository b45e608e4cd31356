/-! ===== an act: the state ===== -/
def uA6 (s : Nat → Nat → Int32) (a : Nat) (pe po am : Int32) : Nat → Nat → Int32 :=
  nk_u2 (nk_u2 (nk_u2 (nk_u2 (nk_u2 (nk_u2 (nk_u2 s 33 (6 * a) pe) 33 (6 * a + 1) po) 33 (6 * a + 2) (s 28 0)) 33 (6 * a + 3) am) 33 (6 * a + 4) (s 27 0)) 33 (6 * a + 5) (s 1 0)) 34 a am
def uA1 (s : Nat → Nat → Int32) (n a k r : Nat) (pe po am : Int32) : Nat → Nat → Int32 := nk_u2 (nk_u2 (uMk (uA6 s a pe po am) n k 3 (Int32.ofNat a)) 32 a (Int32.ofNat n)) 31 (160 * k + r) (Int32.ofNat a)
def uAf (s : Nat → Nat → Int32) (n a k r : Nat) (pe po am v5 v6 : Int32) : Nat → Nat → Int32 := nk_u2 (nk_u2 (nk_u2 (nk_u2 (uA1 s n a k r pe po am) 35 a v5) 36 a v6) 29 0 (Int32.ofNat (a + 1))) 30 k (Int32.ofNat (r + 1))
section AC
variable {h : nk_H} {M n w a c hr : Nat} {s s' : Nat → Nat → Int32} {k r : Nat} {pe po am v5 v6 : Int32}
theorem uA6_O (s : Nat → Nat → Int32) (a : Nat) (pe po am : Int32) {x : Nat} (h1 : x ≠ 33) (h2 : x ≠ 34) : uA6 s a pe po am x = s x := by
  funext y
  unfold uA6
  rw [u2_k _ _ _ _ _ h2, u2_k _ _ _ _ _ h1, u2_k _ _ _ _ _ h1, u2_k _ _ _ _ _ h1, u2_k _ _ _ _ _ h1, u2_k _ _ _ _ _ h1, u2_k _ _ _ _ _ h1]
theorem uA6_e (e : eq0 s s') (a : Nat) (pe po am : Int32) : eq0 (uA6 s a pe po am) (uA6 s' a pe po am) := by
  unfold uA6
  rw [e 28 0 (by decide), e 27 0 (by decide), e 1 0 (by decide)]
  exact eq0_u2 (eq0_u2 (eq0_u2 (eq0_u2 (eq0_u2 (eq0_u2 (eq0_u2 e _ _ _) _ _ _) _ _ _) _ _ _) _ _ _) _ _ _) _ _ _
theorem uA1_e (e : eq0 s s') (n a k r : Nat) (pe po am : Int32) : eq0 (uA1 s n a k r pe po am) (uA1 s' n a k r pe po am) := by
  unfold uA1
  exact eq0_u2 (eq0_u2 (uMk_0 (uA6_e e _ _ _ _) _ _ _ _) _ _ _) _ _ _
theorem uAf_e (e : eq0 s s') (n a k r : Nat) (pe po am v5 v6 : Int32) : eq0 (uAf s n a k r pe po am v5 v6) (uAf s' n a k r pe po am v5 v6) := by
  unfold uAf
  exact eq0_u2 (eq0_u2 (eq0_u2 (eq0_u2 (uA1_e e _ _ _ _ _ _ _) _ _ _) _ _ _) _ _ _) _ _ _
theorem uA1_O (s : Nat → Nat → Int32) (n a k r : Nat) (pe po am : Int32) {x : Nat} (hx : x < 3 ∨ (12 ≤ x ∧ x < 31) ∨ x = 8 ∨ x = 9 ∨ 34 < x) : uA1 s n a k r pe po am x = s x := by
  funext y
  unfold uA1
  rw [u2_k _ _ _ _ _ (by omega), u2_k _ _ _ _ _ (by omega), uMk_O _ _ _ _ _ (by omega), uA6_O _ _ _ _ _ (by omega) (by omega)]
theorem uAf_1 (s : Nat → Nat → Int32) (n a k r : Nat) (pe po am v5 v6 : Int32) {x : Nat} (h1 : x ≠ 29) (h2 : x ≠ 30) (h3 : x ≠ 35) (h4 : x ≠ 36) : uAf s n a k r pe po am v5 v6 x = uA1 s n a k r pe po am x := by
  funext y
  unfold uAf
  rw [u2_k _ _ _ _ _ h2, u2_k _ _ _ _ _ h1, u2_k _ _ _ _ _ h4, u2_k _ _ _ _ _ h3]
theorem uAf_O (s : Nat → Nat → Int32) (n a k r : Nat) (pe po am v5 v6 : Int32) {x : Nat} (hx : x < 3 ∨ (12 ≤ x ∧ x < 29) ∨ x = 8 ∨ x = 9 ∨ 36 < x) : uAf s n a k r pe po am v5 v6 x = s x := by
  rw [uAf_1 _ _ _ _ _ _ _ _ _ _ (by omega) (by omega) (by omega) (by omega), uA1_O _ _ _ _ _ _ _ _ (by omega)]
/-- the low fields are a piece's -/
theorem uA1_p (s : Nat → Nat → Int32) (n a k r : Nat) (pe po am : Int32) {x : Nat} (hx : x < 12) (y : Nat) : uA1 s n a k r pe po am x y = uMk s n k 3 (Int32.ofNat a) x y := by
  unfold uA1
  rw [u2_k _ _ _ _ _ (by omega), u2_k _ _ _ _ _ (by omega)]
  have e1 : uA6 s a pe po am 1 0 = s 1 0 := by rw [uA6_O _ _ _ _ _ (by decide) (by decide)]
  unfold uMk
  rw [e1]
  simp only [nk_u2]
  rw [uA6_O _ _ _ _ _ (show x ≠ 33 by omega) (by omega)]
theorem uAf_p (s : Nat → Nat → Int32) (n a k r : Nat) (pe po am v5 v6 : Int32) {x : Nat} (hx : x < 12) (y : Nat) : uAf s n a k r pe po am v5 v6 x y = uMk s n k 3 (Int32.ofNat a) x y := by
  rw [uAf_1 _ _ _ _ _ _ _ _ _ _ (by omega) (by omega) (by omega) (by omega), uA1_p _ _ _ _ _ _ _ _ hx]
theorem uA1_33 (s : Nat → Nat → Int32) (n a k r : Nat) (pe po am : Int32) (y : Nat) : uA1 s n a k r pe po am 33 y = if y = 6 * a + 5 then s 1 0 else if y = 6 * a + 4 then s 27 0 else if y = 6 * a + 3 then am else if y = 6 * a + 2 then s 28 0 else if y = 6 * a + 1 then po else if y = 6 * a then pe else s 33 y := by
  unfold uA1
  rw [u2_k _ _ _ _ _ (by decide), u2_k _ _ _ _ _ (by decide), uMk_O _ _ _ _ _ (by decide)]
  simp [uA6, nk_u2]
theorem uA1_34 (s : Nat → Nat → Int32) (n a k r : Nat) (pe po am : Int32) (y : Nat) : uA1 s n a k r pe po am 34 y = if y = a then am else s 34 y := by
  unfold uA1
  rw [u2_k _ _ _ _ _ (by decide), u2_k _ _ _ _ _ (by decide), uMk_O _ _ _ _ _ (by decide)]
  simp [uA6, nk_u2]
theorem uA1_32 (s : Nat → Nat → Int32) (n a k r : Nat) (pe po am : Int32) (y : Nat) : uA1 s n a k r pe po am 32 y = if y = a then Int32.ofNat n else s 32 y := by
  unfold uA1
  rw [u2_k _ _ _ _ _ (by decide)]
  show (if 32 = 32 ∧ y = a then _ else uMk (uA6 s a pe po am) n k 3 (Int32.ofNat a) 32 y) = _
  rw [uMk_O _ _ _ _ _ (by decide), uA6_O _ _ _ _ _ (by decide) (by decide)]
  by_cases z : y = a <;> simp [z]
theorem uA1_31 (s : Nat → Nat → Int32) (n a k r : Nat) (pe po am : Int32) (y : Nat) : uA1 s n a k r pe po am 31 y = if y = 160 * k + r then Int32.ofNat a else s 31 y := by
  unfold uA1
  show (if 31 = 31 ∧ y = 160 * k + r then _ else nk_u2 (uMk (uA6 s a pe po am) n k 3 (Int32.ofNat a)) 32 a (Int32.ofNat n) 31 y) = _
  rw [u2_k _ _ _ _ _ (by decide), uMk_O _ _ _ _ _ (by decide), uA6_O _ _ _ _ _ (by decide) (by decide)]
  by_cases z : y = 160 * k + r <;> simp [z]
theorem uAf_35 (s : Nat → Nat → Int32) (n a k r : Nat) (pe po am v5 v6 : Int32) (y : Nat) : uAf s n a k r pe po am v5 v6 35 y = (if y = a then v5 else s 35 y) ∧ uAf s n a k r pe po am v5 v6 36 y = (if y = a then v6 else s 36 y) ∧ uAf s n a k r pe po am v5 v6 29 0 = Int32.ofNat (a + 1) ∧ uAf s n a k r pe po am v5 v6 30 y = (if y = k then Int32.ofNat (r + 1) else s 30 y) := by
  unfold uAf
  refine ⟨?_, ?_, ?_, ?_⟩
  · rw [u2_k _ _ _ _ _ (by decide), u2_k _ _ _ _ _ (by decide), u2_k _ _ _ _ _ (by decide)]
    show (if 35 = 35 ∧ y = a then _ else uA1 s n a k r pe po am 35 y) = _
    rw [uA1_O _ _ _ _ _ _ _ _ (by decide)]
    by_cases z : y = a <;> simp [z]
  · rw [u2_k _ _ _ _ _ (by decide), u2_k _ _ _ _ _ (by decide)]
    show (if 36 = 36 ∧ y = a then _ else nk_u2 (uA1 s n a k r pe po am) 35 a v5 36 y) = _
    rw [u2_k _ _ _ _ _ (by decide), uA1_O _ _ _ _ _ _ _ _ (by decide)]
    by_cases z : y = a <;> simp [z]
  · rw [u2_k _ _ _ _ _ (by decide), u2_eq]
  · show (if 30 = 30 ∧ y = k then _ else nk_u2 (nk_u2 (nk_u2 (uA1 s n a k r pe po am) 35 a v5) 36 a v6) 29 0 (Int32.ofNat (a + 1)) 30 y) = _
    rw [u2_k _ _ _ _ _ (by decide), u2_k _ _ _ _ _ (by decide), u2_k _ _ _ _ _ (by decide), uA1_O _ _ _ _ _ _ _ _ (by decide)]
    by_cases z : y = k <;> simp [z]
theorem uAf_F (hI : Inv s n w a c hr) (hn : n < 160) (hk : k < 6) : MkF s (uAf s n a k r pe po am v5 v6) n k (Int32.ofNat hr) := by
  obtain ⟨f1, f2, f3, f4, f5, f6⟩ := uMk_F hI hn hk 3 (Int32.ofNat a)
  have e : ∀ x y, x < 12 → uAf s n a k r pe po am v5 v6 x y = uMk s n k 3 (Int32.ofNat a) x y := fun x y hx => uAf_p _ _ _ _ _ _ _ _ _ _ hx y
  exact ⟨by rw [e _ _ (by decide)]; exact f1, by rw [e _ _ (by decide)]; exact f2, fun k' hk' => by rw [e _ _ (by decide)]; exact f3 k' hk', fun k' hk' => by rw [e _ _ (by decide)]; exact f4 k' hk', fun j hj hj2 k' hk' => by rw [e _ _ (by decide), e _ _ (by decide)]; exact f5 j hj hj2 k' hk', fun j hj x x1 x2 => by rw [e _ _ (by omega)]; exact f6 j hj x x1 x2⟩
theorem sumB_upd {f g : Nat → Int32} {k : Nat} {v : Int32} (e : ∀ j, j ≠ k → g j = f j) (ek : g k = f k + v) : ∀ N, sumB g N = if k < N then sumB f N + v else sumB f N := by
  intro N
  induction N with
  | zero => rfl
  | succ N ih =>
    simp only [sumB]
    rw [ih]
    by_cases z : k = N
    · subst z
      rw [if_neg (by omega), if_pos (by omega), ek, Int32.add_assoc]
    · rw [e N (fun q => z q.symm)]
      by_cases z2 : k < N
      · rw [if_pos z2, if_pos (by omega), Int32.add_assoc, Int32.add_assoc, Int32.add_comm v]
      · rw [if_neg z2, if_neg (by omega)]
theorem uAf_A (s : Nat → Nat → Int32) (n : Nat) {a x : Nat} (k r : Nat) (pe po am v5 v6 : Int32) (hx : x < a) : eqA s (uAf s n a k r pe po am v5 v6) x := by
  obtain ⟨q5, q6, -⟩ := uAf_35 s n a k r pe po am v5 v6 x
  refine ⟨?_, ?_, by rw [q5, if_neg (by omega)], by rw [q6, if_neg (by omega)], fun i hi => ?_⟩
  · rw [uAf_1 _ _ _ _ _ _ _ _ _ _ (by decide) (by decide) (by decide) (by decide), uA1_32, if_neg (by omega)]
  · rw [uAf_1 _ _ _ _ _ _ _ _ _ _ (by decide) (by decide) (by decide) (by decide), uA1_34, if_neg (by omega)]
  · rw [uAf_1 _ _ _ _ _ _ _ _ _ _ (by decide) (by decide) (by decide) (by decide), uA1_33, if_neg (by omega), if_neg (by omega), if_neg (by omega), if_neg (by omega), if_neg (by omega), if_neg (by omega)]
theorem uAf_I (hI : Inv s n w a c hr) (hn : n < 160) (hk : k < 6) (hr9 : r = sN s 30 k) {q : Nat} (hq : q < w) (epo : po = Int32.ofNat q) {st : Bool} (ev6 : v6 = b2i st) : Inv (uAf s n a k r pe po am v5 v6) (n + 1) w (a + 1) c hr := by
  have ha := hI.1.2.2.2.2.2.2.1
  have hw := hI.1.2.2.2.1
  obtain ⟨x0, ex0, hx0, hact0⟩ := hI.2.2.2.2.2.1.1 k hk
  have hra : r ≤ a := by rw [hr9, sN_of ex0 (by omega)]; exact hx0
  have l1 : ∀ x y, x ≠ 29 → x ≠ 30 → x ≠ 35 → x ≠ 36 → uAf s n a k r pe po am v5 v6 x y = uA1 s n a k r pe po am x y := fun x y h1 h2 h3 h4 => by rw [uAf_1 _ _ _ _ _ _ _ _ _ _ h1 h2 h3 h4]
  have s31 : ∀ y, uAf s n a k r pe po am v5 v6 31 y = if y = 160 * k + r then Int32.ofNat a else s 31 y := fun y => by rw [l1 _ _ (by decide) (by decide) (by decide) (by decide), uA1_31]
  have s32 : uAf s n a k r pe po am v5 v6 32 a = Int32.ofNat n := by rw [l1 _ _ (by decide) (by decide) (by decide) (by decide), uA1_32, if_pos rfl]
  have s33 : ∀ y, uAf s n a k r pe po am v5 v6 33 y = _ := fun y => (l1 33 y (by decide) (by decide) (by decide) (by decide)).trans (uA1_33 s n a k r pe po am y)
  have s30 : ∀ y, uAf s n a k r pe po am v5 v6 30 y = (if y = k then Int32.ofNat (r + 1) else s 30 y) := fun y => (uAf_35 s n a k r pe po am v5 v6 y).2.2.2
  have s36 : ∀ y, uAf s n a k r pe po am v5 v6 36 y = (if y = a then v6 else s 36 y) := fun y => (uAf_35 s n a k r pe po am v5 v6 y).2.1
  have s29 := (uAf_35 s n a k r pe po am v5 v6 0).2.2.1
  have s4 : uAf s n a k r pe po am v5 v6 4 n = 3 := by rw [uAf_p _ _ _ _ _ _ _ _ _ _ (by decide)]; exact uMk_4 _ _ _ _ _
  have s7 : uAf s n a k r pe po am v5 v6 7 n = Int32.ofNat a := by rw [uAf_p _ _ _ _ _ _ _ _ _ _ (by decide)]; exact uMk_7 _ _ _ _ _
  have s3 : uAf s n a k r pe po am v5 v6 3 0 = Int32.ofNat (n + 1) := by rw [uAf_p _ _ _ _ _ _ _ _ _ _ (by decide)]; exact uMk_3 _ _ _ _ _
  have eO : ∀ x, (x < 3 ∨ (12 ≤ x ∧ x < 29) ∨ x = 8 ∨ x = 9 ∨ 36 < x) → uAf s n a k r pe po am v5 v6 x = s x := fun x hx => uAf_O s n a k r pe po am v5 v6 hx
  have F : MkF s (uAf s n a k r pe po am v5 v6) n k (Int32.ofNat hr) := uAf_F hI hn hk
  have eA : ∀ x, x < a → eqA s (uAf s n a k r pe po am v5 v6) x := fun x hx => uAf_A s n k r pe po am v5 v6 hx
  generalize uAf s n a k r pe po am v5 v6 = S at *
  have sN30 : ∀ y, sN S 30 y = if y = k then r + 1 else sN s 30 y := fun y => by
    unfold sN
    rw [s30]
    by_cases z : y = k
    · rw [if_pos z, if_pos z, ia_nn (by omega)]
    · rw [if_neg z, if_neg z]
  obtain ⟨i51, i52⟩ := hI.2.2.2.2.2.1
  have hb : ∀ y, y < 6 → sN s 30 y ≤ a := fun y hy => by
    obtain ⟨x, ex, hx, -⟩ := i51 y hy
    rw [sN_of ex (by omega)]; exact hx
  have k6 : k = 0 ∨ k = 1 ∨ k = 2 ∨ k = 3 ∨ k = 4 ∨ k = 5 := by omega
  refine hI.made hn hk F s3 (by rw [eO 12 (by decide)]; exact hI.1.2.2.1) (Nat.le_refl _) hw (by have := hI.1.2.2.2.2.1; omega) s29 (by omega) (by omega) (fun x hx => eO x (by omega)) (fun q hq x x1 x2 => by rw [eO x (by omega)]) eA (Or.inr (Or.inr (Or.inr ⟨s4, a, by omega, s7, s32⟩))) (fun q q1 q2 => by omega) (fun e e1 e2 => ?_) ⟨fun y hy => ?_, ?_⟩ ?_ ?_
  · have : e = a := by omega
    subst this
    obtain ⟨⟨ob, eob⟩, ⟨kd, hkd, ekd⟩, -⟩ := hI.2.2.2.2.2.2.2.1
    refine ⟨⟨n, by omega, s32, s4, s7⟩, ⟨q, hq, ?_⟩, ⟨kd, hkd, ?_⟩, ⟨ob, ?_⟩, ⟨st, by rw [s36, if_pos rfl]; exact ev6⟩⟩
    · rw [s33, if_neg (by omega), if_neg (by omega), if_neg (by omega), if_neg (by omega), if_pos rfl]; exact epo
    · rw [s33, if_neg (by omega), if_neg (by omega), if_neg (by omega), if_pos rfl]; exact ekd
    · rw [s33, if_neg (by omega), if_pos rfl]; exact eob
  · by_cases z : y = k
    · subst z
      refine ⟨r + 1, by rw [s30, if_pos rfl], by omega, fun i hi => ?_⟩
      by_cases z2 : i = r
      · exact ⟨a, by omega, by rw [s31, z2, if_pos rfl]⟩
      · have : x0 = r := by rw [hr9, sN_of ex0 (by omega)]
        obtain ⟨e, he, ee⟩ := hact0 i (by omega)
        exact ⟨e, by omega, by rw [s31, if_neg (by omega)]; exact ee⟩
    · obtain ⟨x, ex, hx, hact⟩ := i51 y hy
      refine ⟨x, by rw [s30, if_neg z]; exact ex, by omega, fun i hi => ?_⟩
      obtain ⟨e, he, ee⟩ := hact i hi
      exact ⟨e, by omega, by rw [s31, if_neg (by omega)]; exact ee⟩
  · rw [sN30, sN30, sN30, sN30, sN30, sN30]
    rcases k6 with rfl | rfl | rfl | rfl | rfl | rfl <;> simp only [if_pos, if_neg, reduceIte, show ¬ (0 = 1) by decide, show ¬ (0 = 2) by decide, show ¬ (0 = 3) by decide, show ¬ (0 = 4) by decide, show ¬ (0 = 5) by decide, show ¬ (1 = 0) by decide, show ¬ (1 = 2) by decide, show ¬ (1 = 3) by decide, show ¬ (1 = 4) by decide, show ¬ (1 = 5) by decide, show ¬ (2 = 0) by decide, show ¬ (2 = 1) by decide, show ¬ (2 = 3) by decide, show ¬ (2 = 4) by decide, show ¬ (2 = 5) by decide, show ¬ (3 = 0) by decide, show ¬ (3 = 1) by decide, show ¬ (3 = 2) by decide, show ¬ (3 = 4) by decide, show ¬ (3 = 5) by decide, show ¬ (4 = 0) by decide, show ¬ (4 = 1) by decide, show ¬ (4 = 2) by decide, show ¬ (4 = 3) by decide, show ¬ (4 = 5) by decide, show ¬ (5 = 0) by decide, show ¬ (5 = 1) by decide, show ¬ (5 = 2) by decide, show ¬ (5 = 3) by decide, show ¬ (5 = 4) by decide] <;> omega
  · intro e he
    obtain ⟨⟨k', f, z, q1, q2, q3, q4, q5, q6⟩, q7⟩ := hI.2.2.2.2.2.2.1 e he
    rw [eO 38 (by decide), eO 39 (by decide), eO 40 (by decide), eO 41 (by decide)]
    refine ⟨⟨k', f, z, q1, q2, q3, q4, q5, ?_⟩, q7⟩
    rw [sN30]
    by_cases y : k' = k
    · subst y; rw [if_pos rfl]; omega
    · rw [if_neg y]; exact q6
  · unfold I9
    have hin : ∀ y, y < 6 → ∀ i, i < sN s 30 y → sN S 31 (160 * y + i) = sN s 31 (160 * y + i) ∧ sN s 31 (160 * y + i) < a := fun y hy i hi => by
      have h1 := hb y hy
      refine ⟨?_, (ch_lt hI hy hi).1⟩
      unfold sN
      rw [s31, if_neg (fun e => ?_)]
      have : y = k := by omega
      subst this
      omega
    have old : ∀ y, y < 6 → sumB (fun i => S 36 (sN S 31 (160 * y + i))) (sN s 30 y) = sumB (fun i => s 36 (sN s 31 (160 * y + i))) (sN s 30 y) := fun y hy => sumB_congr (fun i hi => by
      obtain ⟨e1, e2⟩ := hin y hy i hi
      show S 36 (sN S 31 (160 * y + i)) = s 36 (sN s 31 (160 * y + i))
      rw [e1, s36, if_neg (by omega)])
    have new : sumB (fun i => S 36 (sN S 31 (160 * k + i))) (r + 1) = sumB (fun i => s 36 (sN s 31 (160 * k + i))) (sN s 30 k) + v6 := by
      simp only [sumB]
      have e1 : sN S 31 (160 * k + r) = a := by unfold sN; rw [s31, if_pos rfl, ia_nn (by omega)]
      rw [e1, s36, if_pos rfl, hr9, old k hk]
    have l := sumB_upd (f := fun y => if y < 6 then sumB (fun i => s 36 (sN s 31 (160 * y + i))) (sN s 30 y) else 0) (g := fun y => if y < 6 then sumB (fun i => S 36 (sN S 31 (160 * y + i))) (sN S 30 y) else 0) (k := k) (v := v6) (fun j hj => by
      show (if j < 6 then _ else _) = (if j < 6 then _ else _)
      by_cases z : j < 6
      · rw [if_pos z, if_pos z, sN30, if_neg hj, old j z]
      · rw [if_neg z, if_neg z]) (by
      show (if k < 6 then _ else _) = (if k < 6 then _ else _) + v6
      rw [if_pos hk, if_pos hk, sN30, if_pos rfl, new]) 6
    rw [if_pos hk] at l
    have c1 : sumB (fun y => sumB (fun i => S 36 (sN S 31 (160 * y + i))) (sN S 30 y)) 6 = sumB (fun y => if y < 6 then sumB (fun i => S 36 (sN S 31 (160 * y + i))) (sN S 30 y) else 0) 6 := sumB_congr (fun y hy => by show _ = (if y < 6 then _ else _); rw [if_pos hy])
    have c2 : sumB (fun y => sumB (fun i => s 36 (sN s 31 (160 * y + i))) (sN s 30 y)) 6 = sumB (fun y => if y < 6 then sumB (fun i => s 36 (sN s 31 (160 * y + i))) (sN s 30 y) else 0) 6 := sumB_congr (fun y hy => by show _ = (if y < 6 then _ else _); rw [if_pos hy])
    have c3 : sumB (fun e => S 36 e) (a + 1) = sumB (fun e => s 36 e) a + v6 := by
      simp only [sumB]
      rw [s36, if_pos rfl]
      congr 1
      exact sumB_congr (fun e he => by rw [s36, if_neg (by omega)])
    rw [c1, l, ← c2, hI.2.2.2.2.2.2.2.2.2, c3]
end AC
