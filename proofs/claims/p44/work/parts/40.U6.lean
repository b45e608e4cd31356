/-! ===== an act: what its state tells ===== -/
section U6
variable {m : Nat → Nat → Int32} {n w a c hr k r : Nat} {pe am v5 v6 : Int32} {q : Nat}
theorem hasB_k (s : Nat → Nat → Int32) {k j : Nat} (hk : k < 6) : hasB s (Int32.ofNat k) j = (s 11 (160 * k + j) == 1) := by
  unfold hasB
  rw [if_neg (ia_m1 (by omega)), if_neg (fun e => by have := (ia_le (a := 6) (by omega) (by omega)).mp e; omega), ia_nn (by omega)]
theorem lineB_P (I : Inv m n w a c hr) {P P' : Nat → Bool} (h : ∀ x, x < w → P x = P' x) (hq : q < w) : lineB m w P q = lineB m w P' q := chB_congr (srcw_lt I) h w (some q) (fun r e => by cases e; exact hq)
theorem line_at (I : Inv m n w a c hr) {P : Nat → Bool} (hq : q < w) (hp : P q = true) : lineB m w P q = true := by
  unfold lineB
  cases w with
  | zero => omega
  | succ w =>
    show (P q || _) = true
    rw [hp]; rfl
theorem line_src (I : Inv m n w a c hr) {P : Nat → Bool} (hq : q < w) {s : Nat} (es : src m q = some s) (hp : P s = true) : lineB m w P q = true := by
  have hs := (src_lt I hq es).1
  unfold lineB
  cases w with
  | zero => omega
  | succ w =>
    show (P q || chB (srcw m (w + 1)) P w (srcw m (w + 1) q)) = true
    have e1 : srcw m (w + 1) q = some s := by unfold srcw; rw [if_pos hq]; exact es
    rw [e1]
    cases w with
    | zero => omega
    | succ w =>
      show (P q || (P s || _)) = true
      rw [hp]; simp
theorem line_T (s : Nat → Nat → Int32) (n a k r : Nat) (pe po am v5 v6 : Int32) (w : Nat) : lineB (uAf s n a k r pe po am v5 v6) w = lineB s w := by
  funext P q
  have : srcw (uAf s n a k r pe po am v5 v6) w = srcw s w := by
    funext x
    unfold srcw src sN
    rw [uAf_O _ _ _ _ _ _ _ _ _ _ (by omega)]
  unfold lineB
  rw [this]
theorem has_old (I : Inv m n w a c hr) (hn : n < 160) (hk : k < 6) (po : Int32) {k' j : Nat} (hk' : k' < 6) (hj : j < n) : hasB (uAf m n a k r pe po am v5 v6) (Int32.ofNat k') j = hasB m (Int32.ofNat k') j := by
  obtain ⟨-, -, -, -, f5, -⟩ := uAf_F (r := r) (pe := pe) (po := po) (am := am) (v5 := v5) (v6 := v6) I hn hk
  rw [hasB_k _ hk', hasB_k _ hk', (f5 j (by omega) (by omega) k' hk').2]
theorem has_new (I : Inv m n w a c hr) (hn : n < 160) (hk : k < 6) (po : Int32) : hasB (uAf m n a k r pe po am v5 v6) (Int32.ofNat k) n = true := by
  obtain ⟨-, -, -, f4, -, -⟩ := uAf_F (r := r) (pe := pe) (po := po) (am := am) (v5 := v5) (v6 := v6) I hn hk
  rw [hasB_k _ hk, f4 k hk, if_pos rfl]; rfl
theorem old_j (m : Nat → Nat → Int32) (a k r : Nat) (pe po am v5 v6 : Int32) {n j x : Nat} (h1 : 4 ≤ x) (h2 : x ≤ 9) (hj : j < n) : uAf m n a k r pe po am v5 v6 x j = m x j := by
  rw [uAf_p _ _ _ _ _ _ _ _ _ _ (by omega), uMk_j _ _ _ h1 h2 (by omega)]
theorem T33 (m : Nat → Nat → Int32) (n a k r : Nat) (pe po am v5 v6 : Int32) (y : Nat) : uAf m n a k r pe po am v5 v6 33 y = if y = 6 * a + 5 then m 1 0 else if y = 6 * a + 4 then m 27 0 else if y = 6 * a + 3 then am else if y = 6 * a + 2 then m 28 0 else if y = 6 * a + 1 then po else if y = 6 * a then pe else m 33 y := by
  rw [uAf_1 _ _ _ _ _ _ _ _ _ _ (by decide) (by decide) (by decide) (by decide), uA1_33]
theorem T34 (m : Nat → Nat → Int32) (n a k r : Nat) (pe po am v5 v6 : Int32) (y : Nat) : uAf m n a k r pe po am v5 v6 34 y = if y = a then am else m 34 y := by
  rw [uAf_1 _ _ _ _ _ _ _ _ _ _ (by decide) (by decide) (by decide) (by decide), uA1_34]
/-- with an act what is done with a power of its line grows by its amount -/
theorem done_T (I : Inv m n w a c hr) (hn : n < 160) (hk : k < 6) (hq : q < w) (q' : Nat) : doneS (uAf m n a k r pe (Int32.ofNat q) am v5 v6) (n + 1) w (Int32.ofNat k) q' = doneS m n w (Int32.ofNat k) q' + if lineB m w (fun x => decide (Int32.ofNat x = Int32.ofNat q')) q = true then am else 0 := by
  have ha := I.1.2.2.2.2.2.2.1
  have hw := I.1.2.2.2.1
  have p4 : uAf m n a k r pe (Int32.ofNat q) am v5 v6 4 n = 3 := by rw [uAf_p _ _ _ _ _ _ _ _ _ _ (by omega), uMk_4]
  have p7 : uAf m n a k r pe (Int32.ofNat q) am v5 v6 7 n = Int32.ofNat a := by rw [uAf_p _ _ _ _ _ _ _ _ _ _ (by omega), uMk_7]
  unfold doneS
  rw [line_T]
  show sumB _ n + (if (decide (uAf m n a k r pe (Int32.ofNat q) am v5 v6 4 n = 3) && lineB m w (fun x => decide (Int32.ofNat x = Int32.ofNat q')) (sN (uAf m n a k r pe (Int32.ofNat q) am v5 v6) 33 (6 * sN (uAf m n a k r pe (Int32.ofNat q) am v5 v6) 7 n + 1)) && hasB (uAf m n a k r pe (Int32.ofNat q) am v5 v6) (Int32.ofNat k) n) = true then uAf m n a k r pe (Int32.ofNat q) am v5 v6 34 (sN (uAf m n a k r pe (Int32.ofNat q) am v5 v6) 7 n) else 0) = _
  have e7 : sN (uAf m n a k r pe (Int32.ofNat q) am v5 v6) 7 n = a := sN_of p7 (by omega)
  have e33 : sN (uAf m n a k r pe (Int32.ofNat q) am v5 v6) 33 (6 * a + 1) = q := sN_of (by rw [T33, if_neg (by omega), if_neg (by omega), if_neg (by omega), if_neg (by omega), if_pos rfl]) (by omega)
  rw [p4, e7, e33, has_new I hn hk, T34, if_pos rfl, decide_eq_true (rfl : (3 : Int32) = 3), Bool.true_and, Bool.and_true]
  congr 1
  refine sumB_congr (fun j hj => ?_)
  obtain ⟨-, -, hkind⟩ := I.2.1 j hj
  rw [old_j _ _ _ _ _ _ _ _ _ (by omega) (by omega) hj]
  by_cases z : m 4 j = 3
  · have he : ∃ e, e < a ∧ m 7 j = Int32.ofNat e := by
      rcases hkind with ⟨y, -⟩ | ⟨y, -⟩ | ⟨y, -⟩ | ⟨-, e, h1, h2, -⟩
      · rw [z] at y; exact absurd y (by decide)
      · rw [z] at y; exact absurd y (by decide)
      · rw [z] at y; exact absurd y (by decide)
      · exact ⟨e, h1, h2⟩
    obtain ⟨e, he1, he2⟩ := he
    have g7 : sN (uAf m n a k r pe (Int32.ofNat q) am v5 v6) 7 j = e := sN_of (by rw [old_j _ _ _ _ _ _ _ _ _ (by omega) (by omega) hj]; exact he2) (by omega)
    have g7' : sN m 7 j = e := sN_of he2 (by omega)
    have g33 : sN (uAf m n a k r pe (Int32.ofNat q) am v5 v6) 33 (6 * e + 1) = sN m 33 (6 * e + 1) := by
      unfold sN
      rw [T33, if_neg (by omega), if_neg (by omega), if_neg (by omega), if_neg (by omega), if_neg (by omega), if_neg (by omega)]
    rw [g7, g7', g33, has_old I hn hk _ hk hj, T34, if_neg (show ¬ e = a by omega)]
  · simp only [decide_eq_false z, Bool.false_and]
    rfl
theorem known_T (I : Inv m n w a c hr) (hn : n < 160) (hk : k < 6) (po : Int32) (hq : q < w) : knownB (uAf m n a k r pe po am v5 v6) w (Int32.ofNat k) q = knownB m w (Int32.ofNat k) q := by
  unfold knownB
  rw [line_T, lineB_P I (fun x hx => ?_) hq]
  obtain ⟨⟨p, hp, ep, -⟩, -⟩ := I.2.2.2.1 x hx
  have e13 : sN (uAf m n a k r pe po am v5 v6) 13 x = sN m 13 x := by unfold sN; rw [uAf_O _ _ _ _ _ _ _ _ _ _ (by omega)]
  show (!hasB _ _ (sN _ 13 x)) = !hasB m _ (sN m 13 x)
  rw [e13, sN_of ep (by omega), has_old I hn hk _ hk hp]
theorem rev_T (I : Inv m n w a c hr) (hn : n < 160) (hk : k < 6) (po : Int32) (q : Nat) : revB (uAf m n a k r pe po am v5 v6) (n + 1) w (Int32.ofNat k) q = revB m n w (Int32.ofNat k) q := by
  have p4 : uAf m n a k r pe po am v5 v6 4 n = 3 := by rw [uAf_p _ _ _ _ _ _ _ _ _ _ (by omega), uMk_4]
  unfold revB
  rw [line_T]
  show (anyB _ n || (decide (uAf m n a k r pe po am v5 v6 4 n = 1) && _ && _)) = _
  rw [p4, decide_eq_false (show ¬ (3 : Int32) = 1 by decide), Bool.false_and, Bool.false_and, Bool.or_false]
  refine anyB_congr (fun j hj => ?_)
  rw [old_j _ _ _ _ _ _ _ _ _ (by omega) (by omega) hj, old_j _ _ _ _ _ _ _ _ _ (by omega) (by omega) hj, has_old I hn hk _ hk hj]
theorem good_T (I : Inv m n w a c hr) (hn : n < 160) (hk : k < 6) (po : Int32) (hq : q < w) : goodB (uAf m n a k r pe po am v5 v6) (n + 1) w (Int32.ofNat k) q = goodB m n w (Int32.ofNat k) q := by
  unfold goodB
  rw [known_T I hn hk po hq, rev_T I hn hk po q]
  have eo : overB (uAf m n a k r pe po am v5 v6) w q (uAf m n a k r pe po am v5 v6 1 0) = overB m w q (m 1 0) := by
    unfold overB
    rw [line_T, uAf_O _ _ _ _ _ _ _ _ _ _ (x := 20) (by omega), uAf_O _ _ _ _ _ _ _ _ _ _ (x := 1) (by omega)]
  rw [eo]
/-- no reason against it: the power is good -/
theorem good_of {v p : Int32} {kind amt off : Int32} (h : reasonS m n w v v (m 1 0) p q kind amt off = 0) : goodB m n w v q = true := by
  unfold reasonS at h
  unfold goodB
  by_cases h1 : knownB m w v q = false
  · rw [if_pos h1] at h; exact absurd h (by decide)
  · rw [if_neg h1] at h
    by_cases h2 : m 15 q ≠ p
    · rw [if_pos h2] at h; exact absurd h (by decide)
    · rw [if_neg h2] at h
      by_cases h3 : revB m n w v q = true
      · rw [if_pos h3] at h; exact absurd h (by decide)
      · rw [if_neg h3] at h
        by_cases h4 : overB m w q (m 1 0) = true
        · rw [if_pos h4] at h; exact absurd h (by decide)
        · simp at h1 h3 h4
          rw [h1, h3, h4]; rfl
theorem reason_pos (s : Nat → Nat → Int32) (n w : Nat) (B k t person : Int32) (q : Nat) (kind amt off : Int32) : (0 < reasonS s n w B k t person q kind amt off) ↔ ¬ reasonS s n w B k t person q kind amt off = 0 := by
  unfold reasonS
  repeat' split
  all_goals decide
theorem sum_pos {P : Nat → Bool} {n i : Nat} (hi : i < n) (hp : P i = true) : ∃ l, 1 ≤ l ∧ l ≤ n ∧ sumB (fun j => b2i (P j)) n = Int32.ofNat l := by
  induction n with
  | zero => omega
  | succ n ih =>
    by_cases z : i = n
    · subst z
      obtain ⟨l, hl, e⟩ := sum_k (g := fun j => b2i (P j)) 1 (n := i) (fun j _ => b2i_k _)
      refine ⟨l + 1, by omega, by omega, ?_⟩
      show sumB (fun j => b2i (P j)) i + b2i (P i) = _
      rw [e, hp, b2i_true, ia_1]
    · obtain ⟨l, h1, h2, e⟩ := ih (by omega)
      obtain ⟨l2, h3, e2⟩ := b2i_k (P n)
      refine ⟨l + l2, by omega, by omega, ?_⟩
      show sumB (fun j => b2i (P j)) n + b2i (P n) = _
      rw [e, e2, ia_add]
/-- the act's fault, its standing -/
theorem fault_T (m : Nat → Nat → Int32) (n w a k r : Nat) (pe po am v5 v6 : Int32) (x : Nat) : faultS (uAf m n a k r pe po am v5 v6) (n + 1) w x = faultS (uA1 m n a k r pe po am) (n + 1) w x :=
  faultS_x (fun k' hk' => uAf_1 _ _ _ _ _ _ _ _ _ _ hk'.2.1 hk'.2.2.1 hk'.2.2.2.1 hk'.2.2.2.2) _ _ _
theorem stand_T (I : Inv m n w a c hr) (po : Int32) (r : Nat) : sumB (fun e => uAf m n a k r pe po am v5 v6 36 e) (a + 1) = sumB (fun e => m 36 e) a + v6 := by
  show sumB (fun e => uAf m n a k r pe po am v5 v6 36 e) a + uAf m n a k r pe po am v5 v6 36 a = _
  rw [(uAf_35 m n a k r pe po am v5 v6 a).2.1, if_pos rfl, sumB_congr (g := fun e => m 36 e) (fun j hj => by
    show uAf m n a k r pe po am v5 v6 36 j = _
    rw [(uAf_35 m n a k r pe po am v5 v6 j).2.1, if_neg (by omega)])]
end U6
