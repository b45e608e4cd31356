section MD
variable {h h' : nk_H} {X n w a c hr : Nat} {pa pa' cp : Nat → Nat} {s s' m : Nat → Nat → Int32}
/-- the lists, roughly -/
def LL (h : nk_H) (X : Nat) : Prop := ∀ l, isL X l → nk_K h l = 7 ∧ l < nk_N h ∧ ∀ e, nk_P h l 1 = some e → e < nk_N h ∧ nk_K h e ≠ 7
theorem LSq.ll {l k : Nat} {el : Nat → Nat} (L : LSq h l k el) : nk_K h l = 7 ∧ ∀ e, nk_P h l 1 = some e → e < nk_N h ∧ nk_K h e ≠ 7 := by
  obtain ⟨l1, -, -, e, l2, l3, l4⟩ := L
  refine ⟨l1, fun e' he => ?_⟩
  rw [l2] at he
  cases he
  refine ⟨l3, ?_⟩
  rcases l4 with ⟨q, -⟩ | ⟨q, -⟩ <;> rw [q] <;> decide
theorem CL.ll (H : CL h X n w c pa cp s) (hN : X + 57 ≤ nk_N h) : LL h X := by
  obtain ⟨l1, l2, l3, l4⟩ := H
  intro l hl
  rcases hl with rfl | rfl | rfl | ⟨k, hk, rfl⟩
  · exact ⟨l1.ll.1, by omega, l1.ll.2⟩
  · exact ⟨l2.ll.1, by omega, l2.ll.2⟩
  · exact ⟨l4.ll.1, by omega, l4.ll.2⟩
  · exact ⟨(l3 k hk).ll.1, by omega, (l3 k hk).ll.2⟩
theorem LL.gn {DI DP : Nat → Prop} (H : LL h X) (G : Gn h h' DI DP) (d : ∀ l, isL X l → ¬ DP l) : LL h' X := fun l hl => by
  obtain ⟨q1, q2, q3⟩ := H l hl
  obtain ⟨g1, -, g3, -⟩ := G.2.2.2 l q2
  refine ⟨by rw [g1]; exact q1, Nat.lt_of_lt_of_le q2 G.1, fun e he => ?_⟩
  rw [g3 (d l hl)] at he
  obtain ⟨r1, r2⟩ := q3 e he
  exact ⟨Nat.lt_of_lt_of_le r1 G.1, by rw [(G.2.2.2 e r1).1]; exact r2⟩
theorem OW.gn2 {DI DP : Nat → Prop} (O : OW h X) (H : LL h X) (G : Gn h h' DI DP) (d : ∀ l, isL X l → ¬ DP l) : OW h' X := by
  obtain ⟨ow, ho⟩ := O
  refine ⟨ow, fun l e hl hp hk => ?_⟩
  obtain ⟨q1, q2, q3⟩ := H l hl
  rw [(G.2.2.2 l q2).2.2.1 (d l hl)] at hp
  rw [(G.2.2.2 e (q3 e hp).1).1] at hk
  exact ho l e hl hp hk
theorem dL_no {l l' : Nat} (H : LL h X) (hl' : isL X l') (hne : l' ≠ l) : ¬ dL h l l' := fun z => by
  rcases z with z | ⟨-, z⟩
  · exact hne z
  · rw [(H l' hl').1] at z; exact absurd z (by decide)
theorem LL.add {DI : Nat → Prop} {l k : Nat} {el : Nat → Nat} (H : LL h X) (G : Gn h h' DI (dL h l)) (L : LSq h' l k el) : LL h' X := fun l' hl' => by
  by_cases z : l' = l
  · subst z
    exact ⟨L.ll.1, Nat.lt_of_lt_of_le (H l' hl').2.1 G.1, L.ll.2⟩
  · obtain ⟨q1, q2, q3⟩ := H l' hl'
    obtain ⟨g1, -, g3, -⟩ := G.2.2.2 l' q2
    refine ⟨by rw [g1]; exact q1, Nat.lt_of_lt_of_le q2 G.1, fun e he => ?_⟩
    rw [g3 (dL_no H hl' z)] at he
    obtain ⟨r1, r2⟩ := q3 e he
    exact ⟨Nat.lt_of_lt_of_le r1 G.1, by rw [(G.2.2.2 e r1).1]; exact r2⟩
theorem OW.add {DI : Nat → Prop} {l : Nat} (O : OW h X) (H : LL h X) (hl : isL X l) (G : Gn h h' DI (dL h l)) (fr : ∀ e', nk_P h' l 1 = some e' → nk_P h l 1 = some e' ∨ e' = nk_N h) : OW h' X := by
  obtain ⟨ow, ho⟩ := O
  refine ⟨fun x => if x = nk_N h then l else ow x, fun l' e hl' hp hk => ?_⟩
  show (if e = nk_N h then l else ow e) = l'
  by_cases z : l' = l
  · subst z
    rcases fr e hp with q | q
    · have e1 := ((H l' hl').2.2 e q).1
      rw [(G.2.2.2 e e1).1] at hk
      rw [if_neg (by omega)]
      exact ho l' e hl' q hk
    · rw [if_pos q]
  · rw [(G.2.2.2 l' (H l' hl').2.1).2.2.1 (dL_no H hl' z)] at hp
    have e1 := ((H l' hl').2.2 e hp).1
    rw [(G.2.2.2 e e1).1] at hk
    rw [if_neg (by omega)]
    exact ho l' e hl' hp hk
/-- the other lists stay -/
theorem LSq.keep {DI : Nat → Prop} {l l' k : Nat} {el : Nat → Nat} (L : LSq h l' k el) (O : OW h X) (H : LL h X) (hl : isL X l) (hl' : isL X l') (hne : l' ≠ l) (G : Gn h h' DI (dL h l)) (d : ¬ DI l') : LSq h' l' k el := by
  refine L.gn G (H l' hl').2.1 d (dL_no H hl' hne) (fun e he z => ?_)
  rcases z with z | ⟨z1, z2⟩
  · have := ((H l' hl').2.2 e he).2
    rw [z, (H l hl).1] at this
    exact this rfl
  · obtain ⟨ow, ho⟩ := O
    exact hne ((ho l' e hl' he z2).symm.trans (ho l e hl z1 z2))
/-- the new piece's ints -/
theorem PI1.new {p k : Nat} (hk : k < 6) {f : Nat → Int32} {t : Int32} (ht : t ≠ -1) (f3 : f 3 = 0) (i1 : nk_I h p = pubI f n k t) (i2 : ∀ j, j < 6 → nk_I h (p + 1) j = if j = k then t else -1) (e5 : s 5 n = Int32.ofNat k) (e6 : s 6 n = t) (e10 : ∀ k', k' < 6 → s 10 (160 * k' + n) = if k' = k then t else -1) (e11 : ∀ k', k' < 6 → s 11 (160 * k' + n) = if k' = k then 1 else 0) : PI1 h p n s := by
  unfold PI1
  rw [i1, e5, e6]
  refine ⟨rfl, rfl, rfl, fun j hj => ?_, fun j hj => ?_, fun j hj => by rw [i2 j hj, e10 j hj]⟩
  · show gb (f 3 ||| (1 <<< (Int32.ofNat k &&& 31))) j = _
    rw [f3, gb_or, gb_0, gb_bit hk, Bool.false_or]
    by_cases q : j < 6
    · rw [e10 j q, decide_eq_true q, Bool.true_and]
      by_cases z : j = k
      · rw [if_pos z, decide_eq_true z, decide_eq_false ht]; rfl
      · rw [if_neg z, decide_eq_false z]; rfl
    · rw [decide_eq_false q, decide_eq_false (by omega)]; rfl
  · show gb (1 <<< (Int32.ofNat k &&& 31)) j = _
    rw [gb_bit hk]
    by_cases q : j < 6
    · rw [e11 j q, decide_eq_true q, Bool.true_and]
      by_cases z : j = k
      · rw [if_pos z, decide_eq_true z]; rfl
      · rw [if_neg z, decide_eq_false z]; rfl
    · rw [decide_eq_false q, decide_eq_false (by omega)]; rfl
/-- what a new piece is to the reference -/
def MkF (s s' : Nat → Nat → Int32) (n k : Nat) (t : Int32) : Prop := s' 5 n = Int32.ofNat k ∧ s' 6 n = t ∧ (∀ k', k' < 6 → s' 10 (160 * k' + n) = if k' = k then t else -1) ∧ (∀ k', k' < 6 → s' 11 (160 * k' + n) = if k' = k then 1 else 0) ∧
  (∀ j, j ≠ n → j < 160 → ∀ k', k' < 6 → s' 10 (160 * k' + j) = s 10 (160 * k' + j) ∧ s' 11 (160 * k' + j) = s 11 (160 * k' + j)) ∧ ∀ j, j < n → ∀ k, 4 ≤ k → k ≤ 9 → s' k j = s k j
theorem Inv.made (hI : Inv s n w a c hr) {w' a' k : Nat} (hn : n < 160) (hk : k < 6) (F : MkF s s' n k (Int32.ofNat hr)) (f3 : s' 3 0 = Int32.ofNat (n + 1)) (f12 : s' 12 0 = Int32.ofNat w') (w1 : w ≤ w') (w2 : w' ≤ 40) (w3 : w' ≤ n + 1) (f29 : s' 29 0 = Int32.ofNat a') (a1 : a ≤ a') (a2 : a' ≤ n + 1)
    (eF : ∀ k, (k = 1 ∨ k = 2 ∨ (22 ≤ k ∧ k ≤ 28) ∨ (37 ≤ k ∧ k ≤ 44)) → s' k = s k) (eW : eqW s s' w) (eA : ∀ x, x < a → eqA s s' x)
    (n4 : (s' 4 n = 0 ∧ ∃ q, q < w' ∧ s' 7 n = Int32.ofNat q ∧ s' 13 q = Int32.ofNat n) ∨ (s' 4 n = 1 ∧ ∃ q, q < w' ∧ s' 7 n = Int32.ofNat q) ∨ (s' 4 n = 2 ∧ ∃ k, k < 6 ∧ s' 7 n = Int32.ofNat k) ∨ (s' 4 n = 3 ∧ ∃ e, e < a' ∧ s' 7 n = Int32.ofNat e ∧ s' 32 e = Int32.ofNat n))
    (nW : ∀ q, w ≤ q → q < w' → (∃ p, p < n + 1 ∧ s' 13 q = Int32.ofNat p ∧ s' 4 p = 0 ∧ s' 7 p = Int32.ofNat q) ∧ (s' 16 q = -1 ∨ ∃ r, r < q ∧ s' 16 q = Int32.ofNat r))
    (nA : ∀ e, a ≤ e → e < a' → (∃ p, p < n + 1 ∧ s' 32 e = Int32.ofNat p ∧ s' 4 p = 3 ∧ s' 7 p = Int32.ofNat e) ∧ (∃ q, q < w' ∧ s' 33 (6 * e + 1) = Int32.ofNat q) ∧ (∃ k, k < 6 ∧ s' 33 (6 * e + 2) = Int32.ofNat k) ∧ (∃ b, s' 33 (6 * e + 4) = b2i b) ∧ ∃ b, s' 36 e = b2i b)
    (h5 : I5 s' a') (h6 : I6 s' c) (h9 : I9 s' a') : Inv s' (n + 1) w' a' c hr := by
  obtain ⟨⟨i1, i2, i3, i4, i5, i6, i7, i8, i9, i10, i11⟩, hI1, hI2, hI3, hI4, -, -, hI7, hI8, -⟩ := hI
  obtain ⟨F5, F6, F10, F11, FC, FP⟩ := F
  have e5 : ∀ j, j < n → sN s' 5 j = sN s 5 j := fun j hj => by unfold sN; rw [FP j hj 5 (by omega) (by omega)]
  have e6 : ∀ j, j < n → sN s' 6 j = sN s 6 j := fun j hj => by unfold sN; rw [FP j hj 6 (by omega) (by omega)]
  have n6 : sN s' 6 n = hr := sN_of F6 (by omega)
  have n5 : sN s' 5 n = k := sN_of F5 (by omega)
  have h6t : ∀ j, j < n → sN s 6 j ≤ hr := fun j hj => by
    obtain ⟨-, ⟨t, ht, et⟩, -⟩ := hI1 j hj
    rw [sN_of et (by omega)]; exact ht
  refine ⟨⟨f3, by omega, f12, w2, w3, f29, a2, by rw [eF 37 (by omega)]; exact i8, i9, by rw [eF 1 (by omega)]; exact i10, i11⟩, fun j hj => ?_, fun k' hk' j hj => ?_, fun q hq => ?_, fun e he => ?_, h5, h6, ?_, fun j hj => ?_, h9⟩
  · by_cases z : j = n
    · subst z
      exact ⟨⟨k, hk, F5⟩, ⟨hr, Nat.le_refl _, F6⟩, n4⟩
    · have hj' : j < n := by omega
      obtain ⟨q1, q2, q3⟩ := hI1 j hj'
      rw [FP j hj' 5 (by omega) (by omega), FP j hj' 6 (by omega) (by omega), FP j hj' 4 (by omega) (by omega), FP j hj' 7 (by omega) (by omega)]
      refine ⟨q1, q2, ?_⟩
      rcases q3 with ⟨z1, q, z2, z3, z4⟩ | ⟨z1, q, z2, z3⟩ | q3 | ⟨z1, e, z2, z3, z4⟩
      · exact Or.inl ⟨z1, q, by omega, z3, by rw [eW q z2 13 (by omega) (by omega)]; exact z4⟩
      · exact Or.inr (Or.inl ⟨z1, q, by omega, z3⟩)
      · exact Or.inr (Or.inr (Or.inl q3))
      · exact Or.inr (Or.inr (Or.inr ⟨z1, e, by omega, z3, by rw [(eA e z2).1]; exact z4⟩))
  · by_cases z : j = n
    · subst z
      rw [F10 k' hk', F11 k' hk']
      by_cases y : k' = k
      · rw [if_pos y, if_pos y]
        exact ⟨Or.inr ⟨by omega, hr, Nat.le_refl _, by rw [n6]; exact Nat.le_refl _, rfl⟩, Or.inr ⟨rfl, ia_m1 (by omega)⟩⟩
      · rw [if_neg y, if_neg y]
        exact ⟨Or.inl rfl, Or.inl rfl⟩
    · obtain ⟨q1, q2⟩ := FC j z hj k' hk'
      rw [q1, q2]
      obtain ⟨z1, z2⟩ := hI2 k' hk' j hj
      refine ⟨?_, z2⟩
      rcases z1 with z1 | ⟨z1, t, z3, z4, z5⟩
      · exact Or.inl z1
      · exact Or.inr ⟨by omega, t, z3, by rw [e6 j z1]; exact z4, z5⟩
  · by_cases z : q < w
    · obtain ⟨⟨p, p1, p2, p3, p4⟩, p5⟩ := hI3 q z
      rw [eW q z 13 (by omega) (by omega), eW q z 16 (by omega) (by omega)]
      exact ⟨⟨p, by omega, p2, by rw [FP p p1 4 (by omega) (by omega)]; exact p3, by rw [FP p p1 7 (by omega) (by omega)]; exact p4⟩, p5⟩
    · exact nW q (by omega) hq
  · by_cases z : e < a
    · obtain ⟨⟨p, p1, p2, p3, p4⟩, ⟨q, q1, q2⟩, p5, p6, p7⟩ := hI4 e z
      obtain ⟨g1, g2, g3, g4, g5⟩ := eA e z
      rw [g1, g4, g5 1 (by omega), g5 2 (by omega), g5 4 (by omega)]
      exact ⟨⟨p, by omega, p2, by rw [FP p p1 4 (by omega) (by omega)]; exact p3, by rw [FP p p1 7 (by omega) (by omega)]; exact p4⟩, ⟨q, by omega, q2⟩, p5, p6, p7⟩
    · exact nA e (by omega) he
  · exact hI7.cg (fun k hk => eF k (by omega))
  · by_cases z : j = n
    · subst z
      rw [n5, n6, F6]
      exact ⟨by rw [F10 k hk, if_pos rfl], fun i hi => by rw [e6 i hi]; exact h6t i hi⟩
    · have hj' : j < n := by omega
      obtain ⟨q1, q2⟩ := hI8 j hj'
      obtain ⟨⟨kj, z1, z2⟩, -⟩ := hI1 j hj'
      have : sN s 5 j < 6 := by rw [sN_of z2 (by omega)]; exact z1
      rw [e5 j hj', e6 j hj', FP j hj' 6 (by omega) (by omega), (FC j z (by omega) _ this).1]
      exact ⟨q1, fun i hi => by rw [e6 i (by omega)]; exact q2 i hi⟩
theorem MkF.rt (F : MkF s s' n w (Int32.ofNat hr)) (hh : hr ≤ 400) (hk : w < 6) : ∀ k, k < 6 → Rt s' n hr k = decide (k = sN s' 5 n) := fun k hk9 => by
  obtain ⟨F5, -, F10, -⟩ := F
  rw [sN_of F5 (by omega)]
  unfold Rt sN
  rw [F10 k hk9]
  by_cases z : k = w
  · rw [if_pos z, decide_eq_false (ia_m1 (by omega)), ia_nn (by omega), decide_eq_true (Nat.le_refl _), decide_eq_true z]; rfl
  · rw [if_neg z, decide_eq_true rfl, decide_eq_false z]; rfl
end MD
