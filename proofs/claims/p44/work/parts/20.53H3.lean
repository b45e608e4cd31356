/-! ===== one piece's ints change (read, pass) ===== -/
section MP
variable {h h' g : nk_H} {X n w a c hr : Nat} {pa pa' cp : Nat → Nat} {s s' s2 m : Nat → Nat → Int32}
/-- all but ints is the same -/
def SI (h h' : nk_H) : Prop := nk_K h' = nk_K h ∧ nk_P h' = nk_P h ∧ nk_L h' = nk_L h ∧ nk_N h' = nk_N h ∧ nk_S h' = nk_S h ∧ nk_E h' = nk_E h ∧ nk_M h' = nk_M h
theorem SI.refl (h : nk_H) : SI h h := ⟨rfl, rfl, rfl, rfl, rfl, rfl, rfl⟩
theorem SI.sI {h g : nk_H} (a : SI h g) (x j : Nat) (v : Int32) : SI h (nk_sI g x j v) := a
theorem SI.trans {h h1 h2 : nk_H} (a : SI h h1) (b : SI h1 h2) : SI h h2 := by
  obtain ⟨a1, a2, a3, a4, a5, a6, a7⟩ := a
  obtain ⟨b1, b2, b3, b4, b5, b6, b7⟩ := b
  exact ⟨b1.trans a1, b2.trans a2, b3.trans a3, b4.trans a4, b5.trans a5, b6.trans a6, b7.trans a7⟩
theorem LSq.si {l k : Nat} {el : Nat → Nat} (L : LSq h l k el) (S : SI h h') (hi : nk_I h' l 2 = nk_I h l 2) : LSq h' l k el := by
  obtain ⟨e1, e2, e3, e4, e5, e6, e7⟩ := S
  unfold LSq at *
  rw [e1, e2, e3, e4, e6, hi]; exact L
/-- the world but for what the kept links tell -/
def CR0 (h : nk_H) (X n w a c : Nat) (pa cp : Nat → Nat) (s : Nat → Nat → Int32) : Prop := CQ h X n w a pa s ∧ CG h X s ∧ CD h X s ∧ KS h X c n pa cp s ∧ KI h c cp s ∧ CL h X n w c pa cp s ∧ X + 57 ≤ nk_N h
def WR0 (h : nk_H) (X n w a c hr : Nat) (pa cp : Nat → Nat) (s m : Nat → Nat → Int32) : Prop := CR0 h X n w a c pa cp s ∧ OW h X ∧ MR h (X + 23) ∧ nm h (X + 23) = m ∧ OUT h X ∧ Inv s n w a c hr
theorem WR.w0 (W : WR h X n w a c hr pa cp s m) : WR0 h X n w a c hr pa cp s m := ⟨⟨W.1.1, W.1.2.1, W.1.2.2.1, W.1.2.2.2.1, W.1.2.2.2.2.1, W.1.2.2.2.2.2.1, W.1.2.2.2.2.2.2.2⟩, W.2⟩
theorem WR0.ww (W : WR0 h X n w a c hr pa cp s m) (J : CJ h X n hr s) : WR h X n w a c hr pa cp s m := ⟨⟨W.1.1, W.1.2.1, W.1.2.2.1, W.1.2.2.2.1, W.1.2.2.2.2.1, W.1.2.2.2.2.2.1, J, W.1.2.2.2.2.2.2⟩, W.2⟩
theorem WR0.pint (W : WR0 h X n w a c hr pa cp s m) {i : Nat} (hi : i < n) (S : SI h h') (iO : ∀ x y, x ≠ pa i + 1 → (x = pa i → y ≠ 3 ∧ y ≠ 4) → nk_I h' x y = nk_I h x y) (eO : ∀ x, x ≠ 10 → x ≠ 11 → s' x = s x) (eC : ∀ j, j ≠ i → j < 160 → ∀ k, k < 6 → s' 10 (160 * k + j) = s 10 (160 * k + j) ∧ s' 11 (160 * k + j) = s 11 (160 * k + j)) (hPI : PI1 h' (pa i) i s') (hI' : Inv s' n w a c hr) : WR0 h' X n w a c hr pa cp s' m := by
  obtain ⟨⟨⟨h1, h2, h3, h4, h5, h6, h7, h8, h9, h10⟩, k2, k3, k4, k5, ⟨l1, l2, l3, l4⟩, k8⟩, o2, o3, o4, o5, hI⟩ := W
  have SS := S
  obtain ⟨e1, e2, e3, e4, e5, e6, e7⟩ := S
  obtain ⟨r1, r2, r3, r4⟩ := rg_pw hI
  have hb : n ≤ 160 := hI.1.2.1
  have pi := (h3 i hi).1
  have kpi : nk_K h (pa i) ≠ 1 ∧ nk_K h (pa i) ≠ 7 ∧ nk_K h (pa i) ≠ 10 ∧ nk_K h (pa i) ≠ 11 ∧ nk_K h (pa i) ≠ 13 := by
    have p1 := (h4 i hi).1
    rcases pk_cases hI hi with ⟨-, q⟩ | ⟨-, q⟩ | ⟨-, q⟩ | ⟨-, q⟩ <;> rw [p1, q] <;> decide
  have kci : nk_K h (pa i + 1) = 1 := (h4 i hi).2.2.1
  have iX : ∀ x, x < X + 57 → nk_I h' x = nk_I h x := fun x hx => funext fun y => iO x y (by omega) (by omega)
  have iK : ∀ x, nk_K h x ≠ 1 → (x ≠ pa i) → nk_I h' x = nk_I h x := fun x hx hp => funext fun y => iO x y (fun z => hx (by rw [z]; exact kci)) (fun z => absurd z hp)
  have i56 : ∀ x y, nk_K h x ≠ 1 → y ≠ 3 → y ≠ 4 → nk_I h' x y = nk_I h x y := fun x y hx y3 y4 => iO x y (fun z => hx (by rw [z]; exact kci)) (fun _ => ⟨y3, y4⟩)
  have pj : ∀ j, j < n → nk_K h (pa j) ≠ 1 := fun j hj => by
    have p1 := (h4 j hj).1
    rcases pk_cases hI hj with ⟨-, q⟩ | ⟨-, q⟩ | ⟨-, q⟩ | ⟨-, q⟩ <;> rw [p1, q] <;> decide
  have es : ∀ x y, x ≠ 10 → x ≠ 11 → s' x y = s x y := fun x y q1 q2 => by rw [eO x q1 q2]
  have esN : ∀ x y, x ≠ 10 → x ≠ 11 → sN s' x y = sN s x y := fun x y q1 q2 => by unfold sN; rw [eO x q1 q2]
  have epw : ∀ q, pw s' pa q = pw s pa q := fun q => by unfold pw; rw [esN _ _ (by decide) (by decide)]
  have eac : ∀ e, ac s' pa e = ac s pa e := fun e => by unfold ac; rw [esN _ _ (by decide) (by decide)]
  have esr : ∀ q, src s' q = src s q := fun q => src_congr (es 16 q (by decide) (by decide))
  have epwf : pw s' pa = pw s pa := funext epw
  have acK : ∀ e, e < a → nk_K h (ac s pa e) ≠ 1 := fun e he => pj _ (r3 e he).1
  have i2 : ∀ e, e < a → nk_I h' (ac s pa e + 2) = nk_I h (ac s pa e + 2) := fun e he => by
    have q1 := (h9 e he).2.2.2.2.1
    have q2 := (h4 _ (r3 e he).1).2.2.1
    refine funext fun y => iO _ y (fun z => ?_) (fun z => ?_)
    · have z2 : pa i = pa (sN s 32 e) + 1 := by
        have : ac s pa e = pa (sN s 32 e) := rfl
        omega
      exact kpi.1 (by rw [z2]; exact q2)
    · exact absurd (by rw [← z]; exact q1) kpi.1
  have iA : ∀ e, e < a → nk_I h' (ac s pa e - 1) = nk_I h (ac s pa e - 1) := fun e he => by
    have q1 := (h9 e he).2.2.1
    exact iK _ (by rw [q1]; decide) (fun z => kpi.2.2.2.1 (by rw [← z]; exact q1))
  refine ⟨⟨⟨?_, h2.si SS (by rw [iX _ (by omega)]), ?_, fun j hj => ?_, fun j hj => ?_, fun q hq => ?_, fun j hj z => ?_, fun j hj z => ?_, fun e he => ?_, fun e he => ?_⟩, ?_, ?_, fun e he => ?_, fun e he => ?_, ⟨h2.si SS (by rw [iX _ (by omega)]), ?_, fun k hk => ?_, l4.si SS (by rw [iX _ (by omega)])⟩, by rw [e4]; exact k8⟩, ?_, ?_, ?_, ?_, hI'⟩
  · unfold CF; rw [e1, e2, e3]; exact h1
  · unfold PA; rw [e4]; exact h3
  · rw [e1, e2, e3, es 4 j (by decide) (by decide)]; exact h4 j hj
  · by_cases z : j = i
    · subst z; exact hPI
    · obtain ⟨a1, a2, a3, a4, a5, a6⟩ := h5 j hj
      have q1 := (h4 j hj).2.2.1
      have n1 : pa j ≠ pa i := fun y => z (pa_inj h3 hj hi y)
      have j1 : nk_I h' (pa j) = nk_I h (pa j) := iK _ (pj j hj) n1
      have j2 : nk_I h' (pa j + 1) = nk_I h (pa j + 1) := funext fun y => iO _ y (by omega) (fun z2 => absurd (by rw [← z2]; exact q1) kpi.1)
      rw [j1, j2, es 5 j (by decide) (by decide), es 6 j (by decide) (by decide)]
      refine ⟨a1, a2, a3, fun k hk => ?_, fun k hk => ?_, fun k hk => ?_⟩
      · rw [a4 k hk]
        by_cases k6 : k < 6
        · rw [(eC j z (by omega) k k6).1]
        · rw [decide_eq_false k6]; rfl
      · rw [a5 k hk]
        by_cases k6 : k < 6
        · rw [(eC j z (by omega) k k6).2]
        · rw [decide_eq_false k6]; rfl
      · rw [a6 k hk, (eC j z (by omega) k hk).1]
  · obtain ⟨a1, a2, a3, a4, a5, a6, a7, a8, a9⟩ := h6 q hq
    have kq : nk_K h (pw s pa q) ≠ 1 := pj _ (r1 q hq)
    rw [epw, e2, esr, epwf, es 14 q (by decide) (by decide), es 15 q (by decide) (by decide), es 17 q (by decide) (by decide), es 18 q (by decide) (by decide), es 19 q (by decide) (by decide), es 20 q (by decide) (by decide), es 21 q (by decide) (by decide), i56 _ 6 kq (by decide) (by decide), i56 _ 8 kq (by decide) (by decide), i56 _ 9 kq (by decide) (by decide), i56 _ 10 kq (by decide) (by decide), i56 _ 11 kq (by decide) (by decide), i56 _ 12 kq (by decide) (by decide), i56 _ 13 kq (by decide) (by decide), i56 _ 14 kq (by decide) (by decide)]
    exact ⟨a1, a2, a3, a4, a5, a6, a7, a8, a9⟩
  · rw [es 4 j (by decide) (by decide)] at z
    rw [e2, epw, esN 7 j (by decide) (by decide)]
    exact h7 j hj z
  · rw [es 4 j (by decide) (by decide)] at z
    rw [es 7 j (by decide) (by decide), es 8 j (by decide) (by decide), es 9 j (by decide) (by decide), i56 _ 6 (pj j hj) (by decide) (by decide), i56 _ 7 (pj j hj) (by decide) (by decide), i56 _ 8 (pj j hj) (by decide) (by decide)]
    exact h8 j hj z
  · rw [eac, e1, e2, e3, e4, epw, esN 33 _ (by decide) (by decide)]
    exact h9 e he
  · rw [eac, i56 _ 9 (acK e he) (by decide) (by decide), i56 _ 10 (acK e he) (by decide) (by decide), i2 e he, iA e he, esN 32 _ (by decide) (by decide), eO 5 (by decide) (by decide), eO 6 (by decide) (by decide), eO 33 (by decide) (by decide), eO 34 (by decide) (by decide), eO 35 (by decide) (by decide), eO 36 (by decide) (by decide)]
    exact h10 e he
  · unfold CG
    rw [eO 1 (by decide) (by decide), eO 27 (by decide) (by decide), eO 28 (by decide) (by decide), eO 2 (by decide) (by decide), iX X (by omega), iX (X + 2) (by omega)]
    obtain ⟨g1, g2, g3, g4⟩ := k2
    exact ⟨g1, g2, g3, fun k hk => by rw [iX (X + 9 + 2 * k) (by omega)]; exact g4 k hk⟩
  · obtain ⟨d, d1, d2, d3, d4, d5⟩ := k3
    refine ⟨d, by rw [e2]; exact d1, by rw [e4]; exact d2, d3, by rw [e1]; exact d4, ?_⟩
    rw [eO 22 (by decide) (by decide), eO 23 (by decide) (by decide), eO 24 (by decide) (by decide), eO 25 (by decide) (by decide), eO 26 (by decide) (by decide), iK d (by rw [d4]; decide) (fun z => kpi.2.2.2.2 (by rw [← z]; exact d4))]
    exact d5
  · have q40 : ∀ y, sN s' 40 y = sN s 40 y := fun y => esN 40 y (by decide) (by decide)
    obtain ⟨z1, z2, z3, z4, z5⟩ := k4 e he
    rw [q40, e1, e2, e3, e4]
    exact ⟨z1, z2, fun i hi => by rw [q40]; exact z3 i hi, z4, z5⟩
  · obtain ⟨z1, z2, z3, z4, z5, -, -, -, -, -, -, z12⟩ := k4 e he
    have q40 : sN s' 40 e = sN s 40 e := esN 40 e (by decide) (by decide)
    have ip := z4 i hi
    have j1 : nk_I h' (cp e) = nk_I h (cp e) := iK _ (by rw [z5]; decide) (fun z => kpi.2.2.1 (by rw [← z]; exact z5))
    have j2 : nk_I h' (cp e + 2 + sN s 40 e) = nk_I h (cp e + 2 + sN s 40 e) := funext fun y => iO _ y (by omega) (by omega)
    rw [q40, j1, j2, eO 38 (by decide) (by decide), eO 39 (by decide) (by decide), eO 40 (by decide) (by decide), eO 41 (by decide) (by decide), eO 42 (by decide) (by decide), eO 43 (by decide) (by decide), eO 44 (by decide) (by decide)]
    obtain ⟨w1, w2, w3, w4, w5, w6⟩ := k5 e he
    refine ⟨w1, w2, w3, w4, w5, fun x hx => ⟨(w6 x hx).1, fun p hp => ?_⟩⟩
    rw [iO _ p (by omega) (by omega)]
    exact (w6 x hx).2 p hp
  · rw [epwf]; exact l2.si SS (by rw [iX _ (by omega)])
  · have q : (fun r => ac s' pa (sN s' 31 (160 * k + r))) = fun r => ac s pa (sN s 31 (160 * k + r)) := funext fun r => by rw [eac, esN 31 _ (by decide) (by decide)]
    rw [q, esN 30 k (by decide) (by decide)]
    exact (l3 k hk).si SS (by rw [iX _ (by omega)])
  · unfold OW; rw [e1, e2]; exact o2
  · unfold MR; rw [e1, e2, e3]; exact o3
  · rw [← o4]
    funext k j
    have := mo_le k
    unfold nm
    rw [iX (X + 23) (by omega), iX (X + 23 + mo k) (by omega)]
  · unfold OUT; rw [e1, e3]; exact o5
end MP
