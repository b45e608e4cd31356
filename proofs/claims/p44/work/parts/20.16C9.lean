/-! ===== the law's steps ===== -/
/-- between two calls: the class and the reference agree -/
def WS (h : nk_H) (X : Nat) : Prop := ∃ n w a c hr pa cp, WR h X n w a c hr pa cp (nm h (X + 23)) (nm h (X + 23))
section LW
variable {h h1 h2 : nk_H} {X n w a c hr : Nat} {pa cp : Nat → Nat} {s s' s2 m : Nat → Nat → Int32}
theorem MO.gn {M : Nat} (a : MO h M h1) : Gn h h1 (fun x => M ≤ x ∧ x ≤ M + 32) no := by
  obtain ⟨a1, a2, a3, a4, a5, a6, a7, a8⟩ := a
  refine ⟨by rw [a4]; exact Nat.le_refl _, a6, a7, fun x _ => ⟨by rw [a1], by rw [a3], fun _ => by rw [a2], fun z => a8 x ?_⟩⟩
  by_cases e : x < M
  · exact Or.inl e
  · exact Or.inr (Nat.not_le.mp fun e2 => z ⟨by omega, e2⟩)
theorem WR.finish (H : WR h1 X n w a c hr pa cp s' m) (a1 : MO h1 (X + 23) h2) (b : St h2 (X + 23) s2) (e : eq0 s' s2) : WS h2 X ∧ nk_I h2 (X + 56) = nk_I h1 (X + 56) := by
  obtain ⟨k1, k2, k3, k4, k5, k6⟩ := H
  have hN := k1.2.2.2.2.2.2.2
  have G := a1.gn
  have k1' : CR h2 X n w a c hr pa cp s' := k1.gnS k6 (G.mono (fun x hx => Or.inr (by omega)) (fun _ => id))
  have k6' : Inv s2 n w a c hr := k6.eq0 e
  refine ⟨⟨n, w, a, c, hr, pa, cp, ?_⟩, a1.2.2.2.2.2.2.2 _ (Or.inr (by omega))⟩
  rw [b.2]
  exact ⟨k1'.eq0 e k6, k2.gn G hN (fun _ _ _ => id) (CL.lt k1.2.2.2.2.2.1), b.1, b.2, k5.gn G hN, k6'⟩
theorem w_thrown (H : St h (X + 23) s) : f_X12_thrown h (X + 23) = some (h, s 0 0) := by
  unfold f_X12_thrown
  rw [w_gI H 0]
/-- what a step owes -/
def STP {α : Type} (h : nk_H) (X : Nat) (cont f : nk_H → Option α) : Prop := ∃ h2, f h = cont h2 ∧ WS h2 X ∧ nk_N h2 ≤ nk_N h + 1000 ∧ nk_S h2 ≤ nk_S h + 10000
theorem rL_out (H : OUT h X) {α : Type} (K : Int32 → Option α) : (nk_rL h (some (X + 56)) 0).bind K = K (nk_I h (X + 56) 0) := by
  have : (0 : Int32).toNatClampNeg = 0 := by decide
  simp [nk_rL, H.1, H.2, this]
theorem WS.out (H : WS h X) : OUT h X := by
  obtain ⟨_, _, _, _, _, _, _, -, -, -, -, h5, -⟩ := H
  exact h5
theorem rc19 {α : Type} (H : MR h (X + 23)) (K : Nat → Option α) : (nk_rcv [19] h (some (X + 23))).bind K = K (X + 23) := by rw [m_rcv H]; rfl
/-- a case whose answer is an int -/
theorem law_I {fL : Option (nk_H × Int32)} {fM : nk_H → Option (nk_H × Int32)} {n' w' a' c' hr' : Nat} {code val : Int32} {α : Type} {cont bad : nk_H → Option α} (hc : WOK h X s n' w' a' c' hr' s' code val fL) (hm : ∀ h1, St h1 (X + 23) s → ∃ r, (code = 0 → r = val) ∧ Ok h1 (X + 23) s2 r (fM h1)) (e : eq0 s' s2) (e0 : s2 0 0 = code) :
    ∃ h2, (fL.bind fun y => (nk_rcv [19] y.1 (some (X + 23))).bind fun _ => (fM y.1).bind fun z => (nk_rcv [19] z.1 (some (X + 23))).bind fun a10 => (f_X12_thrown z.1 a10).bind fun t => if t.2 = y.2 then (if y.2 = 0 then (nk_rL t.1 (some (X + 56)) 0).bind fun v => if v = z.2 then cont t.1 else bad t.1 else cont t.1) else bad t.1) = cont h2 ∧ WS h2 X ∧ nk_N h2 ≤ nk_N h + 1000 ∧ nk_S h2 ≤ nk_S h + 10000 := by
  obtain ⟨h1, pa', cp', el, W, ho, b1, b2⟩ := hc
  have S1 : St h1 (X + 23) s := ⟨W.2.2.1, W.2.2.2.1⟩
  obtain ⟨r, hr9, h2, em, m1, m2⟩ := hm h1 S1
  obtain ⟨W2, eo⟩ := W.finish m1 m2 e
  refine ⟨h2, ?_, W2, by rw [m1.2.2.2.1]; exact b1, by rw [m1.2.2.2.2.1]; exact b2⟩
  rw [el]
  show ((nk_rcv [19] h1 (some (X + 23))).bind fun _ => (fM h1).bind fun z => (nk_rcv [19] z.1 (some (X + 23))).bind fun a10 => (f_X12_thrown z.1 a10).bind fun t => if t.2 = code then (if code = 0 then (nk_rL t.1 (some (X + 56)) 0).bind fun v => if v = z.2 then cont t.1 else bad t.1 else cont t.1) else bad t.1) = cont h2
  rw [rc19 S1.1, em]
  show ((nk_rcv [19] h2 (some (X + 23))).bind fun a10 => (f_X12_thrown h2 a10).bind fun t => if t.2 = code then (if code = 0 then (nk_rL t.1 (some (X + 56)) 0).bind fun v => if v = r then cont t.1 else bad t.1 else cont t.1) else bad t.1) = cont h2
  rw [rc19 m2.1, w_thrown m2]
  show (if s2 0 0 = code then (if code = 0 then (nk_rL h2 (some (X + 56)) 0).bind fun v => if v = r then cont h2 else bad h2 else cont h2) else bad h2) = cont h2
  rw [if_pos e0]
  by_cases hz : code = 0
  · rw [if_pos hz, rL_out W2.out, eo, ho hz, if_pos (hr9 hz).symm]
  · rw [if_neg hz]
/-- a case whose answer is a boolean -/
theorem law_Z {fL : Option (nk_H × Int32)} {fM : nk_H → Option (nk_H × Int32)} {n' w' a' c' hr' : Nat} {code : Int32} {val : Bool} {α : Type} {cont bad : nk_H → Option α} (hc : WOK h X s n' w' a' c' hr' s' code (b2i val) fL) (hm : ∀ h1, St h1 (X + 23) s → ∃ r, (code = 0 → r = b2i val) ∧ Ok h1 (X + 23) s2 r (fM h1)) (e : eq0 s' s2) (e0 : s2 0 0 = code) :
    ∃ h2, (fL.bind fun y => (nk_rcv [19] y.1 (some (X + 23))).bind fun _ => (fM y.1).bind fun z => (nk_rcv [19] z.1 (some (X + 23))).bind fun a10 => (f_X12_thrown z.1 a10).bind fun t => if t.2 = y.2 then (if y.2 = 0 then (nk_rL t.1 (some (X + 56)) 0).bind fun v => if v = (if z.2 = 0 then 0 else 1) then cont t.1 else bad t.1 else cont t.1) else bad t.1) = cont h2 ∧ WS h2 X ∧ nk_N h2 ≤ nk_N h + 1000 ∧ nk_S h2 ≤ nk_S h + 10000 := by
  obtain ⟨h1, pa', cp', el, W, ho, b1, b2⟩ := hc
  have S1 : St h1 (X + 23) s := ⟨W.2.2.1, W.2.2.2.1⟩
  obtain ⟨r, hr9, h2, em, m1, m2⟩ := hm h1 S1
  obtain ⟨W2, eo⟩ := W.finish m1 m2 e
  refine ⟨h2, ?_, W2, by rw [m1.2.2.2.1]; exact b1, by rw [m1.2.2.2.2.1]; exact b2⟩
  rw [el]
  show ((nk_rcv [19] h1 (some (X + 23))).bind fun _ => (fM h1).bind fun z => (nk_rcv [19] z.1 (some (X + 23))).bind fun a10 => (f_X12_thrown z.1 a10).bind fun t => if t.2 = code then (if code = 0 then (nk_rL t.1 (some (X + 56)) 0).bind fun v => if v = (if z.2 = 0 then 0 else 1) then cont t.1 else bad t.1 else cont t.1) else bad t.1) = cont h2
  rw [rc19 S1.1, em]
  show ((nk_rcv [19] h2 (some (X + 23))).bind fun a10 => (f_X12_thrown h2 a10).bind fun t => if t.2 = code then (if code = 0 then (nk_rL t.1 (some (X + 56)) 0).bind fun v => if v = (if r = 0 then 0 else 1) then cont t.1 else bad t.1 else cont t.1) else bad t.1) = cont h2
  rw [rc19 m2.1, w_thrown m2]
  show (if s2 0 0 = code then (if code = 0 then (nk_rL h2 (some (X + 56)) 0).bind fun v => if v = (if r = 0 then 0 else 1) then cont h2 else bad h2 else cont h2) else bad h2) = cont h2
  rw [if_pos e0]
  by_cases hz : code = 0
  · have er : (if r = 0 then (0 : Int32) else 1) = b2i val := by rw [hr9 hz]; cases val <;> rfl
    rw [if_pos hz, rL_out W2.out, eo, ho hz, er, if_pos rfl]
  · rw [if_neg hz]
/-- a case without an answer -/
theorem law_V {β : Type} {fL : Option (nk_H × Int32)} {fM : nk_H → Option (nk_H × β)} {n' w' a' c' hr' : Nat} {code val : Int32} {u : β} {α : Type} {cont bad : nk_H → Option α} (hc : WOK h X s n' w' a' c' hr' s' code val fL) (hm : ∀ h1, St h1 (X + 23) s → Ok h1 (X + 23) s2 u (fM h1)) (e : eq0 s' s2) (e0 : s2 0 0 = code) :
    ∃ h2, (fL.bind fun y => (nk_rcv [19] y.1 (some (X + 23))).bind fun _ => (fM y.1).bind fun z => (nk_rcv [19] z.1 (some (X + 23))).bind fun a10 => (f_X12_thrown z.1 a10).bind fun t => if t.2 = y.2 then cont t.1 else bad t.1) = cont h2 ∧ WS h2 X ∧ nk_N h2 ≤ nk_N h + 1000 ∧ nk_S h2 ≤ nk_S h + 10000 := by
  obtain ⟨h1, pa', cp', el, W, ho, b1, b2⟩ := hc
  have S1 : St h1 (X + 23) s := ⟨W.2.2.1, W.2.2.2.1⟩
  obtain ⟨h2, em, m1, m2⟩ := hm h1 S1
  obtain ⟨W2, eo⟩ := W.finish m1 m2 e
  refine ⟨h2, ?_, W2, by rw [m1.2.2.2.1]; exact b1, by rw [m1.2.2.2.2.1]; exact b2⟩
  rw [el]
  show ((nk_rcv [19] h1 (some (X + 23))).bind fun _ => (fM h1).bind fun z => (nk_rcv [19] z.1 (some (X + 23))).bind fun a10 => (f_X12_thrown z.1 a10).bind fun t => if t.2 = code then cont t.1 else bad t.1) = cont h2
  rw [rc19 S1.1, em]
  show ((nk_rcv [19] h2 (some (X + 23))).bind fun a10 => (f_X12_thrown h2 a10).bind fun t => if t.2 = code then cont t.1 else bad t.1) = cont h2
  rw [rc19 m2.1, w_thrown m2]
  show (if s2 0 0 = code then cont h2 else bad h2) = cont h2
  rw [if_pos e0]
end LW
