/-! ===== the law's cases ===== -/
section LC
variable {h : nk_H} {X n w a c hr : Nat} {pa cp : Nat → Nat} {s s' s2 m : Nat → Nat → Int32}
/-- a case: it goes on, and the class and the reference agree -/
def LPq (h : nk_H) (X : Nat) (r : nk_H → Option Nat → Option Nat → Option Nat → Int32 → Option (nk_H × Int32)) (v4 : Int32) (E : Option (nk_H × Int32)) : Prop := ∃ h2, E = r h2 (some X) (some (X + 23)) (some (X + 56)) (v4 + 6) ∧ WS h2 X ∧ nk_N h2 ≤ nk_N h + 1000 ∧ nk_S h2 ≤ nk_S h + 10000
theorem BI.q {fL : Option (nk_H × Int32)} {fM : nk_H → Option (nk_H × Int32)} {code val : Int32} (hc : WOK h X s n w a c hr s code val fL) (hm : ∀ h1, St h1 (X + 23) s → ∃ r, (code = 0 → r = val) ∧ Ok h1 (X + 23) (nk_u2 s 0 0 code) r (fM h1)) (hv : code = 0 → ¬ val < 0) : BI h X s fL fM := ⟨n, w, a, c, hr, s, nk_u2 s 0 0 code, code, val, hc, hm, eq0_u s code, u2_eq _ _ _ _, fun _ => eq0_u s code, JX.of (eq0_u s _) (fun _ _ => rfl) hv⟩
theorem kw_I {fL : Option (nk_H × Int32)} {FM : nk_H → Nat → Option (nk_H × Int32)} {α : Type} {cont bad : nk_H → Option (nk_H × α)} (B : BI h X s fL (fun h1 => FM h1 (X + 23))) :
    ∃ h2, nk_do fL (fun h3 x4 => (nk_rcv [19] h3 (some (X + 23))).bind fun a7 => nk_do (FM h3 a7) fun h8 x9 => (nk_rcv [19] h8 (some (X + 23))).bind fun a10 => nk_do (f_X12_thrown h8 a10) fun h11 x12 => (if x12 = x4 then (if x4 = 0 then ((nk_rL h11 (some (X + 56)) 0).bind fun x13 => if x13 = x9 then cont h11 else bad h11) else cont h11) else bad h11)) = cont h2 ∧ WS h2 X ∧ nk_N h2 ≤ nk_N h + 1000 ∧ nk_S h2 ≤ nk_S h + 10000 := by
  obtain ⟨n', w', a', c', hr', s', s2, code, val, ⟨h1, pa', cp', el, W, ho, b1, b2⟩, hm, e, e0, -, -⟩ := B
  have S1 : St h1 (X + 23) s := ⟨W.2.2.1, W.2.2.2.1⟩
  obtain ⟨r, hr9, h2, em, m1, m2⟩ := hm h1 S1
  obtain ⟨W2, eo⟩ := W.finish m1 m2 e
  refine ⟨h2, ?_, W2, by rw [m1.2.2.2.1]; exact b1, by rw [m1.2.2.2.2.1]; exact b2⟩
  rw [el, do_s, rc19 S1.1]
  show nk_do (FM h1 (X + 23)) _ = _
  rw [show FM h1 (X + 23) = some (h2, r) from em, do_s, rc19 m2.1, w_thrown m2, do_s, if_pos e0]
  by_cases hz : code = 0
  · rw [if_pos hz, rL_out W2.out, eo, ho hz, if_pos (hr9 hz).symm]
  · rw [if_neg hz]
theorem kw_Z {fL : Option (nk_H × Int32)} {FM : nk_H → Nat → Option (nk_H × Int32)} {code : Int32} {val : Bool} {α : Type} {cont bad : nk_H → Option (nk_H × α)} (hc : WOK h X s n w a c hr s code (b2i val) fL) (hm : ∀ h1, St h1 (X + 23) s → ∃ r, (code = 0 → r = b2i val) ∧ Ok h1 (X + 23) (nk_u2 s 0 0 code) r (FM h1 (X + 23))) :
    ∃ h2, nk_do fL (fun h3 x4 => (nk_rcv [19] h3 (some (X + 23))).bind fun a7 => nk_do (FM h3 a7) fun h8 x9 => (nk_rcv [19] h8 (some (X + 23))).bind fun a10 => nk_do (f_X12_thrown h8 a10) fun h11 x12 => (if x12 = x4 then (if x4 = 0 then ((nk_rL h11 (some (X + 56)) 0).bind fun x13 => if x13 = (if x9 = 0 then 0 else 1) then cont h11 else bad h11) else cont h11) else bad h11)) = cont h2 ∧ WS h2 X ∧ nk_N h2 ≤ nk_N h + 1000 ∧ nk_S h2 ≤ nk_S h + 10000 := by
  obtain ⟨h1, pa', cp', el, W, ho, b1, b2⟩ := hc
  have S1 : St h1 (X + 23) s := ⟨W.2.2.1, W.2.2.2.1⟩
  obtain ⟨r, hr9, h2, em, m1, m2⟩ := hm h1 S1
  obtain ⟨W2, eo⟩ := W.finish m1 m2 (eq0_u s code)
  refine ⟨h2, ?_, W2, by rw [m1.2.2.2.1]; exact b1, by rw [m1.2.2.2.2.1]; exact b2⟩
  rw [el, do_s, rc19 S1.1]
  show nk_do (FM h1 (X + 23)) _ = _
  rw [show FM h1 (X + 23) = some (h2, r) from em, do_s, rc19 m2.1, w_thrown m2, do_s, u2_eq, if_pos rfl]
  by_cases hz : code = 0
  · have er : (if r = 0 then (0 : Int32) else 1) = b2i val := by rw [hr9 hz]; cases val <;> rfl
    rw [if_pos hz, rL_out W2.out, eo, ho hz, er, if_pos rfl]
  · rw [if_neg hz]
theorem kw_V {fL : Option (nk_H × Int32)} {FM : nk_H → Nat → Option (nk_H × Unit)} {α : Type} {cont bad : nk_H → Option (nk_H × α)} (B : BV h X s fL (fun h1 => FM h1 (X + 23))) :
    ∃ h2, nk_do fL (fun h3 x4 => (nk_rcv [19] h3 (some (X + 23))).bind fun a7 => nk_do (FM h3 a7) fun h8 x9 => (nk_rcv [19] h8 (some (X + 23))).bind fun a10 => nk_do (f_X12_thrown h8 a10) fun h11 x12 => (if x12 = x4 then cont h11 else bad h11)) = cont h2 ∧ WS h2 X ∧ nk_N h2 ≤ nk_N h + 1000 ∧ nk_S h2 ≤ nk_S h + 10000 := by
  obtain ⟨n', w', a', c', hr', s', s2, code, val, ⟨h1, pa', cp', el, W, ho, b1, b2⟩, hm, e, e0, -, -⟩ := B
  have S1 : St h1 (X + 23) s := ⟨W.2.2.1, W.2.2.2.1⟩
  obtain ⟨h2, em, m1, m2⟩ := hm h1 S1
  obtain ⟨W2, eo⟩ := W.finish m1 m2 e
  refine ⟨h2, ?_, W2, by rw [m1.2.2.2.1]; exact b1, by rw [m1.2.2.2.2.1]; exact b2⟩
  rw [el, do_s, rc19 S1.1]
  show nk_do (FM h1 (X + 23)) _ = _
  rw [show FM h1 (X + 23) = some (h2, ()) from em, do_s, rc19 m2.1, w_thrown m2, do_s, if_pos e0]
/-- a plain question -/
theorem kw_P (W : WR h X n w a c hr pa cp s s) {FL : nk_H → Nat → Option (nk_H × Int32)} {FM : nk_H → Nat → Option (nk_H × Int32)} {v : Int32} {α : Type} {cont bad : nk_H → Option (nk_H × α)} (eL : FL h X = some (h, v)) (hm : Ok h (X + 23) (nk_u2 s 0 0 0) v (FM h (X + 23))) :
    ∃ h2, ((nk_rcv [18] h (some X)).bind fun a205 => nk_do (FL h a205) fun h206 x207 => ((nk_rcv [19] h206 (some (X + 23))).bind fun a208 => nk_do (FM h206 a208) fun h209 x210 => (if x207 = x210 then cont h209 else bad h209))) = cont h2 ∧ WS h2 X ∧ nk_N h2 ≤ nk_N h + 1000 ∧ nk_S h2 ≤ nk_S h + 10000 := by
  obtain ⟨h2, em, m1, m2⟩ := hm
  obtain ⟨W2, eo⟩ := W.finish m1 m2 (eq0_u s 0)
  refine ⟨h2, ?_, W2, by rw [m1.2.2.2.1]; omega, by rw [m1.2.2.2.2.1]; omega⟩
  rw [rX W, eL, do_s, rc19 W.2.2.1, em, do_s, if_pos rfl]
end LC
