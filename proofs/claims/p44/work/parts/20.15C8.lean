/-! ===== the whole world: the class's objects, the reference, the law's array ===== -/
def OUT (h : nk_H) (X : Nat) : Prop := nk_K h (X + 56) = 6 ∧ nk_L h (X + 56) = 1
def WR (h : nk_H) (X n w a c hr : Nat) (pa cp : Nat → Nat) (s m : Nat → Nat → Int32) : Prop := CR h X n w a c hr pa cp s ∧ OW h X ∧ MR h (X + 23) ∧ nm h (X + 23) = m ∧ OUT h X ∧ Inv s n w a c hr
section WW
variable {h h' : nk_H} {X n w a c hr : Nat} {pa cp : Nat → Nat} {s s' m : Nat → Nat → Int32}
theorem CL.lt (H : CL h X n w c pa cp s) : ∀ l e, (l = X + 5 ∨ l = X + 7 ∨ l = X + 21 ∨ ∃ k, k < 6 ∧ l = X + 10 + 2 * k) → nk_P h l 1 = some e → e < nk_N h := by
  intro l e hl he
  obtain ⟨l1, l2, l3, l4⟩ := H
  have key : ∀ {l m : Nat} {el : Nat → Nat}, LSq h l m el → nk_P h l 1 = some e → e < nk_N h := fun L hp => by
    obtain ⟨-, -, -, e', h1, h2, -⟩ := L
    rw [hp] at h1
    cases h1
    exact h2
  rcases hl with rfl | rfl | rfl | ⟨k, hk, rfl⟩
  · exact key l1 he
  · exact key l2 he
  · exact key l4 he
  · exact key (l3 k hk) he
theorem OUT.gn {DI DP : Nat → Prop} (H : OUT h X) (G : Gn h h' DI DP) (hN : X + 57 ≤ nk_N h) : OUT h' X := by
  obtain ⟨g1, g2, -⟩ := G.2.2.2 (X + 56) (by omega)
  unfold OUT
  rw [g1, g2]; exact H
/-- new cells, or what is looked at -/
theorem WR.gn (H : WR h X n w a c hr pa cp s m) (G : Gn h h' (fun x => x = X + 6) no) : WR h' X n w a c hr pa cp s m := by
  obtain ⟨h1, h2, h3, h4, h5, h6⟩ := H
  have hN := h1.2.2.2.2.2.2.2
  obtain ⟨m1, m2⟩ := MR.gn h3 G (by omega) (fun x x1 x2 => ⟨by omega, id⟩)
  exact ⟨h1.gnS h6 (G.mono (fun x hx => Or.inl hx) (fun _ => id)), h2.gn G hN (fun _ _ _ => id) (CL.lt h1.2.2.2.2.2.1), m1, by rw [m2]; exact h4, h5.gn G hN, h6⟩
theorem WR.al (H : WR h X n w a c hr pa cp s m) (k nn ww : Nat) : WR (nk_al h k nn ww) X n w a c hr pa cp s m := H.gn (Gn_al h k nn ww _ _)
theorem WR.seen (H : WR h X n w a c hr pa cp s m) (S : SM X h h') : WR h' X n w a c hr pa cp s m := H.gn (S.gn _ _ rfl)
/-- the law's array is written -/
theorem WR.out (H : WR h X n w a c hr pa cp s m) (v : Int32) : WR (nk_sI h (X + 56) 0 v) X n w a c hr pa cp s m := by
  obtain ⟨h1, h2, h3, h4, h5, h6⟩ := H
  have hN := h1.2.2.2.2.2.2.2
  have G : Gn h (nk_sI h (X + 56) 0 v) (fun x => x = X + 56) no := Gn_sI h _ _ _ _ (Or.inl rfl)
  obtain ⟨m1, m2⟩ := MR.gn h3 G (by omega) (fun x x1 x2 => ⟨by omega, id⟩)
  exact ⟨h1.gnS h6 (G.mono (fun x hx => Or.inr (by omega)) (fun _ => id)), h2.gn G hN (fun _ _ _ => id) (CL.lt h1.2.2.2.2.2.1), m1, by rw [m2]; exact h4, h5.gn G hN, h6⟩
/-- what a method of the law's comes to: the code, the answer, the class's state; the reference's state not yet -/
def WOK (h : nk_H) (X : Nat) (m : Nat → Nat → Int32) (n' w' a' c' hr' : Nat) (s' : Nat → Nat → Int32) (code val : Int32) (f : Option (nk_H × Int32)) : Prop :=
  ∃ h' pa' cp', f = some (h', code) ∧ WR h' X n' w' a' c' hr' pa' cp' s' m ∧ (code = 0 → nk_I h' (X + 56) 0 = val) ∧ nk_N h' ≤ nk_N h + 1000 ∧ nk_S h' ≤ nk_S h + 10000
/-- what a method of the class comes to -/
def VOK {α : Type} (h : nk_H) (X : Nat) (m : Nat → Nat → Int32) (n' w' a' c' hr' : Nat) (s' : Nat → Nat → Int32) (r : α) (f : Option (nk_H × α)) : Prop :=
  ∃ h' pa' cp', f = some (h', r) ∧ WR h' X n' w' a' c' hr' pa' cp' s' m ∧ nk_N h' ≤ nk_N h + 900 ∧ nk_S h' ≤ nk_S h + 9000
theorem VOK.thrown (H : WR h X n w a c hr pa cp s m) {α : Type} (r : α) : VOK h X m n w a c hr s r (some (nk_al h 0 0 6, r)) := ⟨_, pa, cp, rfl, H.al 0 0 6, by rw [nk_N_al]; omega, by rw [nk_S_al]; omega⟩
theorem VOK.here (H : WR h X n w a c hr pa cp s m) {α : Type} (r : α) : VOK h X m n w a c hr s r (some (h, r)) := ⟨h, pa, cp, rfl, H, by omega, by omega⟩
theorem wl_out (H : OUT h X) (v : Int32) {α : Type} (K : nk_H → Option (nk_H × α)) : (nk_wL h (some (X + 56)) 0 v).bind K = K (nk_sI h (X + 56) 0 v) := by
  have : (0 : Int32).toNatClampNeg = 0 := by decide
  simp [nk_wL, H.1, H.2, this]
/-- the law's methods around the class's -/
theorem wok_I {hs : nk_Hs} {f : Option (nk_H × (Int32 ⊕ String))} {n' w' a' c' hr' : Nat} {v : Int32} (H : VOK h X m n' w' a' c' hr' s' (.inl v) f) : WOK h X m n' w' a' c' hr' s' 0 v (nk_try hs f fun h2 x => (nk_wL h2 (some (X + 56)) 0 x).bind fun h4 => some (h4, 0)) := by
  obtain ⟨h1, pa', cp', e, W, b1, b2⟩ := H
  rw [e]
  show WOK h X m n' w' a' c' hr' s' 0 v ((nk_wL h1 (some (X + 56)) 0 v).bind fun h4 => some (h4, 0))
  rw [wl_out W.2.2.2.2.1]
  exact ⟨_, pa', cp', rfl, W.out v, fun _ => by rw [nk_I_sI, nk_u2_eq], by rw [nk_N_sI]; omega, by rw [nk_S_sI]; omega⟩
theorem wok_Z {hs : nk_Hs} {f : Option (nk_H × (Int32 ⊕ String))} {n' w' a' c' hr' : Nat} {b : Bool} (H : VOK h X m n' w' a' c' hr' s' (.inl (b2i b)) f) : WOK h X m n' w' a' c' hr' s' 0 (b2i b) (nk_try hs f fun h2 x => (nk_wL h2 (some (X + 56)) 0 (if x = 0 then 0 else 1)).bind fun h4 => some (h4, 0)) := by
  obtain ⟨h1, pa', cp', e, W, b1, b2⟩ := H
  rw [e]
  show WOK h X m n' w' a' c' hr' s' 0 (b2i b) ((nk_wL h1 (some (X + 56)) 0 (if b2i b = 0 then 0 else 1)).bind fun h4 => some (h4, 0))
  have eb : (if b2i b = 0 then (0 : Int32) else 1) = b2i b := by cases b <;> rfl
  rw [eb, wl_out W.2.2.2.2.1]
  exact ⟨_, pa', cp', rfl, W.out _, fun _ => by rw [nk_I_sI, nk_u2_eq], by rw [nk_N_sI]; omega, by rw [nk_S_sI]; omega⟩
theorem wok_V {hs : nk_Hs} {f : Option (nk_H × (Unit ⊕ String))} {n' w' a' c' hr' : Nat} (H : VOK h X m n' w' a' c' hr' s' (.inl ()) f) : WOK h X m n' w' a' c' hr' s' 0 (nk_I (f.map Prod.fst |>.getD h) (X + 56) 0) (nk_try hs f fun h2 _ => some (h2, 0)) := by
  obtain ⟨h1, pa', cp', e, W, b1, b2⟩ := H
  rw [e]
  exact ⟨h1, pa', cp', rfl, W, fun _ => rfl, by omega, by omega⟩
theorem wok_X {γ : Type} {hs : nk_Hs} {f : Option (nk_H × (γ ⊕ String))} {n' w' a' c' hr' : Nat} {E : String} {k : Nat} {K : nk_H → γ → Option (nk_H × Int32)} {val : Int32} (H : VOK h X m n' w' a' c' hr' s' (.inr E) f) (hk : nk_kx hs 1 E = some k) (hk0 : Int32.ofInt k ≠ 0) : WOK h X m n' w' a' c' hr' s' (Int32.ofInt k) val (nk_try hs f K) := by
  obtain ⟨h1, pa', cp', e, W, b1, b2⟩ := H
  rw [e]
  refine ⟨h1, pa', cp', ?_, W, fun e => absurd e hk0, by omega, by omega⟩
  show (nk_kx hs 1 E).map (fun n => (h1, Int32.ofInt (n : Int))) = _
  rw [hk]; rfl
end WW
