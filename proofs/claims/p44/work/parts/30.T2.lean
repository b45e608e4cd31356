/-! ===== a call on one of two objects: what its ghost tells ===== -/
section TT
theorem kx_in {hs : nk_Hs} {n : Nat} {E : String} {r : Nat} (e : nk_kx hs n E = some r) : n ≤ r ∧ r < n + hs.length ∧ E ∈ hs.map Prod.snd := by
  obtain ⟨pre, z, suf, h1, h2, -, h4⟩ := nk_kx_spec hs n E r e
  refine ⟨by omega, ?_, ?_⟩
  · rw [h1, List.length_append, List.length_cons]; omega
  · rw [h1]
    exact List.mem_map.mpr ⟨z, List.mem_append.mpr (Or.inr List.mem_cons_self), h2⟩
theorem kx_ne {hs : nk_Hs} (hl : hs.length ≤ 3) {E : String} {k : Nat} (e : nk_kx hs 1 E = some k) : Int32.ofInt (k : Int) ≠ 0 := by
  obtain ⟨h1, h2, -⟩ := kx_in e
  have : k = 1 ∨ k = 2 ∨ k = 3 := by omega
  rcases this with rfl | rfl | rfl <;> decide
theorem nm_0 (h : nk_H) (M : Nat) {j : Nat} (hj : j ≠ 0) : nm h M 0 j = 0 := by
  unfold nm
  rw [if_pos (by decide), if_neg hj]
theorem eq0_back {m s2 : Nat → Nat → Int32} (e : eq0 m s2) (z : m 0 0 = 0) (f : ∀ j, j ≠ 0 → m 0 j = 0) (f2 : ∀ j, j ≠ 0 → s2 0 j = 0) : nk_u2 s2 0 0 0 = m := by
  funext k j
  by_cases hk : k = 0
  · subst hk
    by_cases hj : j = 0
    · subst hj; rw [u2_eq, z]
    · rw [u2_j _ _ _ _ _ hj, f j hj, f2 j hj]
  · rw [u2_k _ _ _ _ _ hk, e k j hk]
theorem gr_fin {g1 g2 : nk_H} {n w a c hr : Nat} {pa cp : Nat → Nat} {s' s2 mm : Nat → Nat → Int32} (W : WR g1 gX n w a c hr pa cp s' mm) (a1 : MO g1 (gX + 23) g2) (b : St g2 (gX + 23) s2) (e : eq0 s' s2) : ∃ g3, MO g1 (gX + 23) g3 ∧ WS g3 gX ∧ nm g3 (gX + 23) = nk_u2 s2 0 0 0 := by
  have m3 : MO g2 (gX + 23) (nk_sI g2 (gX + 23) 0 0) := MO_fi g2 (gX + 23) 0 0
  have S3 : St (nk_sI g2 (gX + 23) 0 0) (gX + 23) (nk_u2 s2 0 0 0) := ⟨b.1, by rw [nm_pI g2 (gX + 23) 0 0 (by decide), b.2]⟩
  have e3 : eq0 s' (nk_u2 s2 0 0 0) := fun k j hk => by rw [u2_k _ _ _ _ _ hk]; exact e k j hk
  obtain ⟨W3, -⟩ := W.finish (a1.trans m3) S3 e3
  exact ⟨_, a1.trans m3, W3, S3.2⟩
theorem GS.of {gA gB g3 : nk_H} (h1 : gB = gA ∨ ∃ v, gB = nk_sI gA (gX + 56) 0 v) (a : MO gB (gX + 23) g3) : GS gA g3 := by
  obtain ⟨a1, a2, a3, a4, a5, a6, a7, a8⟩ := a
  rcases h1 with rfl | ⟨v, rfl⟩
  · exact ⟨a1, a2, a3, a4, a6, fun b hb => a8 b (by omega)⟩
  · exact ⟨a1, a2, a3, a4, a6, fun b hb => (a8 b (by omega)).trans (by funext j; exact nk_u2_ne _ _ _ _ j (by omega))⟩
theorem wL_inv {g gB : nk_H} {v code : Int32} (e : ((nk_wL g (some (gX + 56)) 0 v).bind fun h4 => some (h4, (0 : Int32))) = some (gB, code)) : code = 0 ∧ gB = nk_sI g (gX + 56) 0 v := by
  unfold nk_wL at e
  rw [Option.bind_some] at e
  split at e
  · have z : (0 : Int32).toNatClampNeg = 0 := by decide
    rw [z] at e
    cases e
    exact ⟨rfl, rfl⟩
  · cases e
theorem try_I {hs : nk_Hs} {f : Option (nk_H × (Int32 ⊕ String))} {gB : nk_H} {code : Int32} (e : (nk_try hs f fun h2 x3 => ((nk_wL h2 (some (gX + 56)) 0 x3).bind fun h4 => some (h4, 0))) = some (gB, code)) :
    (∃ gA v, f = some (gA, .inl v) ∧ code = 0 ∧ gB = nk_sI gA (gX + 56) 0 v) ∨ ∃ gA E k, f = some (gA, .inr E) ∧ nk_kx hs 1 E = some k ∧ code = Int32.ofInt (k : Int) ∧ gB = gA := by
  cases f with
  | none => cases e
  | some z =>
    obtain ⟨gA, r⟩ := z
    cases r with
    | inl v =>
      obtain ⟨h1, h2⟩ := wL_inv (g := gA) (v := v) e
      exact Or.inl ⟨gA, v, rfl, h1, h2⟩
    | inr E =>
      have e2 : (nk_kx hs 1 E).map (fun n => (gA, Int32.ofInt (n : Int))) = some (gB, code) := e
      cases hk : nk_kx hs 1 E with
      | none => rw [hk] at e2; cases e2
      | some k =>
        rw [hk] at e2
        cases e2
        exact Or.inr ⟨_, E, k, rfl, hk, rfl, rfl⟩
theorem try_Z {hs : nk_Hs} {f : Option (nk_H × (Int32 ⊕ String))} {gB : nk_H} {code : Int32} (e : (nk_try hs f fun h2 x3 => ((nk_wL h2 (some (gX + 56)) 0 (if x3 = 0 then 0 else 1)).bind fun h4 => some (h4, 0))) = some (gB, code)) :
    (∃ gA v, f = some (gA, .inl v) ∧ code = 0 ∧ gB = nk_sI gA (gX + 56) 0 (if v = 0 then 0 else 1)) ∨ ∃ gA E k, f = some (gA, .inr E) ∧ nk_kx hs 1 E = some k ∧ code = Int32.ofInt (k : Int) ∧ gB = gA := by
  cases f with
  | none => cases e
  | some z =>
    obtain ⟨gA, r⟩ := z
    cases r with
    | inl v =>
      obtain ⟨h1, h2⟩ := wL_inv (g := gA) (v := if v = 0 then 0 else 1) e
      exact Or.inl ⟨gA, v, rfl, h1, h2⟩
    | inr E =>
      have e2 : (nk_kx hs 1 E).map (fun n => (gA, Int32.ofInt (n : Int))) = some (gB, code) := e
      cases hk : nk_kx hs 1 E with
      | none => rw [hk] at e2; cases e2
      | some k =>
        rw [hk] at e2
        cases e2
        exact Or.inr ⟨_, E, k, rfl, hk, rfl, rfl⟩
theorem try_V {hs : nk_Hs} {f : Option (nk_H × (Unit ⊕ String))} {gB : nk_H} {code : Int32} (e : (nk_try hs f fun h2 _ => some (h2, 0)) = some (gB, code)) :
    (f = some (gB, .inl ()) ∧ code = 0) ∨ ∃ E k, f = some (gB, .inr E) ∧ nk_kx hs 1 E = some k ∧ code = Int32.ofInt (k : Int) := by
  cases f with
  | none => cases e
  | some z =>
    obtain ⟨gA, r⟩ := z
    cases r with
    | inl v => cases e; exact Or.inl ⟨rfl, rfl⟩
    | inr E =>
      have e2 : (nk_kx hs 1 E).map (fun n => (gA, Int32.ofInt (n : Int))) = some (gB, code) := e
      cases hk : nk_kx hs 1 E with
      | none => rw [hk] at e2; cases e2
      | some k =>
        rw [hk] at e2
        cases e2
        exact Or.inr ⟨E, k, rfl, hk, rfl⟩
/-- what the reference comes to, from a state -/
def BX (m : Nat → Nat → Int32) (fM : nk_H → Option (nk_H × Int32)) (s2 : Nat → Nat → Int32) (code val : Int32) : Prop := (∃ h1, St h1 (gX + 23) m) ∧ (∀ h1, St h1 (gX + 23) m → ∃ r, (code = 0 → r = val) ∧ Ok h1 (gX + 23) s2 r (fM h1)) ∧ s2 0 0 = code
theorem BX.uniq {m s2 s2' : Nat → Nat → Int32} {fM : nk_H → Option (nk_H × Int32)} {code code' val val' : Int32} (A : BX m fM s2 code val) (B : BX m fM s2' code' val') : s2 = s2' ∧ code = code' ∧ (code = 0 → val = val') := by
  obtain ⟨⟨h1, S1⟩, a2, a3⟩ := A
  obtain ⟨-, b2, b3⟩ := B
  obtain ⟨r, ra, h2, e, -, S2⟩ := a2 h1 S1
  obtain ⟨r', rb, h2', e', -, S2'⟩ := b2 h1 S1
  rw [e] at e'
  cases e'
  have es : s2 = s2' := S2.2.symm.trans S2'.2
  have ec : code = code' := by rw [← a3, ← b3, es]
  exact ⟨es, ec, fun z => (ra z).symm.trans (rb (ec.symm.trans z))⟩
theorem BX.form {m s2 : Nat → Nat → Int32} {fM : nk_H → Option (nk_H × Int32)} {code val : Int32} (A : BX m fM s2 code val) : ∀ j, j ≠ 0 → s2 0 j = 0 := by
  obtain ⟨⟨h1, S1⟩, a2, a3⟩ := A
  obtain ⟨r, ra, h2, e, -, S2⟩ := a2 h1 S1
  intro j hj
  rw [← S2.2]
  exact nm_0 _ _ hj
theorem NX.n0 {s : Nat → Nat → Int32} (N : NX s) : NX (nk_u2 s 0 0 0) := NX.of (eq0_u s 0) (fun _ _ => rfl) N
variable {h : nk_H} {x y : Nat} {m m' : Nat → Nat → Int32}
theorem TW.gh (T : TW h x y m m') : ∃ g, WS g gX ∧ nm g (gX + 23) = m := by
  obtain ⟨-, ix, iy, ⟨ρ, D, g, o1, o2, o3, o4, o5, o6, o7, o8, o9, o10⟩, -, -⟩ := T
  exact ⟨g, o8, o9⟩
theorem WS.st {g : nk_H} (W : WS g gX) (e : nm g (gX + 23) = m) : St g (gX + 23) m := by
  obtain ⟨_, _, _, _, _, _, _, W⟩ := W
  exact ⟨W.2.2.1, e⟩
/-- how a call ended -/
def EN {γ : Type} (hs : nk_Hs) (code : Int32) (v : γ) (r : γ ⊕ String) : Prop := (code = 0 ∧ r = .inl v) ∨ (code ≠ 0 ∧ ∃ E, E ∈ hs.map Prod.snd ∧ r = .inr E)
theorem op_I {hs : nk_Hs} (hl : hs.length ≤ 3) (T : TW h x y m m') {f : nk_H → Nat → Option (nk_H × (Int32 ⊕ String))} {fM : nk_H → Option (nk_H × Int32)}
    (nat : ∀ {ρ : Nat → Nat} {D F : Nat → Prop} {h0 : nk_H} {u v : Nat} {g h : nk_H}, nt_R ρ D F h0 u v h g → ∀ {a b : Nat}, nt_A ρ D (nk_N g) a b → nt_F ρ D F h0 u v (nk_N g) nt_q (f g a) (f h b))
    (B : ∀ g, WS g gX → nm g (gX + 23) = m → BI g gX m (nk_try hs (f g gX) fun h2 x3 => ((nk_wL h2 (some (gX + 56)) 0 x3).bind fun h4 => some (h4, 0))) fM) :
    ∃ s2 code val, BX m fM s2 code val ∧ ((code ≠ 0 → nk_u2 s2 0 0 0 = m) ∧ (code = 0 → ¬ val < 0)) ∧ ∃ h1 r, f h x = some (h1, r) ∧ EN hs code val r ∧ TW h1 x y (nk_u2 s2 0 0 0) m' ∧ nk_N h1 ≤ nk_N h + 1000 ∧ nk_S h1 ≤ nk_S h + 10000 := by
  obtain ⟨g0, w0, e0⟩ := T.gh
  obtain ⟨n', w', a', c', hr', s', s2, code, val, -, hm, -, ec, er, jx⟩ := B g0 w0 e0
  have X0 : BX m fM s2 code val := ⟨⟨g0, w0.st e0⟩, hm, ec⟩
  refine ⟨s2, code, val, X0, ⟨fun hc => eq0_back (er hc) T.1.2.1.1 (fun j hj => by rw [← e0]; exact nm_0 _ _ hj) X0.form, (jx T.1.2.1.2).2⟩, tw_run T ⟨u2_eq _ _ _ _, (jx T.1.2.1.2).1.n0⟩ nat (fun g wg eg => ?_)⟩
  obtain ⟨n2, w2, a2, c2, hr2, s9, s22, code2, val2, ⟨gB, pa2, cp2, eL, W2, ho, b1, b2⟩, hm2, e2, ec2, -, -⟩ := B g wg eg
  obtain ⟨u1, u2, u3⟩ := X0.uniq ⟨⟨g, wg.st eg⟩, hm2, ec2⟩
  subst u1
  subst u2
  obtain ⟨r0, -, g2, -, mo2, st2⟩ := hm2 gB ⟨W2.2.2.1, W2.2.2.2.1⟩
  obtain ⟨g3, mo3, W3, nm3⟩ := gr_fin W2 mo2 st2 e2
  rcases try_I eL with ⟨gA, v, ef, hc, hb⟩ | ⟨gA, E, k, ef, hk, hc, hb⟩
  · have ev : v = val := by
      have := ho hc
      rw [hb, nk_I_sI, nk_u2_eq] at this
      rw [this, u3 hc]
    refine ⟨gA, .inl v, g3, ef, Or.inl ⟨hc, by rw [ev]⟩, ?_, ?_, GS.of (Or.inr ⟨v, hb⟩) mo3, W3, nm3⟩
    · rw [hb, nk_N_sI] at b1; exact b1
    · rw [hb, nk_S_sI] at b2; exact b2
  · refine ⟨gA, .inr E, g3, ef, Or.inr ⟨by rw [hc]; exact kx_ne hl hk, E, (kx_in hk).2.2, rfl⟩, ?_, ?_, GS.of (Or.inl hb) mo3, W3, nm3⟩
    · rw [hb] at b1; exact b1
    · rw [hb] at b2; exact b2
/-- a call without an answer: the reference's with 0 -/
def fv (fM : nk_H → Option (nk_H × Unit)) : nk_H → Option (nk_H × Int32) := fun h => (fM h).map fun z => (z.1, 0)
theorem fv_ok {h1 : nk_H} {s2 : Nat → Nat → Int32} {fM : nk_H → Option (nk_H × Unit)} (H : Ok h1 (gX + 23) s2 () (fM h1)) : Ok h1 (gX + 23) s2 0 (fv fM h1) := by
  obtain ⟨h2, e, a, b⟩ := H
  exact ⟨h2, by unfold fv; rw [e]; rfl, a, b⟩
theorem op_V {hs : nk_Hs} (hl : hs.length ≤ 3) (T : TW h x y m m') {f : nk_H → Nat → Option (nk_H × (Unit ⊕ String))} {fM : nk_H → Option (nk_H × Unit)}
    (nat : ∀ {ρ : Nat → Nat} {D F : Nat → Prop} {h0 : nk_H} {u v : Nat} {g h : nk_H}, nt_R ρ D F h0 u v h g → ∀ {a b : Nat}, nt_A ρ D (nk_N g) a b → nt_F ρ D F h0 u v (nk_N g) nt_q (f g a) (f h b))
    (B : ∀ g, WS g gX → nm g (gX + 23) = m → BV g gX m (nk_try hs (f g gX) fun h2 _ => some (h2, 0)) fM) :
    ∃ s2 code, BX m (fv fM) s2 code 0 ∧ (code ≠ 0 → nk_u2 s2 0 0 0 = m) ∧ ∃ h1 r, f h x = some (h1, r) ∧ EN hs code () r ∧ TW h1 x y (nk_u2 s2 0 0 0) m' ∧ nk_N h1 ≤ nk_N h + 1000 ∧ nk_S h1 ≤ nk_S h + 10000 := by
  obtain ⟨g0, w0, e0⟩ := T.gh
  obtain ⟨n', w', a', c', hr', s', s2, code, val, -, hm, -, ec, er, jx⟩ := B g0 w0 e0
  have X0 : BX m (fv fM) s2 code 0 := ⟨⟨g0, w0.st e0⟩, fun h1 H1 => ⟨0, fun _ => rfl, fv_ok (hm h1 H1)⟩, ec⟩
  refine ⟨s2, code, X0, fun hc => eq0_back (er hc) T.1.2.1.1 (fun j hj => by rw [← e0]; exact nm_0 _ _ hj) X0.form, tw_run T ⟨u2_eq _ _ _ _, (jx T.1.2.1.2).1.n0⟩ nat (fun g wg eg => ?_)⟩
  obtain ⟨n2, w2, a2, c2, hr2, s9, s22, code2, val2, ⟨gB, pa2, cp2, eL, W2, ho, b1, b2⟩, hm2, e2, ec2, -, -⟩ := B g wg eg
  obtain ⟨u1, u2, u3⟩ := X0.uniq (val' := 0) ⟨⟨g, wg.st eg⟩, fun h1 H1 => ⟨0, fun _ => rfl, fv_ok (hm2 h1 H1)⟩, ec2⟩
  subst u1
  subst u2
  obtain ⟨g2, -, mo2, st2⟩ := hm2 gB ⟨W2.2.2.1, W2.2.2.2.1⟩
  obtain ⟨g3, mo3, W3, nm3⟩ := gr_fin W2 mo2 st2 e2
  rcases try_V eL with ⟨ef, hc⟩ | ⟨E, k, ef, hk, hc⟩
  · exact ⟨gB, .inl (), g3, ef, Or.inl ⟨hc, rfl⟩, b1, b2, GS.of (Or.inl rfl) mo3, W3, nm3⟩
  · exact ⟨gB, .inr E, g3, ef, Or.inr ⟨by rw [hc]; exact kx_ne hl hk, E, (kx_in hk).2.2, rfl⟩, b1, b2, GS.of (Or.inl rfl) mo3, W3, nm3⟩
/-- the invariant's numbers are the state's -/
theorem Inv.uniq {s : Nat → Nat → Int32} {n w a c hr n' w' a' c' hr' : Nat} (A : Inv s n w a c hr) (B : Inv s n' w' a' c' hr') : n = n' ∧ w = w' ∧ a = a' ∧ c = c' ∧ hr = hr' := by
  obtain ⟨a1, a2, a3, a4, a5, a6, a7, a8, a9, a10, a11⟩ := A.1
  obtain ⟨b1, b2, b3, b4, b5, b6, b7, b8, b9, b10, b11⟩ := B.1
  exact ⟨(ia_eq (by omega) (by omega)).mp (a1.symm.trans b1), (ia_eq (by omega) (by omega)).mp (a3.symm.trans b3), (ia_eq (by omega) (by omega)).mp (a6.symm.trans b6), (ia_eq (by omega) (by omega)).mp (a8.symm.trans b8), (ia_eq (by omega) (by omega)).mp (a10.symm.trans b10)⟩
theorem WS.wr {g : nk_H} {n w a c hr : Nat} (I : Inv m n w a c hr) (W : WS g gX) (e : nm g (gX + 23) = m) : ∃ pa cp, WR g gX n w a c hr pa cp m m := by
  obtain ⟨n2, w2, a2, c2, hr2, pa, cp, W⟩ := W
  rw [e] at W
  obtain ⟨rfl, rfl, rfl, rfl, rfl⟩ := I.uniq W.I
  exact ⟨pa, cp, W⟩
theorem WR.ws {g : nk_H} {n w a c hr : Nat} {pa cp : Nat → Nat} (W : WR g gX n w a c hr pa cp m m) : WS g gX ∧ nm g (gX + 23) = m := by
  have e := W.2.2.2.1
  refine ⟨⟨n, w, a, c, hr, pa, cp, ?_⟩, e⟩
  rw [e]; exact W
theorem op_Q {hs : nk_Hs} (hl : hs.length ≤ 3) (T : TW h x y m m') {f : nk_H → Nat → Option (nk_H × (Int32 ⊕ String))} {n w a c hr : Nat} (I : Inv m n w a c hr) {code val : Int32}
    (nat : ∀ {ρ : Nat → Nat} {D F : Nat → Prop} {h0 : nk_H} {u v : Nat} {g h : nk_H}, nt_R ρ D F h0 u v h g → ∀ {a b : Nat}, nt_A ρ D (nk_N g) a b → nt_F ρ D F h0 u v (nk_N g) nt_q (f g a) (f h b))
    (B : ∀ g pa cp, WR g gX n w a c hr pa cp m m → WOK g gX m n w a c hr m code val (nk_try hs (f g gX) fun h2 x3 => ((nk_wL h2 (some (gX + 56)) 0 x3).bind fun h4 => some (h4, 0)))) :
    ∃ h1 r, f h x = some (h1, r) ∧ EN hs code val r ∧ TW h1 x y m m' ∧ nk_N h1 ≤ nk_N h + 1000 ∧ nk_S h1 ≤ nk_S h + 10000 := by
  refine tw_run T T.1.2.1 nat (fun g wg eg => ?_)
  obtain ⟨pa, cp, W⟩ := wg.wr I eg
  obtain ⟨gB, pa2, cp2, eL, W2, ho, b1, b2⟩ := B g pa cp W
  obtain ⟨wB, nB⟩ := W2.ws
  rcases try_I eL with ⟨gA, v, ef, hc, hb⟩ | ⟨gA, E, k, ef, hk, hc, hb⟩
  · have ev : v = val := by
      have := ho hc
      rw [hb, nk_I_sI, nk_u2_eq] at this
      exact this
    refine ⟨gA, .inl v, gB, ef, Or.inl ⟨hc, by rw [ev]⟩, ?_, ?_, GS.of (Or.inr ⟨v, hb⟩) (MO.refl _ _), wB, nB⟩
    · rw [hb, nk_N_sI] at b1; exact b1
    · rw [hb, nk_S_sI] at b2; exact b2
  · refine ⟨gA, .inr E, gB, ef, Or.inr ⟨by rw [hc]; exact kx_ne hl hk, E, (kx_in hk).2.2, rfl⟩, ?_, ?_, GS.of (Or.inl hb) (MO.refl _ _), wB, nB⟩
    · rw [hb] at b1; exact b1
    · rw [hb] at b2; exact b2
/-- an answer that is 0 or 1 -/
def P01 (r : Int32 ⊕ String) : Prop := ∀ v, r = .inl v → v = 0 ∨ v = 1
theorem op_QZ {hs : nk_Hs} (hl : hs.length ≤ 3) (T : TW h x y m m') {f : nk_H → Nat → Option (nk_H × (Int32 ⊕ String))} {n w a c hr : Nat} (I : Inv m n w a c hr) {code : Int32} {val : Bool}
    (nat : ∀ {ρ : Nat → Nat} {D F : Nat → Prop} {h0 : nk_H} {u v : Nat} {g h : nk_H}, nt_R ρ D F h0 u v h g → ∀ {a b : Nat}, nt_A ρ D (nk_N g) a b → nt_F ρ D F h0 u v (nk_N g) nt_q (f g a) (f h b))
    (pz : ∀ g g1 r, f g gX = some (g1, r) → P01 r)
    (B : ∀ g pa cp, WR g gX n w a c hr pa cp m m → WOK g gX m n w a c hr m code (b2i val) (nk_try hs (f g gX) fun h2 x3 => ((nk_wL h2 (some (gX + 56)) 0 (if x3 = 0 then 0 else 1)).bind fun h4 => some (h4, 0)))) :
    ∃ h1 r, f h x = some (h1, r) ∧ EN hs code (b2i val) r ∧ TW h1 x y m m' ∧ nk_N h1 ≤ nk_N h + 1000 ∧ nk_S h1 ≤ nk_S h + 10000 := by
  refine tw_run T T.1.2.1 nat (fun g wg eg => ?_)
  obtain ⟨pa, cp, W⟩ := wg.wr I eg
  obtain ⟨gB, pa2, cp2, eL, W2, ho, b1, b2⟩ := B g pa cp W
  obtain ⟨wB, nB⟩ := W2.ws
  rcases try_Z eL with ⟨gA, v, ef, hc, hb⟩ | ⟨gA, E, k, ef, hk, hc, hb⟩
  · have ev : v = b2i val := by
      have e1 := ho hc
      rw [hb, nk_I_sI, nk_u2_eq] at e1
      rw [← e1]
      rcases pz g gA _ ef v rfl with rfl | rfl <;> rfl
    refine ⟨gA, .inl v, gB, ef, Or.inl ⟨hc, by rw [ev]⟩, ?_, ?_, GS.of (Or.inr ⟨_, hb⟩) (MO.refl _ _), wB, nB⟩
    · rw [hb, nk_N_sI] at b1; exact b1
    · rw [hb, nk_S_sI] at b2; exact b2
  · refine ⟨gA, .inr E, gB, ef, Or.inr ⟨by rw [hc]; exact kx_ne hl hk, E, (kx_in hk).2.2, rfl⟩, ?_, ?_, GS.of (Or.inl hb) (MO.refl _ _), wB, nB⟩
    · rw [hb] at b1; exact b1
    · rw [hb] at b2; exact b2
theorem op_P (T : TW h x y m m') {f : nk_H → Nat → Option (nk_H × Int32)} {n w a c hr : Nat} (I : Inv m n w a c hr) {val : Int32}
    (nat : ∀ {ρ : Nat → Nat} {D F : Nat → Prop} {h0 : nk_H} {u v : Nat} {g h : nk_H}, nt_R ρ D F h0 u v h g → ∀ {a b : Nat}, nt_A ρ D (nk_N g) a b → nt_F ρ D F h0 u v (nk_N g) nt_q (f g a) (f h b))
    (B : ∀ g pa cp, WR g gX n w a c hr pa cp m m → f g gX = some (g, val)) :
    ∃ h1, f h x = some (h1, val) ∧ TW h1 x y m m' ∧ nk_N h1 ≤ nk_N h + 0 ∧ nk_S h1 ≤ nk_S h + 0 := by
  obtain ⟨h1, r, e, q, T1, b1, b2⟩ := tw_run (Q := fun r => r = val) (bN := 0) (bS := 0) T T.1.2.1 nat (fun g wg eg => by
    obtain ⟨pa, cp, W⟩ := wg.wr I eg
    exact ⟨g, val, g, B g pa cp W, rfl, by omega, by omega, ⟨rfl, rfl, rfl, rfl, rfl, fun _ _ => rfl⟩, wg, eg⟩)
  subst q
  exact ⟨h1, e, T1, b1, b2⟩
/-- the value is 0 or 1 at the end -/
theorem pz_bind {β : Type} {o : Option β} {K : β → Option (nk_H × (Int32 ⊕ String))} (k : ∀ b g1 r, K b = some (g1, r) → P01 r) : ∀ g1 r, o.bind K = some (g1, r) → P01 r := fun g1 r e => by
  cases o with
  | none => cases e
  | some b => exact k b g1 r e
theorem pz_do {β : Type} {o : Option (nk_H × β)} {K : nk_H → β → Option (nk_H × (Int32 ⊕ String))} (k : ∀ h b g1 r, K h b = some (g1, r) → P01 r) : ∀ g1 r, nk_do o K = some (g1, r) → P01 r := fun g1 r e => by
  cases o with
  | none => cases e
  | some b => exact k b.1 b.2 g1 r e
theorem pz_dt {β : Type} {o : Option (nk_H × (β ⊕ String))} {K : nk_H → β → Option (nk_H × (Int32 ⊕ String))} (k : ∀ h b g1 r, K h b = some (g1, r) → P01 r) : ∀ g1 r, nk_dt o K = some (g1, r) → P01 r := fun g1 r e => by
  cases o with
  | none => cases e
  | some b =>
    obtain ⟨h, b⟩ := b
    cases b with
    | inl v => exact k h v g1 r e
    | inr E => cases e; intro v hv; cases hv
theorem pz_zr {h : nk_H} {v : Int32} : ∀ g1 r, nk_zr v (h, (Sum.inl v : Int32 ⊕ String)) = some (g1, r) → P01 r := fun g1 r e => by
  unfold nk_zr at e
  split at e
  · rename_i hv
    cases e
    intro u hu
    cases hu
    have : vp_nar .boolean v = 0 ∨ vp_nar .boolean v = 1 := by
      rw [show vp_nar .boolean v = v &&& 1 from rfl]
      have h1 : ∀ z : Int32, z &&& 1 = 0 ∨ z &&& 1 = 1 := fun z => by
        by_cases q : gb z 0 = true
        · right
          refine gb_ext (fun k hk => ?_)
          rw [gb_and, gb_one k hk]
          by_cases k0 : k = 0
          · subst k0; rw [q]; rfl
          · rw [decide_eq_false k0, Bool.and_false]
        · left
          refine gb_ext (fun k hk => ?_)
          rw [gb_and, gb_one k hk, gb_0]
          by_cases k0 : k = 0
          · subst k0; simp at q; rw [q]; rfl
          · rw [decide_eq_false k0, Bool.and_false]
      exact h1 v
    rw [hv] at this
    exact this
  · cases e
end TT
