/-! ===== the law's small methods: what they do depends on the object's state alone ===== -/
section U1
def lowS (v n : Int32) : Int32 := (v &&& 2147483647) - (v &&& 2147483647) / n * n
theorem ia_div {A k : Nat} (hA : A < 2147483648) (hk : k < 2147483648) : Int32.ofNat A / Int32.ofNat k = Int32.ofNat (A / k) := by
  have hl : A / k < 2147483648 := Nat.lt_of_le_of_lt (Nat.div_le_self A k) hA
  rw [← Int32.toInt_inj, Int32.toInt_div, ia_ti hA, ia_ti hk, ia_ti hl, ← Int.ofNat_tdiv]
  generalize A / k = q at hl ⊢
  rw [Int.bmod_eq_of_le] <;> omega
theorem ia_mod {A k : Nat} (hA : A < 2147483648) (hk : k < 2147483648) : Int32.ofNat A - Int32.ofNat A / Int32.ofNat k * Int32.ofNat k = Int32.ofNat (A % k) := by
  rw [ia_div hA hk, ia_mul, ia_sub (Nat.div_mul_le_self A k)]
  congr 1
  have := Nat.div_add_mod A k
  rw [Nat.mul_comm] at this
  omega
theorem low_nn (v : Int32) : ¬ (v &&& 2147483647) < 0 := by
  rw [Int32.lt_iff_toInt_lt]
  have h1 : (v &&& 2147483647).toBitVec.msb = false := by
    rw [Int32.toBitVec_and, BitVec.msb_and]
    have : (2147483647 : Int32).toBitVec.msb = false := by decide
    rw [this, Bool.and_false]
  have h2 : (v &&& 2147483647).toInt = (v &&& 2147483647).toBitVec.toInt := rfl
  rw [h2]
  have h3 := BitVec.msb_eq_toInt (x := (v &&& 2147483647).toBitVec)
  rw [h1] at h3
  have h4 := of_decide_eq_false h3.symm
  have h5 : (0 : Int32).toInt = 0 := by decide
  rw [h5]
  exact h4
theorem low_ex (v : Int32) {n : Int32} {k : Nat} (en : n = Int32.ofNat k) (h0 : 0 < k) (hk : k < 2147483648) : ∃ j, j < k ∧ lowS v n = Int32.ofNat j := by
  have e := ia_of (low_nn v)
  have hA : (v &&& 2147483647).toNatClampNeg < 2147483648 := by
    have h1 : (v &&& 2147483647).toInt < 2147483648 := by simpa using Int32.toInt_lt (v &&& 2147483647)
    have hn : (v &&& 2147483647).toNatClampNeg = (v &&& 2147483647).toInt.toNat := rfl
    omega
  refine ⟨(v &&& 2147483647).toNatClampNeg % k, Nat.mod_lt _ h0, ?_⟩
  unfold lowS
  rw [en, e, ia_nn hA]
  exact ia_mod hA hk
theorem low_run (h : nk_H) (v : Int32) {n : Int32} {k : Nat} (en : n = Int32.ofNat k) (h0 : 0 < k) (hk : k < 2147483648) : f_L_low h v n = some (h, lowS v n) := by
  unfold f_L_low nk_nz
  have : ¬ n = 0 := by
    rw [en, show (0 : Int32) = Int32.ofNat 0 from rfl, ia_eq hk (by decide)]; omega
  rw [if_neg this, Option.bind_some]; rfl
/-- a method of an object, told by its state: the next state, the answer -/
def UA (b : Nat) (m : Nat → Nat → Int32) (F : nk_H → Nat → Option (nk_H × Int32)) : Prop := ∃ m2 t, (t = -9999999 → m2 = m) ∧ ∀ (h : nk_H) (x y : Nat) (m' : Nat → Nat → Int32), TW h x y m m' → ∃ h1, F h x = some (h1, t) ∧ TW h1 x y m2 m' ∧ nk_N h1 ≤ nk_N h + b ∧ nk_S h1 ≤ nk_S h + 10 * b
variable {b b' : Nat} {m : Nat → Nat → Int32} {n w a c hr : Nat}
theorem UA.up {F : nk_H → Nat → Option (nk_H × Int32)} (u : UA b m F) (hb : b ≤ b') : UA b' m F := by
  obtain ⟨m2, t, h1, h2⟩ := u
  refine ⟨m2, t, h1, fun h x y m' T => ?_⟩
  obtain ⟨g, e, T1, n1, s1⟩ := h2 h x y m' T
  exact ⟨g, e, T1, by omega, by omega⟩
theorem UA.ret {F : nk_H → Nat → Option (nk_H × Int32)} (u : UA b m F) : UA b m (fun h x => nk_do (F h x) fun h1 t => some (h1, t)) := by
  obtain ⟨m2, t, h1, h2⟩ := u
  refine ⟨m2, t, h1, fun h x y m' T => ?_⟩
  obtain ⟨g, e, T1, n1, s1⟩ := h2 h x y m' T
  exact ⟨g, by dsimp only; rw [e]; rfl, T1, n1, s1⟩
theorem UA.ite {P : Prop} [Decidable P] {A B : nk_H → Nat → Option (nk_H × Int32)} (p : P → UA b m A) (q : ¬ P → UA b m B) : UA b m (fun h x => if P then A h x else B h x) := by
  by_cases e : P
  · simp only [if_pos e]; exact p e
  · simp only [if_neg e]; exact q e
theorem UA.low {v n : Int32} {k : Nat} (en : n = Int32.ofNat k) (h0 : 0 < k) (hk : k < 2147483648) {G : nk_H → Nat → Int32 → Option (nk_H × Int32)} (g : ∀ j, j < k → UA b m (fun h x => G h x (Int32.ofNat j))) : UA b m (fun h x => nk_do (f_L_low h v n) fun h1 x1 => G h1 x x1) := by
  obtain ⟨j, hj, e⟩ := low_ex v en h0 hk
  obtain ⟨m2, t, h1, h2⟩ := g j hj
  refine ⟨m2, t, h1, fun h x y m' T => ?_⟩
  obtain ⟨g, e2, T1, n1, s1⟩ := h2 h x y m' T
  exact ⟨g, by dsimp only; rw [low_run h v en h0 hk, e]; exact e2, T1, n1, s1⟩
theorem UA.powers (I : Inv m n w a c hr) {G : nk_H → Nat → Int32 → Option (nk_H × Int32)} (g : UA b m (fun h x => G h x (Int32.ofNat w))) (hb : b + 5 ≤ b') : UA b' m (fun h x => (nk_rcv [18] h (some x)).bind fun a => nk_do (f_X11_powers h a) fun h1 x1 => G h1 x x1) := by
  obtain ⟨m2, t, h1, h2⟩ := g
  refine ⟨m2, t, h1, fun h x y m' T => ?_⟩
  obtain ⟨g1, e1, T1, n1, s1⟩ := tq_powers T I
  obtain ⟨g, e2, T2, n2, s2⟩ := h2 g1 x y m' T1
  exact ⟨g, by dsimp only; rw [T.rc, e1]; exact e2, T2, by omega, by omega⟩
theorem st_l {h : nk_H} {γ δ : Type} {g : Option (nk_H × (γ ⊕ String))} {v : γ} {K : nk_H → γ → Option (nk_H × δ)} (e : g = some (h, .inl v)) : nk_do (nk_st g) K = K h v := by rw [e]; rfl
theorem EN.l {γ : Type} {hs : nk_Hs} {code : Int32} {v : γ} {r : γ ⊕ String} (e : EN hs code v r) (z : code = 0) : r = .inl v := by
  rcases e with ⟨-, e⟩ | ⟨h1, -⟩
  · exact e
  · exact absurd z h1
theorem UA.holder (I : Inv m n w a c hr) {q : Nat} (hq : q < w) {G : nk_H → Nat → Int32 → Option (nk_H × Int32)} (g : UA b m (fun h x => G h x (m 15 q))) (hb : b + 5 ≤ b') : UA b' m (fun h x => (nk_rcv [18] h (some x)).bind fun a => nk_do (nk_st (f_X11_holder h a (Int32.ofNat q))) fun h1 x1 => G h1 x x1) := by
  have hw := I.1.2.2.2.1
  obtain ⟨m2, t, h1, h2⟩ := g
  refine ⟨m2, t, h1, fun h x y m' T => ?_⟩
  obtain ⟨g1, r, e1, q1, T1, n1, s1⟩ := tq_holder T I (Int32.ofNat q)
  have er := q1.l (if_pos (rg_of (by omega) hq))
  rw [ia_nn (by omega)] at er
  subst er
  obtain ⟨g, e2, T2, n2, s2⟩ := h2 g1 x y m' T1
  exact ⟨g, by dsimp only; rw [T.rc, st_l e1]; exact e2, T2, by omega, by omega⟩
/-- a call that may throw, caught -/
def hsok (L hs : nk_Hs) : Prop := ∀ E, E ∈ hs.map Prod.snd → ∃ k, nk_kx L 1 E = some k
theorem tr_l {γ : Type} {hs : nk_Hs} {h : nk_H} {v : γ} {g : Option (nk_H × (γ ⊕ String))} {K : nk_H → γ → Option (nk_H × Int32)} (e : g = some (h, .inl v)) : nk_tr hs g K = K h v := by rw [e]; rfl
theorem tr_r {γ : Type} {L hs : nk_Hs} (ok : hsok L hs) {h : nk_H} {E : String} (hE : E ∈ hs.map Prod.snd) {g : Option (nk_H × (γ ⊕ String))} {K : nk_H → γ → Option (nk_H × Int32)} (e : g = some (h, .inr E)) : nk_tr L g K = some (h, -9999999) := by
  rw [e]
  obtain ⟨k, hk⟩ := ok E hE
  show (nk_kx L 1 E).map (fun _ => (h, (-9999999 : Int32))) = _
  rw [hk]; rfl
theorem UA.mk {f : nk_H → Nat → Option (nk_H × (Int32 ⊕ String))} {fM : nk_H → Option (nk_H × Int32)} {L hs : nk_Hs} (ok : hsok L hs)
    (tm : ∀ {h : nk_H} {x y : Nat} {m' : Nat → Nat → Int32}, TW h x y m m' → ∃ s2 code val, BX m fM s2 code val ∧ ((code ≠ 0 → nk_u2 s2 0 0 0 = m) ∧ (code = 0 → ¬ val < 0)) ∧ ∃ h1 r, f h x = some (h1, r) ∧ EN hs code val r ∧ TW h1 x y (nk_u2 s2 0 0 0) m' ∧ nk_N h1 ≤ nk_N h + 1000 ∧ nk_S h1 ≤ nk_S h + 10000) :
    UA 1000 m (fun h x => (nk_rcv [18] h (some x)).bind fun a => nk_tr L (f h a) fun h2 x3 => some (h2, x3)) := by
  by_cases hT : ∃ (h : nk_H) (x y : Nat) (m' : Nat → Nat → Int32), TW h x y m m'
  · obtain ⟨h, x, y, m', T⟩ := hT
    obtain ⟨s2, code, val, X, ⟨er, nn⟩, -⟩ := tm T
    refine ⟨nk_u2 s2 0 0 0, if code = 0 then val else -9999999, fun e => ?_, fun h x y m' T => ?_⟩
    · by_cases hc : code = 0
      · rw [if_pos hc] at e
        exact absurd (by rw [e]; decide) (nn hc)
      · exact er hc
    · obtain ⟨s2', code', val', X', -, h1, r, e1, q, T1, n1, q1⟩ := tm T
      obtain ⟨u1, u2, u3⟩ := X.uniq X'
      subst u1
      subst u2
      refine ⟨h1, ?_, T1, n1, by omega⟩
      dsimp only
      rw [T.rc]
      rcases q with ⟨hc, rfl⟩ | ⟨hc, E, hE, rfl⟩
      · rw [tr_l e1, if_pos hc, u3 hc]
      · rw [tr_r ok hE e1, if_neg hc]
  · exact ⟨m, 0, fun _ => rfl, fun h x y m' T => absurd ⟨h, x, y, m', T⟩ hT⟩
theorem UA.mkV {f : nk_H → Nat → Option (nk_H × (Unit ⊕ String))} {fM : nk_H → Option (nk_H × Int32)} {L hs : nk_Hs} (ok : hsok L hs)
    (tm : ∀ {h : nk_H} {x y : Nat} {m' : Nat → Nat → Int32}, TW h x y m m' → ∃ s2 code, BX m fM s2 code 0 ∧ (code ≠ 0 → nk_u2 s2 0 0 0 = m) ∧ ∃ h1 r, f h x = some (h1, r) ∧ EN hs code () r ∧ TW h1 x y (nk_u2 s2 0 0 0) m' ∧ nk_N h1 ≤ nk_N h + 1000 ∧ nk_S h1 ≤ nk_S h + 10000) :
    UA 1000 m (fun h x => nk_tr L ((nk_rcv [18] h (some x)).bind fun a => nk_dt (f h a) fun h2 _ => some (h2, (Sum.inl 0 : Int32 ⊕ String))) fun h2 x3 => some (h2, x3)) := by
  by_cases hT : ∃ (h : nk_H) (x y : Nat) (m' : Nat → Nat → Int32), TW h x y m m'
  · obtain ⟨h, x, y, m', T⟩ := hT
    obtain ⟨s2, code, X, er, -⟩ := tm T
    refine ⟨nk_u2 s2 0 0 0, if code = 0 then 0 else -9999999, fun e => ?_, fun h x y m' T => ?_⟩
    · by_cases hc : code = 0
      · rw [if_pos hc] at e
        exact absurd e (by decide)
      · exact er hc
    · obtain ⟨s2', code', X', -, h1, r, e1, q, T1, n1, q1⟩ := tm T
      obtain ⟨u1, u2, u3⟩ := X.uniq X'
      subst u1
      subst u2
      refine ⟨h1, ?_, T1, n1, by omega⟩
      dsimp only
      rw [T.rc]
      rcases q with ⟨hc, rfl⟩ | ⟨hc, E, hE, rfl⟩
      · rw [e1, if_pos hc]; rfl
      · rw [if_neg hc]
        exact tr_r ok hE (show nk_dt (f h x) _ = some (h1, .inr E) from by rw [e1]; rfl)
  · exact ⟨m, 0, fun _ => rfl, fun h x y m' T => absurd ⟨h, x, y, m', T⟩ hT⟩
end U1
