/-! ===== tampering: isTamperedSo ===== -/
section U5
/-- the reference: what a tampering comes to -/
theorem mt_code {h : nk_H} {M n w a c hr : Nat} {s : Nat → Nat → Int32} (H : St h M s) (hI : Inv s n w a c hr) (v r u : Int32) : f_X12_tamper h M v r u = f_X12_tamper_c30 h M v r u (if recB s v r = true then (if wi u 1 10000 = true then 0 else 2) else 1) (some M) := by
  have ha : a ≤ 160 := by have := hI.1.2.2.2.2.2.2.1; have := hI.1.2.1; omega
  unfold f_X12_tamper
  rw [w_rcv H, do_eq (m_isRecord H hI.2.2.2.2.2.1 ha v r), ite_not]
  cases recB s v r with
  | false => rfl
  | true =>
    rw [if_neg (by decide), do_eq (m_in h u 1 10000), ite_not]
    change (if wi u 1 10000 = false then _ else _) = _
    cases wi u 1 10000 <;> rfl
theorem mt_err {h : nk_H} {M n w a c hr : Nat} {s : Nat → Nat → Int32} (H : St h M s) (hI : Inv s n w a c hr) {v r u : Int32} (hb : recB s v r = false) : Ok h M (nk_u2 s 0 0 1) 0 (f_X12_tamper h M v r u) := by
  rw [mt_code H hI, hb]
  unfold f_X12_tamper_c30
  rw [if_neg (by decide), w_rcv H]
  exact w_do (w_holds H _) (fun h2 H2 => Ok.here H2)
theorem mt_ok {h : nk_H} {M n w a c hr : Nat} {s : Nat → Nat → Int32} (H : St h M s) (hI : Inv s n w a c hr) {k i e : Nat} {u : Int32} (hb : recB s (Int32.ofNat k) (Int32.ofNat i) = true) (hu : wi u 1 10000 = true) (hk : k < 6) (hi : i < 160) (he : e < 160) (ee : s 31 (160 * k + i) = Int32.ofNat e) : Ok h M (nk_u2 (nk_u2 s 0 0 0) 33 (6 * e + 3) u) (s 33 (6 * e + 3)) (f_X12_tamper h M (Int32.ofNat k) (Int32.ofNat i) u) := by
  rw [mt_code H hI, hb, hu]
  show Ok h M _ _ (f_X12_tamper_c30 h M _ _ u 0 (some M))
  unfold f_X12_tamper_c30
  rw [w_rcv H]
  refine w_do (w_holds H _) (fun h2 H2 => ?_)
  show Ok h2 M _ _ (if (1 : Int32) = 0 then _ else _)
  rw [if_neg (by decide), m_act H2 hk hi (by rw [u2_k _ _ _ _ _ (by decide)]; exact ee), show (3 : Int32) = Int32.ofNat 3 from rfl, ia_6, w_gP H2 33, w_aI H2 33 (by show 6 * e + 3 < 960; omega), w_gP H2 33, u2_k s 0 0 0 _ (by decide)]
  exact w_wI H2 33 _ (by show 6 * e + 3 < 960; omega) (fun h3 H3 => Ok.here H3)
/-- the first that holds -/
theorem firstB_lt {P : Nat → Bool} : ∀ {n i : Nat}, firstB P n = some i → i < n ∧ P i = true := by
  intro n
  induction n with
  | zero => intro i h; cases h
  | succ n ih =>
    intro i h
    unfold firstB at h
    cases e : firstB P n with
    | some j =>
      rw [e] at h
      cases h
      exact ⟨Nat.lt_succ_of_lt (ih e).1, (ih e).2⟩
    | none =>
      rw [e] at h
      by_cases p : P n = true
      · have h2 : (if P n = true then some n else none) = some i := h
        rw [if_pos p] at h2
        cases h2
        exact ⟨Nat.lt_succ_self _, p⟩
      · have h2 : (if P n = true then some n else none) = some i := h
        rw [if_neg p] at h2
        cases h2
theorem firstB_all {P : Nat → Bool} : ∀ {n : Nat}, firstB P n = none → ∀ j, j < n → P j = false := by
  intro n
  induction n with
  | zero => intro _ j hj; omega
  | succ n ih =>
    intro h j hj
    unfold firstB at h
    cases e : firstB P n with
    | some i => rw [e] at h; cases h
    | none =>
      rw [e] at h
      have h2 : (if P n = true then some n else none) = none := h
      by_cases q : j = n
      · subst q
        by_cases p : P j = true
        · rw [if_pos p] at h2; cases h2
        · simpa using p
      · exact ih e j (by omega)
variable {h : nk_H} {x y N S : Nat} {m m' : Nat → Nat → Int32} {n w a c hr : Nat} {Q : nk_H → Int32 → Prop}
theorem brk_ex (I : Inv m n w a c hr) {k : Nat} (hk : k < 6) : brkS m k = -1 ∨ ∃ r, r < 160 ∧ brkS m k = Int32.ofNat r := by
  obtain ⟨r, er, hr9, -⟩ := I.2.2.2.2.2.1.1 k hk
  have ha : a ≤ 160 := by have := I.1.2.1; have := I.1.2.2.2.2.2.2.1; omega
  have hs : sN m 30 k = r := sN_of er (by omega)
  unfold brkS
  cases e : firstB (brkB m k) (sN m 30 k) with
  | none => exact Or.inl rfl
  | some i =>
    have := (firstB_lt e).1
    exact Or.inr ⟨i, by omega, rfl⟩
/-- one record is changed: no other is broken by that -/
theorem brk_tam (I : Inv m n w a c hr) (NXm : NX m) {k i e : Nat} (hk : k < 6) (hi : i < sN m 30 k) (ee : sN m 31 (160 * k + i) = e) (u : Int32) (hb : brkS m k = -1) : brkS (nk_u2 m 33 (6 * e + 3) u) k = Int32.ofNat i ∨ brkS (nk_u2 m 33 (6 * e + 3) u) k = -1 := by
  obtain ⟨r, er, hr9, -⟩ := I.2.2.2.2.2.1.1 k hk
  have ha : a ≤ 160 := by have := I.1.2.1; have := I.1.2.2.2.2.2.2.1; omega
  have hs : sN m 30 k = r := sN_of er (by omega)
  obtain ⟨-, -, -, -, -, n6⟩ := NXm
  have none9 : firstB (brkB m k) (sN m 30 k) = none := by
    unfold brkS at hb
    cases e9 : firstB (brkB m k) (sN m 30 k) with
    | none => rfl
    | some j =>
      rw [e9] at hb
      have := (firstB_lt e9).1
      exact absurd hb (ia_m1 (by omega))
  have all := firstB_all none9
  have e30 : sN (nk_u2 m 33 (6 * e + 3) u) 30 k = sN m 30 k := by unfold sN; rw [u2_k _ _ _ _ _ (by decide)]
  have e31 : ∀ z, sN (nk_u2 m 33 (6 * e + 3) u) 31 z = sN m 31 z := fun z => by unfold sN; rw [u2_k _ _ _ _ _ (by decide)]
  have other : ∀ j, j < sN m 30 k → j ≠ i → brkB (nk_u2 m 33 (6 * e + 3) u) k j = false := fun j hj hji => by
    rw [← all j hj]
    have ne : sN m 31 (160 * k + j) ≠ e := by
      rw [← ee]
      by_cases lt : j < i
      · have := (n6 k hk i hi).2 j lt; omega
      · have := (n6 k hk j hj).2 i (by omega); omega
    have en : nowS (nk_u2 m 33 (6 * e + 3) u) k j = nowS m k j := by
      unfold nowS
      rw [e31]
      have ea : aheadS (nk_u2 m 33 (6 * e + 3) u) k j = aheadS m k j := by
        unfold aheadS
        rw [e31, u2_k _ _ _ _ _ (by decide)]
      rw [ea, foldS_congr (g := fun p => markS (Int32.ofNat k) (Int32.ofNat j) (Int32.ofNat p) (m 33 (6 * sN m 31 (160 * k + j) + p))) (fun p hp => by
        show markS _ _ _ (nk_u2 m 33 (6 * e + 3) u 33 _) = markS _ _ _ (m 33 _)
        rw [u2_j _ _ _ _ _ (by omega)])]
    unfold brkB
    rw [en, e31, u2_k _ _ _ _ _ (by decide)]
  unfold brkS
  rw [e30]
  cases z : brkB (nk_u2 m 33 (6 * e + 3) u) k i with
  | true =>
    left
    rw [firstB_some hi z (fun j hj => other j (by omega) (by omega))]
  | false =>
    right
    rw [firstB_none (fun j hj => by
      by_cases q : j = i
      · subst q; exact z
      · exact other j hj q)]
theorem TW.form (T : TW h x y m m') : ∀ j, j ≠ 0 → m 0 j = 0 := by
  obtain ⟨g, -, e⟩ := T.gh
  intro j hj
  rw [← e]; exact nm_0 _ _ hj
/-- a call's outcome, known from the reference -/
theorem op_at {f : nk_H → Nat → Option (nk_H × (Int32 ⊕ String))} {fM : nk_H → Option (nk_H × Int32)} {hs : nk_Hs} {s2' : Nat → Nat → Int32} {code' val' : Int32} (B : TB h x y m m' N S)
    (tm : ∃ s2 code val, BX m fM s2 code val ∧ ((code ≠ 0 → nk_u2 s2 0 0 0 = m) ∧ (code = 0 → ¬ val < 0)) ∧ ∃ h1 r, f h x = some (h1, r) ∧ EN hs code val r ∧ TW h1 x y (nk_u2 s2 0 0 0) m' ∧ nk_N h1 ≤ nk_N h + 1000 ∧ nk_S h1 ≤ nk_S h + 10000)
    (ok : ∀ h1, St h1 (gX + 23) m → ∃ r, (code' = 0 → r = val') ∧ Ok h1 (gX + 23) s2' r (fM h1)) (e0 : s2' 0 0 = code') : (code' ≠ 0 → nk_u2 s2' 0 0 0 = m) ∧ (code' = 0 → ¬ val' < 0) ∧ ∃ h1 r, f h x = some (h1, r) ∧ EN hs code' val' r ∧ TB h1 x y (nk_u2 s2' 0 0 0) m' (N + 1000) (S + 10000) := by
  obtain ⟨s2, code, val, X, ⟨er, nn⟩, h1, r, e, q, T1, n1, s1⟩ := tm
  obtain ⟨u1, u2, u3⟩ := X.uniq ⟨X.1, ok, e0⟩
  subst u1
  subst u2
  refine ⟨er, fun z => by rw [← u3 z]; exact nn z, h1, r, e, ?_, T1, by have := B.2.1; omega, by have := B.2.2; omega⟩
  rcases q with ⟨hc, rfl⟩ | q
  · exact Or.inl ⟨hc, by rw [u3 hc]⟩
  · exact Or.inr q
/-- a call in the law's own words, caught: its outcome -/
theorem WI.does {f : nk_H → Nat → Option (nk_H × (Int32 ⊕ String))} {hs L : nk_Hs} {s2' : Nat → Nat → Int32} {code' val' : Int32} {F : Option (nk_H × Int32)} (ok : hsok L hs) (B : TB h x y m m' N S) (eF : F = ((nk_rcv [18] h (some x)).bind fun a => nk_tr L (f h a) fun h2 x3 => some (h2, x3)))
    (o : ∃ h1 r, f h x = some (h1, r) ∧ EN hs code' val' r ∧ TB h1 x y s2' m' (N + 1000) (S + 10000)) {K : nk_H → Int32 → Option (nk_H × Int32)} (kk : ∀ h1, TB h1 x y s2' m' (N + 1000) (S + 10000) → WI Q (K h1 (if code' = 0 then val' else -9999999))) : WI Q (nk_do F K) := by
  obtain ⟨h1, r, e, q, B1⟩ := o
  rw [eF, B.1.rc]
  rcases q with ⟨hc, rfl⟩ | ⟨hc, E, hE, rfl⟩
  · have := kk h1 B1
    rw [if_pos hc] at this
    rw [tr_l e]
    exact this
  · have := kk h1 B1
    rw [if_neg hc] at this
    rw [tr_r ok hE e]
    exact this
theorem WI.op {f : nk_H → Nat → Option (nk_H × (Int32 ⊕ String))} {hs : nk_Hs} {s2' : Nat → Nat → Int32} {val' : Int32} (B : TB h x y m m' N S) (o : ∃ h1 r, f h x = some (h1, r) ∧ EN hs 0 val' r ∧ TB h1 x y s2' m' (N + 1000) (S + 10000)) {K : nk_H → Int32 → Option (nk_H × Int32)} (kk : ∀ h1, TB h1 x y s2' m' (N + 1000) (S + 10000) → WI Q (K h1 val')) : WI Q ((nk_rcv [18] h (some x)).bind fun a => nk_do (nk_st (f h a)) K) := by
  obtain ⟨h1, r, e, q, B1⟩ := o
  have er := q.l rfl
  subst er
  rw [B.1.rc, st_l e]
  exact kk h1 B1
theorem tam_ok (B : TB h x y m m' N S) (I : Inv m n w a c hr) {k i e : Nat} {u : Int32} (hk : k < 6) (hi : i < sN m 30 k) (ee : sN m 31 (160 * k + i) = e) (hu : wi u 1 10000 = true) : ∃ h1 r, f_X11_tamper h x (Int32.ofNat k) (Int32.ofNat i) u = some (h1, r) ∧ EN hs_W_tamper 0 (m 33 (6 * e + 3)) r ∧ TB h1 x y (nk_u2 m 33 (6 * e + 3) u) m' (N + 1000) (S + 10000) := by
  obtain ⟨r, er, hr9, hact⟩ := I.2.2.2.2.2.1.1 k hk
  have ha : a ≤ 160 := by have := I.1.2.1; have := I.1.2.2.2.2.2.2.1; omega
  have hs : sN m 30 k = r := sN_of er (by omega)
  obtain ⟨e', he', ee'⟩ := hact i (by omega)
  have : e' = e := by rw [← ee, sN_of ee' (by omega)]
  subst this
  have hb : recB m (Int32.ofNat k) (Int32.ofNat i) = true := by
    unfold recB
    rw [rg_of (by omega) hk, ia_nn (by omega), rg_of (by omega) hi]; rfl
  have o := op_at B (tm_tamper B.1 (Int32.ofNat k) (Int32.ofNat i) u) (fun h1 H1 => ⟨_, fun _ => rfl, mt_ok H1 I hb hu hk (by omega) (by omega) ee'⟩) (by rw [u2_k _ _ _ _ _ (by decide), u2_eq]) (code' := 0) (f := fun h z => f_X11_tamper h z (Int32.ofNat k) (Int32.ofNat i) u)
  have en : nk_u2 (nk_u2 (nk_u2 m 0 0 0) 33 (6 * e' + 3) u) 0 0 0 = nk_u2 m 33 (6 * e' + 3) u := by
    refine eq0_back (eq0_u2 (eq0_u m 0) 33 _ _) (by rw [u2_k _ _ _ _ _ (by decide)]; exact B.1.1.2.1.1) (fun j hj => by rw [u2_k _ _ _ _ _ (by decide)]; exact B.1.form j hj) (fun j hj => by rw [u2_k _ _ _ _ _ (by decide), u2_j _ _ _ _ _ hj]; exact B.1.form j hj)
  rw [en] at o
  exact o.2.2
theorem fd_tamper (o : Option Nat) (x y z u : Int32) : f_L_does h o (Int32.ofNat 9) x y z u = ((nk_rcv [18] h o).bind fun a => nk_tr hs_L_does (f_X11_tamper h a x y z) fun h2 x3 => some (h2, x3)) := by
  unfold f_L_does f_L_does_c220
  simp only [if_neg (show ¬ Int32.ofNat 9 = 0 by decide), if_neg (show ¬ Int32.ofNat 9 = 1 by decide), if_neg (show ¬ Int32.ofNat 9 = 2 by decide), if_neg (show ¬ Int32.ofNat 9 = 3 by decide), if_neg (show ¬ Int32.ofNat 9 = 4 by decide), if_neg (show ¬ Int32.ofNat 9 = 5 by decide), if_neg (show ¬ Int32.ofNat 9 = 6 by decide), if_neg (show ¬ Int32.ofNat 9 = 7 by decide), if_neg (show ¬ Int32.ofNat 9 = 8 by decide), if_pos (show Int32.ofNat 9 = 9 by decide)]
theorem norm1 (B : TB h x y m m' N S) (v : Int32) : nk_u2 (nk_u2 m 0 0 v) 0 0 0 = m :=
  eq0_back (eq0_u m v) B.1.1.2.1.1 B.1.form (fun j hj => by rw [u2_j _ _ _ _ _ hj]; exact B.1.form j hj)
theorem tampered_run (B : TB h x y m m N S) {k i : Nat} (hk : k < 6) {u : Int32} (hu : wi u 1 10000 = true) (hi : i < 160) : WI (WA x y m m (N + 5000) (S + 50000)) (f_L_isTamperedSo h (some x) (some y) (Int32.ofNat k) (Int32.ofNat i) u) := by
  obtain ⟨n, w, a, c, hr, I⟩ := B.1.inv
  have NXm := B.1.1.2.1.2
  obtain ⟨r, er, hr9, hact⟩ := I.2.2.2.2.2.1.1 k hk
  have ha : a ≤ 160 := by have := I.1.2.1; have := I.1.2.2.2.2.2.2.1; omega
  have hs : sN m 30 k = r := sN_of er (by omega)
  have k6 : rg (Int32.ofNat k) 6 = true := rg_of (by omega) hk
  have en : (Int32.ofNat k).toNatClampNeg = k := ia_nn (by omega)
  have ei : (Int32.ofNat i).toNatClampNeg = i := ia_nn (by omega)
  unfold f_L_isTamperedSo
  refine wq_records B I (if_pos k6) (fun h1 B1 => ?_)
  rw [en, er]
  by_cases lt : i < r
  · refine WI.pos ((ia_lt (by omega) (by omega)).mpr lt) ?_
    obtain ⟨e, he, ee⟩ := hact i lt
    have es : sN m 31 (160 * k + i) = e := sN_of ee (by omega)
    have hb : recB m (Int32.ofNat k) (Int32.ofNat i) = true := by
      unfold recB
      rw [k6, en, hs, rg_of (by omega) lt]; rfl
    have ea : acS m (Int32.ofNat k) (Int32.ofNat i) = e := by unfold acS; rw [en, ei]; exact es
    refine wq_broken B1 I (if_pos k6) (fun h2 B2 => ?_)
    rw [en]
    refine wq_seal B2 I (if_pos hb) (fun h3 B3 => ?_)
    rw [ea]
    refine WI.op (f := fun h z => f_X11_tamper h z (Int32.ofNat k) (Int32.ofNat i) u) B3 (tam_ok B3 I hk (by omega) es hu) (fun h4 B4 => ?_)
    refine WI.op (f := fun h z => f_X11_tamper h z (Int32.ofNat k) (Int32.ofNat i) u) B4.symm (tam_ok B4.symm I hk (by omega) es hu) (fun h5 B5 => ?_)
    refine WI.pos rfl ?_
    have B5' := B5.symm
    obtain ⟨n', w', a', c', hr', I'⟩ := B5'.1.inv
    have t30 : ∀ z, sN (nk_u2 m 33 (6 * e + 3) u) 30 z = sN m 30 z := fun z => by unfold sN; rw [u2_k _ _ _ _ _ (by decide)]
    have t31 : ∀ z, sN (nk_u2 m 33 (6 * e + 3) u) 31 z = sN m 31 z := fun z => by unfold sN; rw [u2_k _ _ _ _ _ (by decide)]
    have hb' : recB (nk_u2 m 33 (6 * e + 3) u) (Int32.ofNat k) (Int32.ofNat i) = true := by
      unfold recB
      rw [k6, en, t30, hs, rg_of (by omega) lt]; rfl
    have ea' : acS (nk_u2 m 33 (6 * e + 3) u) (Int32.ofNat k) (Int32.ofNat i) = e := by unfold acS; rw [en, ei, t31]; exact es
    refine wq_part B5' I' (p := 3) (by rw [hb']; rfl) (fun h6 B6 => ?_)
    rw [ea', show (3 : Int32).toNatClampNeg = 3 from rfl, u2_eq]
    refine WI.pos rfl ?_
    refine wq_seal B6 I' (if_pos hb') (fun h7 B7 => ?_)
    rw [ea', u2_k _ _ _ _ _ (by decide)]
    refine WI.pos rfl ?_
    -- the way back
    have back : ∀ (h8 : nk_H), TB h8 x y (nk_u2 m 33 (6 * e + 3) u) (nk_u2 m 33 (6 * e + 3) u) (N + 5 + 5 + 5 + 1000 + 1000 + 5 + 5 + 10) (S + 30 + 30 + 30 + 10000 + 10000 + 30 + 30 + 60) → WI (WA x y m m (N + 5000) (S + 50000)) (f_L_isTamperedSo_c122 h8 (some x) (some y) (Int32.ofNat k) (Int32.ofNat i) u (brkS m k) (m 33 (6 * e + 3))) := fun h8 B8 => by
      unfold f_L_isTamperedSo_c122 f_L_isTamperedSo_c127
      refine WI.neg (by decide) ?_
      have hw : wi (m 33 (6 * e + 3)) 1 10000 = true := NXm.2.1 e (by rw [sN_of I.1.2.2.2.2.2.1 (by omega)]; exact he)
      have eb : nk_u2 (nk_u2 m 33 (6 * e + 3) u) 33 (6 * e + 3) (m 33 (6 * e + 3)) = m := by
        funext p q
        by_cases z1 : p = 33
        · subst z1
          by_cases z2 : q = 6 * e + 3
          · subst z2; rw [u2_eq]
          · rw [u2_j _ _ _ _ _ z2, u2_j _ _ _ _ _ z2]
        · rw [u2_k _ _ _ _ _ z1, u2_k _ _ _ _ _ z1]
      have o1 := tam_ok B8 I' hk (by rw [t30]; omega) ((t31 _).trans es) hw
      rw [eb, u2_eq] at o1
      refine WI.op (f := fun h z => f_X11_tamper h z (Int32.ofNat k) (Int32.ofNat i) (m 33 (6 * e + 3))) B8 o1 (fun h9 B9 => ?_)
      refine WI.pos rfl ?_
      have o2 := tam_ok B9.symm I' hk (by rw [t30]; omega) ((t31 _).trans es) hw
      rw [eb, u2_eq] at o2
      refine WI.op (f := fun h z => f_X11_tamper h z (Int32.ofNat k) (Int32.ofNat i) (m 33 (6 * e + 3))) B9.symm o2 (fun h10 B10 => ?_)
      refine WI.pos rfl ?_
      refine wq_broken B10.symm I (if_pos k6) (fun h11 B11 => ?_)
      rw [en]
      refine WI.pos rfl ?_
      unfold f_L_isTamperedSo_c175
      exact WI.zr1 ⟨rfl, B11.up (by omega) (by omega)⟩
    rcases brk_ex I hk with eb | ⟨z, hz, eb⟩
    · refine WI.neg (by rw [eb]; decide) ?_
      by_cases q : m 33 (6 * e + 3) = u
      · exact WI.pos q (back h7 (B7.up (by omega) (by omega)))
      · refine WI.neg q ?_
        refine wq_broken B7 I' (if_pos k6) (fun h8 B8 => ?_)
        rw [en]
        rcases brk_tam I NXm hk (by omega) es u eb with e8 | e8
        · exact WI.pos e8 (back h8 (B8.up (by omega) (by omega)))
        · by_cases q2 : brkS (nk_u2 m 33 (6 * e + 3) u) k = Int32.ofNat i
          · exact WI.pos q2 (back h8 (B8.up (by omega) (by omega)))
          · refine WI.neg q2 ?_
            refine wq_broken B8 I' (if_pos k6) (fun h9 B9 => ?_)
            rw [en]
            exact WI.pos e8 (back h9 (B9.up (by omega) (by omega)))
    · refine WI.pos (by rw [eb]; exact ia_0le (by omega)) (back h7 (B7.up (by omega) (by omega)))
  · refine WI.neg (fun q => lt ((ia_lt (by omega) (by omega)).mp q)) ?_
    have hb : recB m (Int32.ofNat k) (Int32.ofNat i) = false := by
      unfold recB
      rw [k6, en, hs]
      unfold rg
      rw [decide_eq_false (fun q => lt ((ia_lt (by omega) (by omega)).mp q)), Bool.and_false]; rfl
    have o := op_at B1 (tm_tamper B1.1 (Int32.ofNat k) (Int32.ofNat i) u) (fun h1 H1 => ⟨0, fun _ => rfl, mt_err H1 I hb⟩) (u2_eq _ _ _ _) (code' := 1) (val' := 0) (f := fun h z => f_X11_tamper h z (Int32.ofNat k) (Int32.ofNat i) u)
    rw [norm1 B1] at o
    refine WI.does (f := fun h z => f_X11_tamper h z (Int32.ofNat k) (Int32.ofNat i) u) (s2' := m) (code' := 1) (val' := 0) (L := hs_L_does) (hs := hs_W_tamper) (hsok_all (by decide +kernel)) B1 (fd_tamper (some x) _ _ _ _) o.2.2 (fun h2 B2 => ?_)
    refine WI.pos rfl ?_
    unfold f_L_isTamperedSo_c30
    exact WI.zr1 ⟨rfl, B2.up (by omega) (by omega)⟩
end U5
