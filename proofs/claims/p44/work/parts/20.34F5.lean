/-- what a call without an answer owes -/
def BV (h : nk_H) (X : Nat) (s : Nat → Nat → Int32) (fL : Option (nk_H × Int32)) (fM : nk_H → Option (nk_H × Unit)) : Prop :=
  ∃ n' w' a' c' hr' s' s2 code val, WOK h X s n' w' a' c' hr' s' code val fL ∧ (∀ h1, St h1 (X + 23) s → Ok h1 (X + 23) s2 () (fM h1)) ∧ eq0 s' s2 ∧ s2 0 0 = code ∧ (code ≠ 0 → eq0 s s2) ∧ JX s s2 0 0
def uP (s : Nat → Nat → Int32) (v1 v2 : Int32) : Nat → Nat → Int32 := nk_u2 (nk_u2 s 27 0 v1) 28 0 v2
section FX
variable {h h' : nk_H} {X n w a c hr : Nat} {pa cp : Nat → Nat} {s s' m : Nat → Nat → Int32}
theorem BV.err {fL : Option (nk_H × Int32)} {fM : nk_H → Option (nk_H × Unit)} (W : WR h X n w a c hr pa cp s s) (k : Int32) (hk0 : k ≠ 0) (eL : fL = some (nk_al h 0 0 6, k)) (eM : ∀ h1, St h1 (X + 23) s → Ok h1 (X + 23) (nk_u2 s 0 0 k) () (fM h1)) : BV h X s fL fM := by
  refine ⟨n, w, a, c, hr, s, nk_u2 s 0 0 k, k, 0, ?_, eM, eq0_u s _, u2_eq _ _ _ _, fun _ => eq0_u s _, JX.of (eq0_u s _) (fun _ _ => rfl) (fun _ => by decide)⟩
  rw [eL]
  exact ⟨_, pa, cp, rfl, W.al 0 0 6, fun e => absurd e hk0, by rw [nk_N_al]; omega, by rw [nk_S_al]; omega⟩
theorem eq0_u2 (e : eq0 s s') (k j : Nat) (v : Int32) : eq0 (nk_u2 s k j v) (nk_u2 s' k j v) := fun x y hx => by
  by_cases q1 : x = k
  · subst q1
    by_cases q2 : y = j
    · rw [q2, u2_eq, u2_eq]
    · rw [u2_j _ _ _ _ _ q2, u2_j _ _ _ _ _ q2]; exact e x y hx
  · rw [u2_k _ _ _ _ _ q1, u2_k _ _ _ _ _ q1]; exact e x y hx
theorem uP_k (s : Nat → Nat → Int32) (v1 v2 : Int32) {k : Nat} (h1 : k ≠ 27) (h2 : k ≠ 28) : uP s v1 v2 k = s k := by
  funext j
  unfold uP
  rw [u2_k _ _ _ _ _ h2, u2_k _ _ _ _ _ h1]
theorem uP_27 (s : Nat → Nat → Int32) (v1 v2 : Int32) : uP s v1 v2 27 0 = v1 ∧ uP s v1 v2 28 0 = v2 := by
  unfold uP
  rw [u2_k _ _ _ _ _ (by decide), u2_eq, u2_eq]
  exact ⟨rfl, rfl⟩
theorem wi_ex {v : Int32} {hi : Nat} (h9 : hi < 2147483648) (h : wi v 0 (Int32.ofNat hi) = true) : ∃ k, v = Int32.ofNat k ∧ k ≤ hi := by
  unfold wi at h
  rw [Bool.and_eq_true, decide_eq_true_eq, decide_eq_true_eq] at h
  have h0 : ¬ v < 0 := Int32.not_lt.mpr h.1
  have := ia_of h0
  refine ⟨_, this, ?_⟩
  have h2 := h.2
  rw [this] at h2
  exact (ia_le (by have := Int32.toInt_lt v; unfold Int32.toNatClampNeg; omega) h9).mp h2
theorem bv_prepare (W : WR h X n w a c hr pa cp s s) (v u : Int32) : BV h X s (f_W_prepare h (some X) v u) (fun h1 => f_X12_prepare h1 (X + 23) v u) := by
  have hN := W.N
  have k18 : nk_K h X ∈ [18] := by rw [W.1.1.1.1]; decide
  have eM : ∀ h1, f_X12_prepare h1 (X + 23) v u = f_X12_prepare_c24 h1 (X + 23) v u (if (wi v 0 1 && wi u 0 5) = true then 0 else 1) (some (X + 23)) := fun h1 => by
    unfold f_X12_prepare f_X12_prepare_c23
    rw [do_eq (m_in h1 v 0 1), ite_not]
    unfold wi
    cases (decide ((0 : Int32) ≤ v) && decide (v ≤ 1)) with
    | false => rfl
    | true =>
      rw [if_neg (by decide), do_eq (m_in h1 u 0 5), ite_not]
      cases (decide ((0 : Int32) ≤ u) && decide (u ≤ 5)) <;> rfl
  have eL : f_W_prepare h (some X) v u = nk_try hs_W_prepare (f_X11_prepare h X v u) fun h2 x3 => some (h2, 0) := by
    unfold f_W_prepare
    rw [rX W]
  cases hb : (wi v 0 1 && wi u 0 5) with
  | false =>
    refine BV.err W 1 (by decide) ?_ (fun h1 H1 => ?_)
    · rw [eL]
      unfold f_X11_prepare
      rw [dt_if (mb_within h v 0 1)]
      cases h0 : wi v 0 1 with
      | false => rfl
      | true =>
        rw [h0, Bool.true_and] at hb
        rw [if_pos rfl, dt_if (mb_within h u 0 5), hb]
        rfl
    · show Ok h1 (X + 23) _ _ (f_X12_prepare h1 (X + 23) v u)
      rw [eM h1, hb]
      unfold f_X12_prepare_c24 f_X12_prepare_c40
      rw [w_rcv H1]
      exact w_do (w_holds H1 _) (fun h2 H2 => Ok.here H2)
  | true =>
    rw [Bool.and_eq_true] at hb
    obtain ⟨b, rfl, hb1⟩ := wi_ex (hi := 1) (by decide) hb.1
    obtain ⟨kd, rfl, hk1⟩ := wi_ex (hi := 5) (by decide) hb.2
    have G : Gn h (nk_sI (nk_sI h X 7 (Int32.ofNat b)) X 8 (Int32.ofNat kd)) (fun x => x = X ∨ x = X + 2) (fun x => x = X) :=
      (Gn_sI (DI := fun x => x = X ∨ x = X + 2) h X 7 _ _ (Or.inl (Or.inl rfl))).trans (Gn_sI (DI := fun x => x = X ∨ x = X + 2) _ X 8 _ _ (Or.inl (Or.inl rfl)))
    have ek : ∀ {k : Nat}, k ≠ 27 → k ≠ 28 → uP s (Int32.ofNat b) (Int32.ofNat kd) k = s k := fun h1 h2 => uP_k s _ _ h1 h2
    obtain ⟨e27, e28⟩ := uP_27 s (Int32.ofNat b) (Int32.ofNat kd)
    obtain ⟨i0, i1, i2, i3, i4, i5, i6, i7, i8, i9⟩ := W.I
    refine ⟨n, w, a, c, hr, uP s (Int32.ofNat b) (Int32.ofNat kd), uP (nk_u2 s 0 0 0) (Int32.ofNat b) (Int32.ofNat kd), 0, nk_I (nk_sI (nk_sI h X 7 (Int32.ofNat b)) X 8 (Int32.ofNat kd)) (X + 56) 0, ?_, fun h1 H1 => ?_, fun k y hk => ?_, ?_, fun e9 => absurd rfl e9, JX.of (eq0_u s 0) (fun x hx => uP_k _ _ _ (by unfold nxf at hx; omega) (by unfold nxf at hx; omega)) (fun _ => by decide)⟩
    · rw [eL]
      refine ⟨nk_sI (nk_sI h X 7 (Int32.ofNat b)) X 8 (Int32.ofNat kd), pa, cp, ?_, ?_, fun _ => rfl, by rw [nk_N_sI, nk_N_sI]; omega, by rw [nk_S_sI, nk_S_sI]; omega⟩
      · unfold f_X11_prepare
        rw [dt_if (mb_within h _ 0 1), if_pos hb.1, dt_if (mb_within h _ 0 5), if_pos hb.2, wr_I [18] 7 _ k18, wr_I (h := nk_sI h X 7 (Int32.ofNat b)) [18] 8 _ k18]
        rfl
      · refine W.fix G (fun k hk2 hk => ek (by omega) (by omega)) W.1.1.1 ?_ ?_ ?_
        · obtain ⟨g1, g2, g3, g4⟩ := W.1.2.1
          refine ⟨?_, ?_, ?_, fun k hk => ?_⟩
          · rw [ek (by decide) (by decide), nk_I_sI, nk_u2_nk _ _ _ _ _ (by decide), nk_I_sI, nk_u2_nk _ _ _ _ _ (by decide)]; exact g1
          · rw [e27, nk_I_sI, nk_u2_nk _ _ _ _ _ (by decide), nk_I_sI, nk_u2_eq]
          · rw [e28, nk_I_sI, nk_u2_eq]
          · rw [ek (by decide) (by decide), nk_I_sI, nk_I_sI, nk_u2_ne _ _ _ _ _ (by omega), nk_u2_ne _ _ _ _ _ (by omega), nk_u2_ne _ _ _ _ _ (by omega), nk_u2_ne _ _ _ _ _ (by omega)]
            exact g4 k hk
        · obtain ⟨d, d1, d2, d3, d4, d5, d6, d7, d8, d9⟩ := W.1.2.2.1
          have hd : d ≠ X := by omega
          refine ⟨d, d1, d2, d3, d4, ?_⟩
          rw [ek (by decide) (by decide), ek (by decide) (by decide), ek (by decide) (by decide), ek (by decide) (by decide), ek (by decide) (by decide)]
          simp only [nk_I_sI, nk_u2_ne _ _ _ _ _ hd]
          exact ⟨d5, d6, d7, d8, d9⟩
        · refine ⟨i0.cg (fun k hk => ek (by omega) (by omega)), i1.cg (fun k hk => ek (by omega) (by omega)), i2.cg (fun k hk => ek (by omega) (by omega)), i3.cg (fun k hk => ek (by omega) (by omega)), i4.cg (fun k hk => ek (by omega) (by omega)), i5.cg (fun k hk => ek (by omega) (by omega)), i6.cg (fun k hk => ek (by omega) (by omega)), ?_, i8.cg (fun k hk => ek (by omega) (by omega)), i9.cg (fun k hk => ek (by omega) (by omega))⟩
          refine ⟨?_, ?_, ?_⟩
          · rw [e27]
            rcases Nat.lt_or_ge b 1 with q | q
            · have : b = 0 := by omega
              subst this; exact ⟨false, rfl⟩
            · have : b = 1 := by omega
              subst this; exact ⟨true, rfl⟩
          · exact ⟨kd, by omega, e28⟩
          · rw [ek (by decide) (by decide)]; exact i7.2.2
    · show Ok h1 (X + 23) _ _ (f_X12_prepare h1 (X + 23) _ _)
      rw [eM h1, if_pos (by rw [Bool.and_eq_true]; exact hb)]
      unfold f_X12_prepare_c24 f_X12_prepare_c40
      rw [w_rcv H1]
      refine w_do (w_holds H1 _) (fun h2 H2 => ?_)
      show Ok h2 (X + 23) _ _ (if (1 : Int32) = 0 then _ else _)
      rw [if_neg (by decide)]
      refine w_pI H2 27 _ (fun h3 H3 => ?_)
      refine w_pI H3 28 _ (fun h4 H4 => ?_)
      exact Ok.here H4
    · exact eq0_u2 (eq0_u2 (eq0_u s 0) 27 0 _) 28 0 _ k y hk
    · rw [uP_k _ _ _ (by decide) (by decide), u2_eq]
end FX
