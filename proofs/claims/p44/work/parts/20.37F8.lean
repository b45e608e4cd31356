section FX
variable {h h' : nk_H} {X n w a c hr : Nat} {pa cp : Nat → Nat} {s s' m : Nat → Nat → Int32}
theorem WR.forged (W : WR h X n w a c hr pa cp s m) {q i p : Nat} (hq : q < c) (hi : i < sN s 40 q) (hp : p < 6) (v : Int32) : WR (nk_sI h (cp q + 2 + i) p v) X n w a c hr pa cp (nk_u2 s 43 (6 * (160 * q + i) + p) v) m := by
  have ek : ∀ k, k ≠ 43 → nk_u2 s 43 (6 * (160 * q + i) + p) v k = s k := fun k hk => funext fun j => u2_k _ _ _ _ _ hk
  have KK := W.1.2.2.2.1
  have hz : ∀ e, e < c → sN s 40 e ≤ 160 := fun e he => by
    obtain ⟨-, k, f, z, b, -, -, -, -, -, ez, -, -, hf, hka, ha, -⟩ := co_I W.I he
    omega
  have hord : ∀ e, e < c → e ≠ q → cp e + 3 + sN s 40 e ≤ cp q ∨ cp q + 3 + sN s 40 q ≤ cp e := fun e he hne => by
    rcases Nat.lt_or_gt_of_ne hne with g | g
    · exact Or.inl ((KK q hq).2.2.1 e g)
    · exact Or.inr ((KK e he).2.2.1 q g)
  refine W.part hq hi (Gn_sI (DI := fun x => x = cp q + 2 + i) h _ _ _ _ (Or.inl rfl)) ek ?_ ?_
  · intro e he
    obtain ⟨g1, g2, g3, g4, g5, g6⟩ := W.1.2.2.2.2.1 e he
    have hne : cp e ≠ cp q + 2 + i ∧ cp e + 2 + sN s 40 e ≠ cp q + 2 + i := by
      by_cases q1 : e = q
      · subst q1; omega
      · have := hord e he q1; omega
    have e40 : sN (nk_u2 s 43 (6 * (160 * q + i) + p) v) 40 e = sN s 40 e := by unfold sN; rw [ek 40 (by decide)]
    rw [ek 38 (by decide), ek 39 (by decide), ek 40 (by decide), ek 41 (by decide), ek 42 (by decide), ek 44 (by decide), e40]
    simp only [nk_I_sI, nk_u2_ne _ _ _ _ _ hne.1, nk_u2_ne _ _ _ _ _ hne.2]
    refine ⟨g1, g2, g3, g4, g5, fun j hj => ⟨(g6 j hj).1, fun p' hp' => ?_⟩⟩
    have := hz e he
    have := hz q hq
    by_cases q1 : e = q
    · subst q1
      by_cases q2 : j = i
      · subst q2
        by_cases q3 : p' = p
        · subst q3; rw [nk_u2_eq, u2_eq]
        · rw [nk_u2_nk _ _ _ _ _ q3, u2_j _ _ _ _ _ (by omega)]; exact (g6 j hj).2 p' hp'
      · rw [nk_u2_ne _ _ _ _ _ (by omega), u2_j _ _ _ _ _ (by omega)]; exact (g6 j hj).2 p' hp'
    · have := hord e he q1
      rw [nk_u2_ne _ _ _ _ _ (by omega), u2_j _ _ _ _ _ (by omega)]; exact (g6 j hj).2 p' hp'
  · obtain ⟨i0, i1, i2, i3, i4, i5, i6, i7, i8, i9⟩ := W.I
    exact ⟨i0.cg (fun k hk => ek k (by omega)), i1.cg (fun k hk => ek k (by omega)), i2.cg (fun k hk => ek k (by omega)), i3.cg (fun k hk => ek k (by omega)), i4.cg (fun k hk => ek k (by omega)), i5.cg (fun k hk => ek k (by omega)), i6.cg (fun k hk => ek k (by omega)), i7.cg (fun k hk => ek k (by omega)), i8.cg (fun k hk => ek k (by omega)), i9.cg (fun k hk => ek k (by omega))⟩
theorem JX.frg {s t : Nat → Nat → Int32} (e : eq0 s t) {q i p : Nat} {u code : Int32} (hq : q < sN s 37 0) (hi : i < sN s 40 q) (hp : p < 6) (hb : gb (s 41 q) p = false) (hu : wi u 0 10000 = true) : JX s (nk_u2 t 43 (6 * (160 * q + i) + p) u) code (s 43 (6 * (160 * q + i) + p)) := fun N => by
  obtain ⟨n1, n2, n3, n4, n5⟩ := N
  have ex : ∀ z, z ≠ 43 → z ≠ 0 → nk_u2 t 43 (6 * (160 * q + i) + p) u z = s z := fun z h1 h2 => (u2_K _ _ _ _ h1).trans (funext fun j => e z j h2)
  refine ⟨⟨?_, ?_, ?_, fun x hx y hy z hz hg => ?_, ?_⟩, fun _ => n4 q hq i hi p hp hb⟩
  · rw [ex 2 (by decide) (by decide)]; exact n1
  · unfold sN at n2 ⊢
    rw [ex 29 (by decide) (by decide), ex 33 (by decide) (by decide)]; exact n2
  · rw [ex 33 (by decide) (by decide)]; exact n3
  · unfold sN at hx hy n4
    rw [ex 37 (by decide) (by decide)] at hx
    rw [ex 40 (by decide) (by decide)] at hy
    rw [ex 41 (by decide) (by decide)] at hg
    by_cases w : 6 * (160 * x + y) + z = 6 * (160 * q + i) + p
    · rw [w, u2_eq]; exact wi_nn (by decide) hu
    · rw [u2_j _ _ _ _ _ w, e 43 _ (by decide)]; exact n4 x hx y hy z hz hg
  · unfold sN at n5 ⊢
    rw [ex 29 (by decide) (by decide), ex 12 (by decide) (by decide), ex 15 (by decide) (by decide), ex 30 (by decide) (by decide), ex 31 (by decide) (by decide)]
    exact n5
theorem bi_forge (W : WR h X n w a c hr pa cp s s) (v r p u : Int32) : BI h X s (f_W_forge h (some X) v r p u (some (X + 56))) (fun h1 => f_X12_forge h1 (X + 23) v r p u) := by
  have hb := W.b
  have hN := W.N
  have eM : ∀ h1, St h1 (X + 23) s → f_X12_forge h1 (X + 23) v r p u = f_X12_forge_c49 h1 (X + 23) v r p u (if (plB s c v r && rg p 6) = true then (if wi u 0 10000 = true then (if gb (s 41 v.toNatClampNeg) p.toNatClampNeg = true then 3 else 0) else 2) else 1) (some (X + 23)) := fun h1 H1 => by
    unfold f_X12_forge
    rw [w_rcv H1, do_eq (m_isCopied H1 W.I v r p), ite_not]
    cases hb1 : (plB s c v r && rg p 6) with
    | false => rfl
    | true =>
      rw [if_neg (by decide), do_eq (m_in h1 u 0 10000), ite_not]
      change (if wi u 0 10000 = false then _ else _) = _
      cases wi u 0 10000 with
      | false => rfl
      | true =>
        unfold plB at hb1
        rw [Bool.and_eq_true, Bool.and_eq_true] at hb1
        obtain ⟨q, rfl, hq⟩ := rg_ex (by omega) hb1.1.1
        obtain ⟨p, rfl, hp⟩ := rg_ex (by omega) hb1.2
        have hq2 := (co_I W.I hq).1
        rw [if_neg (by decide), w_rcv H1, do_eq (m_isLeftOut H1 hq2 hp), ite_not, ia_nn (by omega), ia_nn (by omega)]
        cases gb (s 41 q) p <;> rfl
  have eL : f_W_forge h (some X) v r p u (some (X + 56)) = nk_try hs_W_forge (f_X11_forge h X v r p u) fun h2 x3 => ((nk_wL h2 (some (X + 56)) 0 x3).bind fun h4 => some (h4, 0)) := by
    unfold f_W_forge
    rw [rX W]
  have err : ∀ (h1 : nk_H) (H1 : St h1 (X + 23) s) (k : Int32), k ≠ 0 → Ok h1 (X + 23) (nk_u2 s 0 0 k) 0 (f_X12_forge_c49 h1 (X + 23) v r p u k (some (X + 23))) := fun h1 H1 k hk => by
    unfold f_X12_forge_c49
    rw [w_rcv H1]
    refine w_do (w_holds H1 _) (fun h2 H2 => ?_)
    rw [decide_eq_false hk]
    exact Ok.here H2
  cases h0 : plB s c v r with
  | false =>
    refine BI.err W 1 (by decide) ?_ (fun h1 H1 => ⟨0, ?_⟩)
    · rw [eL]
      unfold f_X11_forge
      rw [rX W, dt_if (mb_place W v r), h0]
      rfl
    · show Ok h1 (X + 23) _ _ (f_X12_forge h1 (X + 23) v r p u)
      rw [eM h1 H1, h0]
      exact err h1 H1 1 (by decide)
  | true =>
    cases h1 : rg p 6 with
    | false =>
      refine BI.err W 1 (by decide) ?_ (fun h1' H1 => ⟨0, ?_⟩)
      · rw [eL]
        unfold f_X11_forge
        rw [rX W, dt_if (mb_place W v r), h0, if_pos rfl, dt_if (mb_part h p), h1]
        rfl
      · show Ok h1' (X + 23) _ _ (f_X12_forge h1' (X + 23) v r p u)
        rw [eM h1' H1, h0, h1]
        exact err h1' H1 1 (by decide)
    | true =>
      cases h2 : wi u 0 10000 with
      | false =>
        refine BI.err W 2 (by decide) ?_ (fun h1' H1 => ⟨0, ?_⟩)
        · rw [eL]
          unfold f_X11_forge
          rw [rX W, dt_if (mb_place W v r), h0, if_pos rfl, dt_if (mb_part h p), h1, if_pos rfl, dt_if (mb_within h u 0 10000), h2]
          rfl
        · show Ok h1' (X + 23) _ _ (f_X12_forge h1' (X + 23) v r p u)
          rw [eM h1' H1, h0, h1, h2]
          exact err h1' H1 2 (by decide)
      | true =>
        have h0' := h0
        unfold plB at h0'
        rw [Bool.and_eq_true] at h0'
        obtain ⟨q, rfl, hq⟩ := rg_ex (by omega) h0'.1
        obtain ⟨p, rfl, hp⟩ := rg_ex (by omega) h1
        obtain ⟨hq2, k, f, z, b, hk, hb2, e1, e2, e3, ez, e4, hz, hf, hka, ha, hact⟩ := co_I W.I hq
        have h3 := h0'.2
        rw [ia_nn (by omega), ez] at h3
        obtain ⟨i, rfl, hi⟩ := rg_ex (by omega) h3
        obtain ⟨-, -, -, -, K9, K4, -, K5, K6, -, -, K7⟩ := W.1.2.2.2.1 q hq
        obtain ⟨g1, g2, g3⟩ := K7 i (by omega)
        have G9 := ((W.1.2.2.2.2.1 q hq).2.2.2.2.2 i (by omega)).2 p hp
        have k10 : nk_K h (cp q) ∈ [10] := by rw [K9]; decide
        cases h4 : gb (s 41 q) p with
        | true =>
          refine BI.err W 3 (by decide) ?_ (fun h1' H1 => ⟨0, ?_⟩)
          · rw [eL]
            unfold f_X11_forge
            rw [rX W, dt_if (mb_place W _ _), h0, if_pos rfl, dt_if (mb_part h _), h1, if_pos rfl, dt_if (mb_within h u 0 10000), h2, if_pos rfl, to_copy W hq, rd_r [10] k10, do_eq (q_leavesOut W hq hp), h4, ite_not, if_neg (by decide)]
            rfl
          · show Ok h1' (X + 23) _ _ (f_X12_forge h1' (X + 23) _ _ _ u)
            rw [eM h1' H1, h0, h1, h2, ia_nn (by omega), ia_nn (by omega), h4]
            exact err h1' H1 3 (by decide)
        | false =>
          refine ⟨n, w, a, c, hr, nk_u2 s 43 (6 * (160 * q + i) + p) u, nk_u2 (nk_u2 s 0 0 0) 43 (6 * (160 * q + i) + p) u, 0, s 43 (6 * (160 * q + i) + p), ?_, fun h1' H1 => ⟨_, fun _ => rfl, ?_⟩, eq0_u2 (eq0_u s 0) 43 _ _, ?_, fun e9 => absurd rfl e9, JX.frg (eq0_u s 0) (by rw [sN_of W.I.1.2.2.2.2.2.2.2.1 (by omega)]; exact hq) (by rw [ez]; exact hi) hp h4 h2⟩
          · rw [eL]
            refine wok_I ⟨nk_sI h (cp q + 2 + i) p u, pa, cp, ?_, W.forged hq (by omega) hp u, by rw [nk_N_sI]; omega, by rw [nk_S_sI]; omega⟩
            unfold f_X11_forge
            rw [rX W, dt_if (mb_place W _ _), h0, if_pos rfl, dt_if (mb_part h _), h1, if_pos rfl, dt_if (mb_within h u 0 10000), h2, if_pos rfl, to_copy W hq, rd_r [10] k10, do_eq (q_leavesOut W hq hp), h4, ite_not, if_pos rfl, rd_P [10] k10 K4, rd_q 5 K5 (by omega) (by omega) g1, rd_a 1 g2 (by omega) (by omega) G9, rd_P [10] k10 K4, rd_q 5 K5 (by omega) (by omega) g1, wr_a _ g2 (by omega) (by omega)]
          · show Ok h1' (X + 23) _ _ (f_X12_forge h1' (X + 23) _ _ _ u)
            rw [eM h1' H1, h0, h1, h2, ia_nn (by omega), ia_nn (by omega), h4]
            show Ok h1' (X + 23) _ _ (f_X12_forge_c49 h1' (X + 23) _ _ _ u 0 (some (X + 23)))
            unfold f_X12_forge_c49
            rw [w_rcv H1]
            refine w_do (w_holds H1 _) (fun h2 H2 => ?_)
            show Ok h2 (X + 23) _ _ (if (1 : Int32) = 0 then _ else _)
            rw [if_neg (by decide), ia_160, ia_6, w_gP H2 43, w_aI H2 43 (by show 6 * (160 * q + i) + p < 11520; omega), w_gP H2 43, u2_k s 0 0 0 _ (by decide)]
            refine w_wI H2 43 _ (by show 6 * (160 * q + i) + p < 11520; omega) (fun h3 H3 => Ok.here H3)
          · rw [u2_k _ _ _ _ _ (by decide), u2_eq]
end FX
