section JN
variable {h h' : nk_H} {X n w a c hr : Nat} {pa cp : Nat → Nat} {s s' m : Nat → Nat → Int32}
theorem bi_join (W : WR h X n w a c hr pa cp s s) (v u : Int32) : BI h X s (f_W_join h (some X) v u (some (X + 56))) (fun h1 => f_X12_join h1 (X + 23) v u) := by
  have eM : ∀ h1, St h1 (X + 23) s → f_X12_join h1 (X + 23) v u = nk_do (f_X12_holds h1 (X + 23) (if (rg v 6 && rg u 6) = true then (if v = u then 2 else if gb (s 2 v.toNatClampNeg) u.toNatClampNeg = true then 3 else 0) else 1)) (fun h5 x6 => if x6 = 0 then f_X12_join_c24 h5 0 else ((nk_rcv [19] h5 (some (X + 23))).bind fun a7 => nk_do (f_X12_turns h5 a7 v u) fun h8 x9 => f_X12_join_c24 h8 x9)) := fun h1 H1 => by
    unfold f_X12_join
    rw [w_rcv H1, show (1 : Int32) = b2i true from rfl, do_eq (m_errorOfLink H1 v u true), w_rcv H1]; rfl
  have eL : f_W_join h (some X) v u (some (X + 56)) = nk_try hs_W_join (f_X11_join h X v u) fun h2 x3 => ((nk_wL h2 (some (X + 56)) 0 x3).bind fun h4 => some (h4, 0)) := by
    unfold f_W_join
    rw [rX W]
  have k14 : nk_K h (X + 1) ∈ [14] := by rw [W.1.1.1.2.2.2.2.2.2.1.1]; decide
  obtain ⟨k1, k2, -⟩ := W.1.1.1
  cases hb : (rg v 6 && rg u 6) with
  | false =>
    refine BI.err W 1 (by decide) ?_ (fun h1 H1 => ?_)
    · rw [eL]
      unfold f_X11_join
      rw [mb_two, hb, if_neg (by decide)]
      rfl
    · show ∃ r, Ok h1 (X + 23) _ r (f_X12_join h1 (X + 23) v u)
      rw [eM h1 H1, hb]
      exact ⟨0, w_do (w_holds H1 _) (fun h2 H2 => Ok.here H2)⟩
  | true =>
    have hb2 := hb
    rw [Bool.and_eq_true] at hb2
    obtain ⟨i, rfl, hi⟩ := rg_ex (by decide) hb2.1
    obtain ⟨j, rfl, hj⟩ := rg_ex (by decide) hb2.2
    by_cases hij : Int32.ofNat i = Int32.ofNat j
    · refine BI.err W 2 (by decide) ?_ (fun h1 H1 => ?_)
      · rw [eL]
        unfold f_X11_join
        rw [mb_two, hb, if_pos rfl, if_pos hij]
        rfl
      · show ∃ r, Ok h1 (X + 23) _ r (f_X12_join h1 (X + 23) (Int32.ofNat i) (Int32.ofNat j))
        rw [eM h1 H1, hb, if_pos rfl, if_pos hij]
        exact ⟨0, w_do (w_holds H1 _) (fun h2 H2 => Ok.here H2)⟩
    · have hne : j ≠ i := fun e => hij (by rw [e])
      have e1 : ∀ {β : Type} (K : nk_H → Unit → Option (nk_H × (β ⊕ String))), nk_dt (f_X11_mustBeTwoKiosks h (Int32.ofNat i) (Int32.ofNat j)) K = K h () := fun K => by
        rw [mb_two, hb, if_pos rfl, if_neg hij]; rfl
      cases hg : gb (s 2 i) j with
      | true =>
        refine BI.err W 3 (by decide) ?_ (fun h1 H1 => ?_)
        · rw [eL]
          unfold f_X11_join
          rw [e1, rd_P [18] (by rw [k1]; decide) k2, rd_r [14] k14, do_eq (q_areLinked W hi hj), ite_not, hg, if_neg (by decide)]
          rfl
        · show ∃ r, Ok h1 (X + 23) _ r (f_X12_join h1 (X + 23) (Int32.ofNat i) (Int32.ofNat j))
          rw [eM h1 H1, hb, if_pos rfl, if_neg hij, ia_nn (by omega), ia_nn (by omega), hg, if_pos rfl]
          exact ⟨0, w_do (w_holds H1 _) (fun h2 H2 => Ok.here H2)⟩
      | false =>
        obtain ⟨h9, e9, n9, s9, W9⟩ := q_turn W hi hj hne
        have k14' : nk_K h9 (X + 1) ∈ [14] := by rw [W9.1.1.1.2.2.2.2.2.2.1.1]; decide
        obtain ⟨k1', k2', -⟩ := W9.1.1.1
        refine ⟨n, w, a, c, hr, uJ s i j, uJ (nk_u2 s 0 0 0) i j, 0, cnt (gb (uJ s i j 2 i)), ?_, fun h1 H1 => ?_, fun k y hk => ?_, ?_, fun e9 => absurd rfl e9, JX.ofJ (eq0_u s 0) hi hj hne (fun _ => cnt_nn _)⟩
        · rw [eL]
          refine wok_I ⟨h9, pa, cp, ?_, W9, by omega, by omega⟩
          unfold f_X11_join
          rw [e1, rd_P [18] (by rw [k1]; decide) k2, rd_r [14] k14, do_eq (q_areLinked W hi hj), ite_not, hg, if_pos rfl, rd_P [18] (by rw [k1]; decide) k2, rd_r [14] k14, do_eq e9, rd_P [18] (by rw [k1']; decide) k2', rd_r [14] k14', do_eq (q_degree W9 hi)]
        · refine ⟨_, fun _ => rfl, ?_⟩
          show Ok h1 (X + 23) _ _ (f_X12_join h1 (X + 23) (Int32.ofNat i) (Int32.ofNat j))
          rw [eM h1 H1, hb, if_pos rfl, if_neg hij, ia_nn (by omega), ia_nn (by omega), hg, if_neg (by decide)]
          refine w_do (w_holds H1 _) (fun h2 H2 => ?_)
          show Ok h2 (X + 23) _ _ (if (1 : Int32) = 0 then _ else _)
          rw [if_neg (by decide), w_rcv H2]
          have e5 : uJ s i j 2 = uJ (nk_u2 s 0 0 0) i j 2 := by
            funext y
            unfold uJ
            rw [u2_k s 0 0 0 _ (by decide), u2_k s 0 0 0 _ (by decide)]
            by_cases q1 : y = j
            · rw [q1, u2_eq, u2_eq]
            · rw [u2_j _ _ _ _ _ q1, u2_j _ _ _ _ _ q1]
              by_cases q2 : y = i
              · rw [q2, u2_eq, u2_eq]
              · rw [u2_j _ _ _ _ _ q2, u2_j _ _ _ _ _ q2, u2_k s 0 0 0 _ (by decide)]
          rw [e5]
          exact w_do (m_turns H2 hi hj hne) (fun h3 H3 => Ok.here H3)
        · by_cases q : k = 2
          · rw [q]
            unfold uJ
            rw [u2_k s 0 0 0 _ (by decide), u2_k s 0 0 0 _ (by decide)]
            by_cases q1 : y = j
            · rw [q1, u2_eq, u2_eq]
            · rw [u2_j _ _ _ _ _ q1, u2_j _ _ _ _ _ q1]
              by_cases q2 : y = i
              · rw [q2, u2_eq, u2_eq]
              · rw [u2_j _ _ _ _ _ q2, u2_j _ _ _ _ _ q2, u2_k s 0 0 0 _ (by decide)]
          · rw [uJ_k _ _ _ q, uJ_k _ _ _ q, u2_k s 0 0 0 _ hk]
        · rw [uJ_k _ _ _ (by decide), u2_eq]
theorem bi_cut (W : WR h X n w a c hr pa cp s s) (v u : Int32) : BI h X s (f_W_cut h (some X) v u (some (X + 56))) (fun h1 => f_X12_cut h1 (X + 23) v u) := by
  have eM : ∀ h1, St h1 (X + 23) s → f_X12_cut h1 (X + 23) v u = nk_do (f_X12_holds h1 (X + 23) (if (rg v 6 && rg u 6) = true then (if v = u then 2 else if gb (s 2 v.toNatClampNeg) u.toNatClampNeg = false then 3 else 0) else 1)) (fun h5 x6 => if x6 = 0 then f_X12_cut_c24 h5 0 else ((nk_rcv [19] h5 (some (X + 23))).bind fun a7 => nk_do (f_X12_turns h5 a7 v u) fun h8 x9 => f_X12_cut_c24 h8 x9)) := fun h1 H1 => by
    unfold f_X12_cut
    rw [w_rcv H1, show (0 : Int32) = b2i false from rfl, do_eq (m_errorOfLink H1 v u false), w_rcv H1]; rfl
  have eL : f_W_cut h (some X) v u (some (X + 56)) = nk_try hs_W_cut (f_X11_cut h X v u) fun h2 x3 => ((nk_wL h2 (some (X + 56)) 0 x3).bind fun h4 => some (h4, 0)) := by
    unfold f_W_cut
    rw [rX W]
  have k14 : nk_K h (X + 1) ∈ [14] := by rw [W.1.1.1.2.2.2.2.2.2.1.1]; decide
  obtain ⟨k1, k2, -⟩ := W.1.1.1
  cases hb : (rg v 6 && rg u 6) with
  | false =>
    refine BI.err W 1 (by decide) ?_ (fun h1 H1 => ?_)
    · rw [eL]
      unfold f_X11_cut
      rw [mb_two, hb, if_neg (by decide)]
      rfl
    · show ∃ r, Ok h1 (X + 23) _ r (f_X12_cut h1 (X + 23) v u)
      rw [eM h1 H1, hb]
      exact ⟨0, w_do (w_holds H1 _) (fun h2 H2 => Ok.here H2)⟩
  | true =>
    have hb2 := hb
    rw [Bool.and_eq_true] at hb2
    obtain ⟨i, rfl, hi⟩ := rg_ex (by decide) hb2.1
    obtain ⟨j, rfl, hj⟩ := rg_ex (by decide) hb2.2
    by_cases hij : Int32.ofNat i = Int32.ofNat j
    · refine BI.err W 2 (by decide) ?_ (fun h1 H1 => ?_)
      · rw [eL]
        unfold f_X11_cut
        rw [mb_two, hb, if_pos rfl, if_pos hij]
        rfl
      · show ∃ r, Ok h1 (X + 23) _ r (f_X12_cut h1 (X + 23) (Int32.ofNat i) (Int32.ofNat j))
        rw [eM h1 H1, hb, if_pos rfl, if_pos hij]
        exact ⟨0, w_do (w_holds H1 _) (fun h2 H2 => Ok.here H2)⟩
    · have hne : j ≠ i := fun e => hij (by rw [e])
      have e1 : ∀ {β : Type} (K : nk_H → Unit → Option (nk_H × (β ⊕ String))), nk_dt (f_X11_mustBeTwoKiosks h (Int32.ofNat i) (Int32.ofNat j)) K = K h () := fun K => by
        rw [mb_two, hb, if_pos rfl, if_neg hij]; rfl
      cases hg : gb (s 2 i) j with
      | false =>
        refine BI.err W 3 (by decide) ?_ (fun h1 H1 => ?_)
        · rw [eL]
          unfold f_X11_cut
          rw [e1, rd_P [18] (by rw [k1]; decide) k2, rd_r [14] k14, do_eq (q_areLinked W hi hj), ite_not, hg, if_pos rfl]
          rfl
        · show ∃ r, Ok h1 (X + 23) _ r (f_X12_cut h1 (X + 23) (Int32.ofNat i) (Int32.ofNat j))
          rw [eM h1 H1, hb, if_pos rfl, if_neg hij, ia_nn (by omega), ia_nn (by omega), hg, if_pos rfl]
          exact ⟨0, w_do (w_holds H1 _) (fun h2 H2 => Ok.here H2)⟩
      | true =>
        obtain ⟨h9, e9, n9, s9, W9⟩ := q_turn W hi hj hne
        have k14' : nk_K h9 (X + 1) ∈ [14] := by rw [W9.1.1.1.2.2.2.2.2.2.1.1]; decide
        obtain ⟨k1', k2', -⟩ := W9.1.1.1
        refine ⟨n, w, a, c, hr, uJ s i j, uJ (nk_u2 s 0 0 0) i j, 0, cnt (gb (uJ s i j 2 i)), ?_, fun h1 H1 => ?_, fun k y hk => ?_, ?_, fun e9 => absurd rfl e9, JX.ofJ (eq0_u s 0) hi hj hne (fun _ => cnt_nn _)⟩
        · rw [eL]
          refine wok_I ⟨h9, pa, cp, ?_, W9, by omega, by omega⟩
          unfold f_X11_cut
          rw [e1, rd_P [18] (by rw [k1]; decide) k2, rd_r [14] k14, do_eq (q_areLinked W hi hj), ite_not, hg, if_neg (by decide), rd_P [18] (by rw [k1]; decide) k2, rd_r [14] k14, do_eq e9, rd_P [18] (by rw [k1']; decide) k2', rd_r [14] k14', do_eq (q_degree W9 hi)]
        · refine ⟨_, fun _ => rfl, ?_⟩
          show Ok h1 (X + 23) _ _ (f_X12_cut h1 (X + 23) (Int32.ofNat i) (Int32.ofNat j))
          rw [eM h1 H1, hb, if_pos rfl, if_neg hij, ia_nn (by omega), ia_nn (by omega), hg, if_neg (by decide)]
          refine w_do (w_holds H1 _) (fun h2 H2 => ?_)
          show Ok h2 (X + 23) _ _ (if (1 : Int32) = 0 then _ else _)
          rw [if_neg (by decide), w_rcv H2]
          have e5 : uJ s i j 2 = uJ (nk_u2 s 0 0 0) i j 2 := by
            funext y
            unfold uJ
            rw [u2_k s 0 0 0 _ (by decide), u2_k s 0 0 0 _ (by decide)]
            by_cases q1 : y = j
            · rw [q1, u2_eq, u2_eq]
            · rw [u2_j _ _ _ _ _ q1, u2_j _ _ _ _ _ q1]
              by_cases q2 : y = i
              · rw [q2, u2_eq, u2_eq]
              · rw [u2_j _ _ _ _ _ q2, u2_j _ _ _ _ _ q2, u2_k s 0 0 0 _ (by decide)]
          rw [e5]
          exact w_do (m_turns H2 hi hj hne) (fun h3 H3 => Ok.here H3)
        · by_cases q : k = 2
          · rw [q]
            unfold uJ
            rw [u2_k s 0 0 0 _ (by decide), u2_k s 0 0 0 _ (by decide)]
            by_cases q1 : y = j
            · rw [q1, u2_eq, u2_eq]
            · rw [u2_j _ _ _ _ _ q1, u2_j _ _ _ _ _ q1]
              by_cases q2 : y = i
              · rw [q2, u2_eq, u2_eq]
              · rw [u2_j _ _ _ _ _ q2, u2_j _ _ _ _ _ q2, u2_k s 0 0 0 _ (by decide)]
          · rw [uJ_k _ _ _ q, uJ_k _ _ _ q, u2_k s 0 0 0 _ hk]
        · rw [uJ_k _ _ _ (by decide), u2_eq]
end JN
