section FX
variable {h h' : nk_H} {X n w a c hr : Nat} {pa cp : Nat → Nat} {s s' m : Nat → Nat → Int32}
theorem bi_tamper (W : WR h X n w a c hr pa cp s s) (v r u : Int32) : BI h X s (f_W_tamper h (some X) v r u (some (X + 56))) (fun h1 => f_X12_tamper h1 (X + 23) v r u) := by
  have hb := W.b
  have hN := W.N
  have ha : a ≤ 160 := by have := W.I.1.2.2.2.2.2.2.1; have := W.I.1.2.1; omega
  have eM : ∀ h1, St h1 (X + 23) s → f_X12_tamper h1 (X + 23) v r u = f_X12_tamper_c30 h1 (X + 23) v r u (if recB s v r = true then (if wi u 1 10000 = true then 0 else 2) else 1) (some (X + 23)) := fun h1 H1 => by
    unfold f_X12_tamper
    rw [w_rcv H1, do_eq (m_isRecord H1 W.I.2.2.2.2.2.1 ha v r), ite_not]
    cases recB s v r with
    | false => rfl
    | true =>
      rw [if_neg (by decide), do_eq (m_in h1 u 1 10000), ite_not]
      change (if wi u 1 10000 = false then _ else _) = _
      cases wi u 1 10000 <;> rfl
  have eL : f_W_tamper h (some X) v r u (some (X + 56)) = nk_try hs_W_tamper (f_X11_tamper h X v r u) fun h2 x3 => ((nk_wL h2 (some (X + 56)) 0 x3).bind fun h4 => some (h4, 0)) := by
    unfold f_W_tamper
    rw [rX W]
  have err : ∀ (h1 : nk_H) (H1 : St h1 (X + 23) s) (k : Int32), k ≠ 0 → Ok h1 (X + 23) (nk_u2 s 0 0 k) 0 (f_X12_tamper_c30 h1 (X + 23) v r u k (some (X + 23))) := fun h1 H1 k hk => by
    unfold f_X12_tamper_c30
    rw [w_rcv H1]
    refine w_do (w_holds H1 _) (fun h2 H2 => ?_)
    rw [decide_eq_false hk]
    exact Ok.here H2
  cases h0 : recB s v r with
  | false =>
    refine BI.err W 1 (by decide) ?_ (fun h1 H1 => ⟨0, ?_⟩)
    · rw [eL]
      unfold f_X11_tamper
      rw [rX W, dt_if (mb_record W v r), h0]
      rfl
    · show Ok h1 (X + 23) _ _ (f_X12_tamper h1 (X + 23) v r u)
      rw [eM h1 H1, h0]
      exact err h1 H1 1 (by decide)
  | true =>
    cases h2 : wi u 1 10000 with
    | false =>
      refine BI.err W 2 (by decide) ?_ (fun h1' H1 => ⟨0, ?_⟩)
      · rw [eL]
        unfold f_X11_tamper
        rw [rX W, dt_if (mb_record W v r), h0, if_pos rfl, dt_if (mb_within h u 1 10000), h2]
        rfl
      · show Ok h1' (X + 23) _ _ (f_X12_tamper h1' (X + 23) v r u)
        rw [eM h1' H1, h0, h2]
        exact err h1' H1 2 (by decide)
    | true =>
      obtain ⟨k, i, e, rfl, hk, rfl, hi, hir, he, ee, es⟩ := rec_ex W.I h0
      obtain ⟨k1, -, -, -, k2, -, -, -, ⟨k3, k4⟩, -⟩ := W.1.1.1
      obtain ⟨f1, f2, f3, L⟩ := ch_at W hk
      have k8 : nk_K h (ac s pa e) ∈ [8] := by rw [(act_K W he).1]; decide
      obtain ⟨-, -, -, a8, a9, a10, -⟩ := W.1.1.2.2.2.2.2.2.2.2.1 e he
      have b3 := (W.1.1.2.2.2.2.2.2.2.2.2 e he).2.2.1 3 (by decide)
      refine ⟨n, w, a, c, hr, nk_u2 s 33 (6 * e + 3) u, nk_u2 (nk_u2 s 0 0 0) 33 (6 * e + 3) u, 0, s 33 (6 * e + 3), ?_, fun h1' H1 => ⟨_, fun _ => rfl, ?_⟩, eq0_u2 (eq0_u s 0) 33 _ _, ?_, fun e9 => absurd rfl e9, JX.tam (eq0_u s 0) (by have := W.I.1.2.1; have := W.I.1.2.2.2.2.2.2.1; omega) h2⟩
      · rw [eL]
        refine wok_I ⟨nk_sI h (ac s pa e + 2) 3 u, pa, cp, ?_, W.tampered he u, by rw [nk_N_sI]; omega, by rw [nk_S_sI]; omega⟩
        unfold f_X11_tamper
        rw [rX W, dt_if (mb_record W _ _), h0, if_pos rfl, dt_if (mb_within h u 1 10000), h2, if_pos rfl, rd_P [18] (by rw [k1]; decide) k2, rd_q 3 k3 (by omega) (by omega) f1, rd_r [9] (by rw [f2]; decide), do_eq (q_actOf W hk hi he es), rd_P [8] k8 a8, show (3 : Int32) = Int32.ofNat 3 from rfl, rd_a 1 a9 (by omega) (by omega) b3, rd_P [8] k8 a8, wr_a _ a9 (by omega) (by omega)]
      · show Ok h1' (X + 23) _ _ (f_X12_tamper h1' (X + 23) _ _ u)
        rw [eM h1' H1, h0, h2]
        show Ok h1' (X + 23) _ _ (f_X12_tamper_c30 h1' (X + 23) _ _ u 0 (some (X + 23)))
        unfold f_X12_tamper_c30
        rw [w_rcv H1]
        refine w_do (w_holds H1 _) (fun h2 H2 => ?_)
        show Ok h2 (X + 23) _ _ (if (1 : Int32) = 0 then _ else _)
        rw [if_neg (by decide), m_act H2 hk (by omega) (by rw [u2_k _ _ _ _ _ (by decide)]; exact ee), show (3 : Int32) = Int32.ofNat 3 from rfl, ia_6, w_gP H2 33, w_aI H2 33 (by show 6 * e + 3 < 960; omega), w_gP H2 33, u2_k s 0 0 0 _ (by decide)]
        refine w_wI H2 33 _ (by show 6 * e + 3 < 960; omega) (fun h3 H3 => Ok.here H3)
      · rw [u2_k _ _ _ _ _ (by decide), u2_eq]
end FX
