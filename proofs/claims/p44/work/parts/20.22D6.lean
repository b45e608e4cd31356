section QQ
variable {h : nk_H} {X n w a c hr : Nat} {pa cp : Nat → Nat} {s s' m : Nat → Nat → Int32}
/-- a write into an object that is there -/
theorem wr_I {α : Type} {h : nk_H} {x : Nat} (ks : List Nat) (k : Nat) (v : Int32) (hk : nk_K h x ∈ ks) (K : nk_H → Option (nk_H × α)) : (nk_pI ks k h (some x) v).bind K = K (nk_sI h x k v) := by
  simp [nk_pI, hk]
theorem wr_P {α : Type} {h : nk_H} {x : Nat} (ks : List Nat) (k : Nat) (v : Option Nat) (hk : nk_K h x ∈ ks) (K : nk_H → Option (nk_H × α)) : (nk_pP ks k h (some x) v).bind K = K (nk_sP h x k v) := by
  simp [nk_pP, hk]
theorem al_K (h : nk_H) (k nn ww : Nat) : nk_K (nk_al h k nn ww) (nk_N h) = k := by rw [nk_K_al, nk_u1_eq]
/-- a deed, as it is now -/
theorem q_deed (W : WR h X n w a c hr pa cp s m) (v1 v2 v3 : Int32) : ∃ h5, f_X11_deedNow h X v1 v2 v3 = some (h5, some (nk_N h)) ∧ Gn h h5 no no ∧ nk_N h5 = nk_N h + 1 ∧ nk_S h5 = nk_S h + 6 ∧ nk_K h5 (nk_N h) = 11 ∧ nk_I h5 (nk_N h) 0 = v1 ∧ nk_I h5 (nk_N h) 1 = s 1 0 ∧ nk_I h5 (nk_N h) 2 = v2 ∧ nk_I h5 (nk_N h) 3 = s 28 0 ∧ nk_I h5 (nk_N h) 4 = v3 ∧ nk_I h5 (nk_N h) 5 = s 27 0 := by
  have hN := W.N
  have W1 := W.al 11 0 6
  obtain ⟨g1, g2, g3, -⟩ := W1.1.2.1
  obtain ⟨-, -, p3⟩ := k15 W1
  have hd : nk_K (nk_al h 11 0 6) (nk_N h) ∈ [11] := by rw [al_K]; decide
  refine ⟨nk_sI (nk_sI (nk_sI (nk_sI (nk_sI (nk_sI (nk_al h 11 0 6) (nk_N h) 0 v1) (nk_N h) 1 (s 1 0)) (nk_N h) 2 v2) (nk_N h) 3 (s 28 0)) (nk_N h) 4 v3) (nk_N h) 5 (s 27 0), ?_, ?_, rfl, rfl, al_K h 11 0 6, ?_, ?_, ?_, ?_, ?_, ?_⟩
  · unfold f_X11_deedNow f_X3_init
    rw [Option.bind_some, rd_I [18] p3 g1, rd_I [18] p3 g3, rd_I [18] p3 g2]
    rw [wr_I [11] 0 v1 hd, wr_I [11] 1 _ (by exact hd), wr_I [11] 2 _ (by exact hd), wr_I [11] 3 _ (by exact hd), wr_I [11] 4 _ (by exact hd), wr_I [11] 5 _ (by exact hd)]
    rfl
  · have b : nk_N h ≤ nk_N h := Nat.le_refl _
    have G0 := Gn_al h 11 0 6 no no
    have st : ∀ (h9 : nk_H) (k : Nat) (v : Int32), Gn h h9 no no → nk_N h ≤ nk_N h → Gn h (nk_sI h9 (nk_N h) k v) no no := fun h9 k v G _ => by
      obtain ⟨b1, b2, b3, b4⟩ := G
      refine ⟨b1, b2, b3, fun x hx => ?_⟩
      obtain ⟨c1, c2, c3, c4⟩ := b4 x hx
      refine ⟨c1, c2, c3, fun z => ?_⟩
      rw [← c4 z]
      funext y
      exact nk_u2_ne _ _ _ _ y (by omega)
    exact st _ _ _ (st _ _ _ (st _ _ _ (st _ _ _ (st _ _ _ (st _ _ _ G0 b) b) b) b) b) b
  all_goals simp [nk_I_sI, nk_u2]
theorem SE.gn {h h' : nk_H} {B : Int32} {DI DP : Nat → Prop} (H : SE h X n s B) (G : Gn h h' DI DP) (hN : X + 57 ≤ nk_N h) (d : ¬ DI (X + 6)) : SE h' X n s B := fun j hj => by
  rw [(G.2.2.2 (X + 6) (by omega)).2.2.2 d]; exact H j hj
/-- two places -/
theorem wq2_I {hs : nk_Hs} {f : Option (nk_H × (Int32 ⊕ String))} {n' w' a' c' hr' : Nat} {b d : Bool} {val : Int32} (e : VOK h X m n' w' a' c' hr' s' (if b = true then (if d = true then .inl val else .inr nk_IA) else .inr nk_IX) f) (hk : nk_kx hs 1 nk_IX = some 1) (hk2 : nk_kx hs 1 nk_IA = some 2) : WOK h X m n' w' a' c' hr' s' (if b = true then (if d = true then 0 else 2) else 1) val (nk_try hs f fun h2 x => (nk_wL h2 (some (X + 56)) 0 x).bind fun h4 => some (h4, 0)) := by
  cases b with
  | true =>
    cases d with
    | true => exact wok_I e
    | false => exact wok_X e hk2 (by decide)
  | false => exact wok_X e hk (by decide)
/-- against -/
theorem cl_against (W : WR h X n w a c hr pa cp s m) (v p u amt : Int32) : WOK h X m n w a c hr s (if (rg v 6 && rg p 10 && rg u w) = true then (if wi amt 1 10000 = true then 0 else 2) else 1) (reasonS s n w v v (s 1 0) p u.toNatClampNeg (s 28 0) amt (s 27 0)) (f_W_against h (some X) v p u amt (some (X + 56))) := by
  have hb := W.b
  unfold f_W_against
  rw [rX W]
  refine wq2_I ?_ rfl rfl
  unfold f_X11_against
  rw [dt_if (mb_kiosk h v)]
  cases h0 : rg v 6 with
  | false => exact VOK.thrown W _
  | true =>
    rw [if_pos rfl, dt_if (mb_person h p)]
    cases h01 : rg p 10 with
    | false => exact VOK.thrown W _
    | true =>
      rw [if_pos rfl, rX W, dt_if (mb_power W u)]
      cases h1 : rg u w with
      | false => exact VOK.thrown W _
      | true =>
        rw [if_pos rfl, dt_if (mb_within h amt 1 10000)]
        cases h2 : wi amt 1 10000 with
        | false => exact VOK.thrown W _
        | true =>
          obtain ⟨k, rfl, hk⟩ := rg_ex (by decide) h0
          obtain ⟨q, rfl, hq⟩ := rg_ex (by omega) h1
          obtain ⟨p1, p2, p3⟩ := k15 W
          obtain ⟨h2, e1, S, hS⟩ := look_read W.1.1 W.I W.N hk
          have W2 := W.seen S
          obtain ⟨q1, q2, q3⟩ := k15 W2
          obtain ⟨h5, e5, G5, n5, s5, d0, d1, d2, d3, d4, d5, d6⟩ := q_deed W2 (Int32.ofNat k) p amt
          have W5 := W2.gn (G5.mono (fun _ z => z.elim) (fun _ z => z))
          obtain ⟨r1, r2, r3⟩ := k15 W5
          have hS5 := hS.gn G5 W2.N id
          obtain ⟨⟨ob, eo⟩, ⟨kd, hkd, ekd⟩, -⟩ := W.I.2.2.2.2.2.2.2.1
          have hre := q_reason W5.1.1 W5.I hS5 hq d0 hkd eo d1 d2 d3 (d4.trans ekd) d5 d6
          rw [if_pos rfl, rd_P [18] p3 p1, rd_r [15] p2, do_eq e1, rd_P [18] q3 q1, to_power W2 hq, rX W2, do_eq e5, rd_r [15] r2, do_eq hre, ia_nn (n := q) (by omega), ekd]
          exact ⟨h5, pa, cp, rfl, W5, by rw [n5, S.2.2.2.1]; omega, by rw [s5, S.2.2.2.2.1]; omega⟩
theorem md_against {M : Nat} (H : St h M s) (hI : Inv s n w a c hr) (v p u amt : Int32) : ∃ r, ((if (rg v 6 && rg p 10 && rg u w) = true then (if wi amt 1 10000 = true then (0 : Int32) else 2) else 1) = 0 → r = reasonS s n w v v (s 1 0) p u.toNatClampNeg (s 28 0) amt (s 27 0)) ∧ Ok h M (nk_u2 s 0 0 (if (rg v 6 && rg p 10 && rg u w) = true then (if wi amt 1 10000 = true then 0 else 2) else 1)) r (f_X12_against h M v p u amt) := by
  have hw := hI.1.2.2.2.1
  have e : f_X12_against h M v p u amt = f_X12_against_c36 h M v p u amt (if (rg v 6 && rg p 10 && rg u w) = true then (if wi amt 1 10000 = true then 0 else 2) else 1) (some M) := by
    unfold f_X12_against
    rw [w_rcv H, do_eq (m_areThere H hI.1.2.2.1 hw v p u), ite_not]
    cases (rg v 6 && rg p 10 && rg u w) with
    | false => rfl
    | true =>
      rw [if_neg (by decide), do_eq (m_in h amt 1 10000), ite_not]
      unfold wi
      cases (decide ((1 : Int32) ≤ amt) && decide (amt ≤ 10000)) <;> rfl
  rw [e]
  unfold f_X12_against_c36 f_X12_against_c55
  rw [w_rcv H]
  cases hb : (rg v 6 && rg p 10 && rg u w) with
  | false =>
    show ∃ r, ((1 : Int32) = 0 → r = _) ∧ Ok h M (nk_u2 s 0 0 1) r (nk_do (f_X12_holds h M 1) _)
    exact ⟨0, fun e => absurd e (by decide), w_do (w_holds H _) (fun h1 H1 => Ok.here H1)⟩
  | true =>
    cases hc : wi amt 1 10000 with
    | false =>
      show ∃ r, ((2 : Int32) = 0 → r = _) ∧ Ok h M (nk_u2 s 0 0 2) r (nk_do (f_X12_holds h M 2) _)
      exact ⟨0, fun e => absurd e (by decide), w_do (w_holds H _) (fun h1 H1 => Ok.here H1)⟩
    | true =>
      show ∃ r, ((0 : Int32) = 0 → r = _) ∧ Ok h M (nk_u2 s 0 0 0) r (nk_do (f_X12_holds h M 0) _)
      refine ⟨_, fun _ => rfl, w_do (w_holds H _) (fun h1 H1 => ?_)⟩
      rw [Bool.and_eq_true, Bool.and_eq_true] at hb
      obtain ⟨k, rfl, hk⟩ := rg_ex (by decide) hb.1.1
      obtain ⟨q, rfl, hq⟩ := rg_ex (by omega) hb.2
      have hI1 : Inv (nm h1 M) n w a c hr := by rw [H1.2]; exact hI.eq0 (eq0_u s _)
      have hre := m_reasonNow H1.1 hI1 (by_k hk) p amt hq
      rw [H1.2, reasonS_0 (eq0_u s _), u2_k _ _ _ _ _ (by decide), u2_k _ _ _ _ _ (by decide), u2_k _ _ _ _ _ (by decide)] at hre
      show Ok h1 M _ _ (if (1 : Int32) = 0 then _ else _)
      rw [if_neg (by decide), w_rcv H1, do_eq hre, ia_nn (n := q) (by omega)]
      exact Ok.here H1
end QQ
