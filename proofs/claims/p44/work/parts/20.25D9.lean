section QQ
variable {h : nk_H} {X n w a c hr : Nat} {pa cp : Nat → Nat} {s s' m : Nat → Nat → Int32}
/-- broken -/
def brkB (s : Nat → Nat → Int32) (k r : Nat) : Bool := !decide (nowS s k r = s 35 (sN s 31 (160 * k + r)))
def brkS (s : Nat → Nat → Int32) (k : Nat) : Int32 := match firstB (brkB s k) (sN s 30 k) with
  | some r => Int32.ofNat r
  | none => -1
theorem mt_some {α : Type} (o : Option Nat) (f : Nat → Int32) (z : Int32) (g : Int32 → α) : (match o with
  | some r => g (f r)
  | none => g z) = g (match o with
  | some r => f r
  | none => z) := by cases o <;> rfl
theorem q_firstBroken (W : WR h X n w a c hr pa cp s m) {k : Nat} (hk : k < 6) : f_X1_firstBroken h (X + 9 + 2 * k) = some (h, brkS s k) := by
  have hb := W.b
  obtain ⟨f1, f2, f3, L⟩ := ch_at W hk
  obtain ⟨x, ex, hx, hact⟩ := W.I.2.2.2.2.2.1.1 k hk
  have er : sN s 30 k = x := sN_of ex (by omega)
  unfold f_X1_firstBroken
  have key := loop_first (P := brkB s k) (N := sN s 30 k) (F := fun k9 z => f_X1_firstBroken_b2 k9 h (X + 9 + 2 * k) z) (a0 := some (h, (-1 : Int32))) (a1 := fun r => some (h, Int32.ofNat r)) (fun k9 i hi => by
      show f_X1_firstBroken_c2 (f_X1_firstBroken_b2 k9) h (X + 9 + 2 * k) (Int32.ofNat i) = _
      unfold f_X1_firstBroken_c2
      rw [rd_P [9] (by rw [f2]; decide) f3, rd_r [7] (by rw [L.1]; decide), do_eq (ls_size L)]
      by_cases h1 : sN s 30 k ≤ i
      · rw [if_pos ((ia_le (by omega) (by omega)).mpr h1), if_pos h1]
      · obtain ⟨e, he, ee⟩ := hact i (by omega)
        have es : sN s 31 (160 * k + i) = e := sN_of ee (by omega)
        rw [if_neg (fun e => h1 ((ia_le (by omega) (by omega)).mp e)), if_neg h1, rd_P [9] (by rw [f2]; decide) f3, rd_r [7] (by rw [L.1]; decide), do_eq (ls_get L (i := i) (by omega)), es, rd_c [8] (by rw [(act_K W he).1]; decide), rd_r [9] (by rw [f2]; decide), do_eq (q_sealNow W hk (r := i) (by omega) he es), rd_I [8] (by rw [(act_K W he).1]; decide) (W.1.1.2.2.2.2.2.2.2.2.2 e he).1, ia_1]
        unfold brkB
        rw [es]
        by_cases h2 : nowS s k i = s 35 e
        · rw [if_pos h2, decide_eq_true h2]; rfl
        · rw [if_neg h2, decide_eq_false h2]; rfl) 4096 0 (by omega) (by omega) (fun j hj => by omega)
  show f_X1_firstBroken_b2 4096 h (X + 9 + 2 * k) (Int32.ofNat 0) = _
  rw [key]
  unfold brkS
  cases firstB (brkB s k) (sN s 30 k) <;> rfl
theorem cl_broken (W : WR h X n w a c hr pa cp s m) (v : Int32) : WOK h X m n w a c hr s (if rg v 6 = true then 0 else 1) (brkS s v.toNatClampNeg) (f_W_broken h (some X) v (some (X + 56))) := by
  unfold f_W_broken
  rw [rX W]
  refine wq_I (VOK.iff W ?_) rfl
  obtain ⟨k1, -, -, -, k2, -, -, -, ⟨k3, k4⟩, -⟩ := W.1.1.1
  unfold f_X11_broken
  rw [dt_if (mb_kiosk h v)]
  cases h0 : rg v 6 with
  | false => rfl
  | true =>
    obtain ⟨k, rfl, hk⟩ := rg_ex (by decide) h0
    obtain ⟨f1, f2, f3, L⟩ := ch_at W hk
    rw [if_pos rfl, if_pos rfl, rd_P [18] (by rw [k1]; decide) k2, rd_q 3 k3 (by omega) (by omega) f1, rd_r [9] (by rw [f2]; decide), do_eq (q_firstBroken W hk), ia_nn (by omega)]
theorem nowS_0 (e : eq0 s s') (k r : Nat) : nowS s' k r = nowS s k r := by
  unfold nowS aheadS sN
  rw [e.f 31 (by decide), e.f 33 (by decide), e.f 35 (by decide)]
theorem brkS_0 (e : eq0 s s') (k : Nat) : brkS s' k = brkS s k := by
  have : brkB s' k = brkB s k := by
    funext r
    unfold brkB sN
    rw [nowS_0 e, e.f 31 (by decide), e.f 35 (by decide)]
  unfold brkS
  rw [this, e.esN (by decide)]
theorem m_broken {M : Nat} (H : St h M s) (hI : Inv s n w a c hr) {k : Nat} (hk : k < 6) : f_X12_broken_b23 4096 h M (Int32.ofNat k) 0 = some (h, brkS s k) := by
  have ha : a ≤ 160 := by have := hI.1.2.2.2.2.2.2.1; have := hI.1.2.1; omega
  obtain ⟨x, ex, hx, hact⟩ := hI.2.2.2.2.2.1.1 k hk
  have er : sN s 30 k = x := sN_of ex (by omega)
  have key := loop_first (P := brkB s k) (N := x) (F := fun k9 z => f_X12_broken_b23 k9 h M (Int32.ofNat k) z) (a0 := some (h, (-1 : Int32))) (a1 := fun r => some (h, Int32.ofNat r)) (fun k9 i hi => by
      show f_X12_broken_c23 (f_X12_broken_b23 k9) h M (Int32.ofNat k) (Int32.ofNat i) = _
      unfold f_X12_broken_c23
      rw [w_gP H 30, w_aI H 30 (by show k < 6; omega), ex]
      by_cases h1 : x ≤ i
      · rw [if_pos ((ia_le (by omega) (by omega)).mpr h1), if_pos h1]
      · obtain ⟨e, he, ee⟩ := hact i (by omega)
        have es : sN s 31 (160 * k + i) = e := sN_of ee (by omega)
        have hah : i ≠ 0 → ∃ e, e < 160 ∧ s 31 (160 * k + (i - 1)) = Int32.ofNat e := fun h0 => by
          obtain ⟨e', he', ee'⟩ := hact (i - 1) (by omega)
          exact ⟨e', by omega, ee'⟩
        rw [if_neg (fun e => h1 ((ia_le (by omega) (by omega)).mp e)), if_neg h1, w_rcv H, do_eq (m_sealNow H ha hk (r := i) (by omega) hah ⟨e, by omega, ee⟩), w_gP H 35, m_act H hk (i := i) (by omega) ee, w_aI H 35 (by show e < 160; omega), ia_1]
        unfold brkB
        rw [es]
        by_cases h2 : nowS s k i = s 35 e
        · rw [if_pos h2, decide_eq_true h2]; rfl
        · rw [if_neg h2, decide_eq_false h2]; rfl) 4096 0 (by omega) (by omega) (fun j hj => by omega)
  show f_X12_broken_b23 4096 h M (Int32.ofNat k) (Int32.ofNat 0) = _
  rw [key]
  unfold brkS
  rw [er]
  cases firstB (brkB s k) x <;> rfl
theorem md_broken {M : Nat} (H : St h M s) (hI : Inv s n w a c hr) (v : Int32) : ∃ r, ((if rg v 6 = true then (0 : Int32) else 1) = 0 → r = brkS s v.toNatClampNeg) ∧ Ok h M (nk_u2 s 0 0 (if rg v 6 = true then 0 else 1)) r (f_X12_broken h M v) := by
  have e : f_X12_broken h M v = f_X12_broken_c13 h M v (if rg v 6 = true then 0 else 1) (some M) := by
    unfold f_X12_broken
    rw [do_eq (m_isKiosk h v), ite_not]
    cases rg v 6 <;> rfl
  rw [e]
  unfold f_X12_broken_c13
  refine mq H (r := 0) (rg v 6) (fun _ h1 H1 => rfl) (fun hb h1 H1 => ?_)
  obtain ⟨k, rfl, hk⟩ := rg_ex (by decide) hb
  rw [if_neg (by decide), m_broken H1 (hI.eq0 (eq0_u s 0)) hk, brkS_0 (eq0_u s 0), ia_nn (by omega)]
/-- choices -/
def chcS (s : Nat → Nat → Int32) (n w : Nat) (v p amt : Int32) : Int32 := sumB (fun q => b2i (decide (reasonS s n w v v (s 1 0) p q (s 28 0) amt (s 27 0) = 0))) w
theorem cl_choices (W : WR h X n w a c hr pa cp s m) (v p amt : Int32) : WOK h X m n w a c hr s (if (rg v 6 && rg p 10) = true then (if wi amt 1 10000 = true then 0 else 2) else 1) (chcS s n w v p amt) (f_W_choices h (some X) v p amt (some (X + 56))) := by
  have hb := W.b
  unfold f_W_choices
  rw [rX W]
  refine wq2_I ?_ rfl rfl
  unfold f_X11_choices
  rw [dt_if (mb_kiosk h v)]
  cases h0 : rg v 6 with
  | false => exact VOK.thrown W _
  | true =>
    rw [if_pos rfl, dt_if (mb_person h p)]
    cases h01 : rg p 10 with
    | false => exact VOK.thrown W _
    | true =>
      rw [if_pos rfl, dt_if (mb_within h amt 1 10000)]
      cases h2 : wi amt 1 10000 with
      | false => exact VOK.thrown W _
      | true =>
        obtain ⟨k, rfl, hk⟩ := rg_ex (by decide) h0
        obtain ⟨h5, e5, G5, n5, s5, d0, d1, d2, d3, d4, d5, d6⟩ := q_deed W (Int32.ofNat k) p amt
        have W5 := W.gn (G5.mono (fun _ z => z.elim) (fun _ z => z))
        obtain ⟨r1, r2, r3⟩ := k15 W5
        obtain ⟨h6, e6, S, hS⟩ := look_read W5.1.1 W5.I W5.N hk
        have W6 := W5.seen S
        obtain ⟨q1, q2, q3⟩ := k15 W6
        obtain ⟨⟨ob, eo⟩, ⟨kd, hkd, ekd⟩, -⟩ := W.I.2.2.2.2.2.2.2.1
        have hdx : nk_N h ≠ X + 6 := by have := W.N; omega
        have eI := S.2.2.2.2.2.2.2 (nk_N h) hdx
        have hre := fun q (hq : q < w) => q_reason W6.1.1 W6.I hS hq (d := nk_N h) (k0 := Int32.ofNat k) (t := s 1 0) (person := p) (amt := amt) (off := s 27 0) (by rw [S.1]; exact d0) hkd eo (by rw [eI]; exact d1) (by rw [eI]; exact d2) (by rw [eI]; exact d3) (by rw [eI]; exact d4.trans ekd) (by rw [eI]; exact d5) (by rw [eI]; exact d6)
        obtain ⟨k1, -, -, k2, -⟩ := W6.1.1.1
        have L := W6.1.2.2.2.2.2.1.2.1
        have key := loop_sum (g := fun q => b2i (decide (reasonS s n w (Int32.ofNat k) (Int32.ofNat k) (s 1 0) p q (s 28 0) amt (s 27 0) = 0))) (N := w) (F := fun k9 acc z => f_X11_choices_b39 k9 h6 X (some (nk_N h)) acc z) (A := fun acc => some (h6, (.inl acc : Int32 ⊕ String))) (fun k9 i acc hi => by
            show f_X11_choices_c39 (f_X11_choices_b39 k9) h6 X (some (nk_N h)) acc (Int32.ofNat i) = _
            unfold f_X11_choices_c39 f_X11_choices_c78
            rw [rd_P [18] (by rw [k1]; decide) k2, rd_r [7] (by rw [L.1]; decide), do_eq (ls_size L)]
            by_cases h1 : w ≤ i
            · rw [if_pos ((ia_le (by omega) (by omega)).mpr h1), if_pos h1]
            · rw [if_neg (fun e => h1 ((ia_le (by omega) (by omega)).mp e)), if_neg h1, rd_P [18] q3 q1, to_power W6 (q := i) (by omega), rd_r [15] q2, do_eq (hre i (by omega)), ekd, ia_1]
              by_cases h9 : reasonS s n w (Int32.ofNat k) (Int32.ofNat k) (s 1 0) p i (Int32.ofNat kd) amt (s 27 0) = 0
              · rw [if_pos h9, decide_eq_true h9]; rfl
              · rw [if_neg h9, decide_eq_false h9]; simp [b2i]) 4096 0 (by omega) (by omega)
        rw [if_pos rfl, rX W, do_eq e5, rd_P [18] r3 r1, rd_r [15] r2, do_eq e6]
        have e7 : f_X11_choices_b39 4096 h6 X (some (nk_N h)) 0 0 = some (h6, .inl (chcS s n w (Int32.ofNat k) p amt)) := key
        rw [e7]
        exact ⟨h6, pa, cp, rfl, W6, by rw [S.2.2.2.1, n5]; omega, by rw [S.2.2.2.2.1, s5]; omega⟩
theorem md_choices {M : Nat} (H : St h M s) (hI : Inv s n w a c hr) (v p amt : Int32) : ∃ r, ((if (rg v 6 && rg p 10) = true then (if wi amt 1 10000 = true then (0 : Int32) else 2) else 1) = 0 → r = chcS s n w v p amt) ∧ Ok h M (nk_u2 s 0 0 (if (rg v 6 && rg p 10) = true then (if wi amt 1 10000 = true then 0 else 2) else 1)) r (f_X12_choices h M v p amt) := by
  have hw := hI.1.2.2.2.1
  have e : f_X12_choices h M v p amt = f_X12_choices_c47 h M v p amt (if (rg v 6 && rg p 10) = true then (if wi amt 1 10000 = true then 0 else 2) else 1) (some M) := by
    unfold f_X12_choices f_X12_choices_c18 f_X12_choices_c19
    rw [do_eq (m_isKiosk h v), ite_not]
    cases rg v 6 with
    | false => rfl
    | true =>
      rw [if_neg (by decide), do_eq (m_isPerson h p), ite_not]
      cases rg p 10 with
      | false => rfl
      | true =>
        rw [if_neg (by decide), if_neg (by decide), do_eq (m_in h amt 1 10000), ite_not]
        unfold wi
        cases (decide ((1 : Int32) ≤ amt) && decide (amt ≤ 10000)) <;> rfl
  rw [e]
  unfold f_X12_choices_c47
  rw [w_rcv H]
  cases hb : (rg v 6 && rg p 10) with
  | false =>
    show ∃ r, ((1 : Int32) = 0 → r = _) ∧ Ok h M (nk_u2 s 0 0 1) r (nk_do (f_X12_holds h M 1) _)
    exact ⟨0, fun e => absurd e (by decide), w_do (w_holds H _) (fun h1 H1 => Ok.here H1)⟩
  | true =>
    cases hc : wi amt 1 10000 with
    | false =>
      show ∃ r, ((2 : Int32) = 0 → r = _) ∧ Ok h M (nk_u2 s 0 0 2) r (nk_do (f_X12_holds h M 2) _)
      exact ⟨0, fun e => absurd e (by decide), w_do (w_holds H _) (fun h1 H1 => Ok.here H1)⟩
    | true =>
      show ∃ r, ((0 : Int32) = 0 → r = _) ∧ Ok h M (nk_u2 s 0 0 0) r (nk_do (f_X12_holds h M 0) _)
      refine ⟨_, fun _ => rfl, w_do (w_holds H _) (fun h1 H1 => ?_)⟩
      rw [Bool.and_eq_true] at hb
      obtain ⟨k, rfl, hk⟩ := rg_ex (by decide) hb.1
      have hI1 : Inv (nm h1 M) n w a c hr := by rw [H1.2]; exact hI.eq0 (eq0_u s _)
      have key := loop_sum (g := fun q => b2i (decide (reasonS s n w (Int32.ofNat k) (Int32.ofNat k) (s 1 0) p q (s 28 0) amt (s 27 0) = 0))) (N := w) (F := fun k9 acc z => f_X12_choices_b61 k9 h1 M (Int32.ofNat k) p amt acc z) (A := fun acc => some (h1, acc)) (fun k9 i acc hi => by
          show f_X12_choices_c61 (f_X12_choices_b61 k9) h1 M (Int32.ofNat k) p amt acc (Int32.ofNat i) = _
          unfold f_X12_choices_c61 f_X12_choices_c89
          rw [w_gI H1 12, u2_k _ _ _ _ _ (by decide), hI.1.2.2.1]
          by_cases h1 : w ≤ i
          · rw [if_pos ((ia_le (by omega) (by omega)).mpr h1), if_pos h1]
          · have hre := m_reasonNow H1.1 hI1 (by_k hk) p amt (q := i) (by omega)
            rw [H1.2, reasonS_0 (eq0_u s _), u2_k _ _ _ _ _ (by decide), u2_k _ _ _ _ _ (by decide), u2_k _ _ _ _ _ (by decide)] at hre
            rw [if_neg (fun e => h1 ((ia_le (by omega) (by omega)).mp e)), if_neg h1, w_rcv H1, do_eq hre, ia_1]
            by_cases h9 : reasonS s n w (Int32.ofNat k) (Int32.ofNat k) (s 1 0) p i (s 28 0) amt (s 27 0) = 0
            · rw [if_pos h9, decide_eq_true h9]; rfl
            · rw [if_neg h9, decide_eq_false h9]; rfl) 4096 0 (by omega) (by omega)
      show Ok h1 M _ _ (f_X12_choices_b61 4096 h1 M (Int32.ofNat k) p amt 0 0)
      have e7 : f_X12_choices_b61 4096 h1 M (Int32.ofNat k) p amt 0 0 = some (h1, chcS s n w (Int32.ofNat k) p amt) := key
      rw [e7]
      exact Ok.here H1
end QQ
