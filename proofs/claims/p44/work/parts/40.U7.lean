/-! ===== an act: isActSo ===== -/
section U7
variable {h : nk_H} {x y N S : Nat} {m m' : Nat → Nat → Int32} {n w a c hr k q : Nat} {am : Int32} {Q : nk_H → Int32 → Prop}
theorem WI.doesOk {f : nk_H → Nat → Option (nk_H × (Int32 ⊕ String))} {hs L : nk_Hs} {s2' : Nat → Nat → Int32} {val' : Int32} {F : Option (nk_H × Int32)} (ok : hsok L hs) (B : TB h x y m m' N S) (eF : F = ((nk_rcv [18] h (some x)).bind fun a => nk_tr L (f h a) fun h2 x3 => some (h2, x3)))
    (o : ∃ h1 r, f h x = some (h1, r) ∧ EN hs 0 val' r ∧ TB h1 x y s2' m' (N + 1000) (S + 10000)) {K : nk_H → Int32 → Option (nk_H × Int32)} (kk : ∀ h1, TB h1 x y s2' m' (N + 1000) (S + 10000) → WI Q (K h1 val')) : WI Q (nk_do F K) :=
  WI.does ok B eF o (fun h1 B1 => by rw [if_pos rfl]; exact kk h1 B1)
theorem WI.doesNo {f : nk_H → Nat → Option (nk_H × (Int32 ⊕ String))} {hs L : nk_Hs} {s2' : Nat → Nat → Int32} {code' val' : Int32} {F : Option (nk_H × Int32)} (ok : hsok L hs) (B : TB h x y m m' N S) (eF : F = ((nk_rcv [18] h (some x)).bind fun a => nk_tr L (f h a) fun h2 x3 => some (h2, x3))) (nz : code' ≠ 0)
    (o : ∃ h1 r, f h x = some (h1, r) ∧ EN hs code' val' r ∧ TB h1 x y s2' m' (N + 1000) (S + 10000)) {K : nk_H → Int32 → Option (nk_H × Int32)} (kk : ∀ h1, TB h1 x y s2' m' (N + 1000) (S + 10000) → WI Q (K h1 (-9999999))) : WI Q (nk_do F K) :=
  WI.does ok B eF o (fun h1 B1 => by rw [if_neg nz]; exact kk h1 B1)
theorem fd_act (o : Option Nat) (x y z u : Int32) : f_L_does h o (Int32.ofNat 8) x y z u = ((nk_rcv [18] h o).bind fun a => nk_tr hs_L_does (f_X11_act h a x y z u) fun h2 x3 => some (h2, x3)) := by
  unfold f_L_does f_L_does_c220
  simp only [if_neg (show ¬ Int32.ofNat 8 = 0 by decide), if_neg (show ¬ Int32.ofNat 8 = 1 by decide), if_neg (show ¬ Int32.ofNat 8 = 2 by decide), if_neg (show ¬ Int32.ofNat 8 = 3 by decide), if_neg (show ¬ Int32.ofNat 8 = 4 by decide), if_neg (show ¬ Int32.ofNat 8 = 5 by decide), if_neg (show ¬ Int32.ofNat 8 = 6 by decide), if_neg (show ¬ Int32.ofNat 8 = 7 by decide), if_pos (show Int32.ofNat 8 = 8 by decide)]
theorem hs_act_ok : hsok hs_L_does hs_W_act := hsok_all (by decide +kernel)
theorem ma_err {M : Nat} {s : Nat → Nat → Int32} (H : St h M s) (hI : Inv s n w a c hr) {v u p am code : Int32} (hc : code ≠ 0) (ec : eacS s n w v u p am = code) : Ok h M (nk_u2 s 0 0 code) 0 (f_X12_act h M v u p am) := by
  unfold f_X12_act
  rw [w_rcv H, do_eq (m_errorOfAct H hI v u p am), w_rcv H, ec]
  refine w_do (w_holds H _) (fun h2 H2 => ?_)
  rw [decide_eq_false hc]
  exact Ok.here H2
theorem act_no (B : TB h x y m m' N S) (I : Inv m n w a c hr) {v u p am code : Int32} (hc : code ≠ 0) (ec : eacS m n w v u p am = code) : ∃ h1 r, f_X11_act h x v u p am = some (h1, r) ∧ EN hs_W_act code 0 r ∧ TB h1 x y m m' (N + 1000) (S + 10000) := by
  have o := op_at B (tm_act B.1 v u p am) (fun h1 H1 => ⟨0, fun _ => rfl, ma_err H1 I hc ec⟩) (u2_eq _ _ _ _) (code' := code) (val' := 0) (f := fun h z => f_X11_act h z v u p am)
  rw [norm1 B] at o
  exact o.2.2
theorem act_ok (B : TB h x y m m' N S) (I : Inv m n w a c hr) (hn : n < 160) (hk : k < 6) {r : Nat} (hr9 : r = sN m 30 k) (hq : q < w) {pe : Int32} (he : eacS m n w (Int32.ofNat k) pe (Int32.ofNat q) am = 0) : ∃ h1 r1, f_X11_act h x (Int32.ofNat k) pe (Int32.ofNat q) am = some (h1, r1) ∧ EN hs_W_act 0 (Int32.ofNat r) r1 ∧ TB h1 x y (uA m n w a k r pe (Int32.ofNat q) am) m' (N + 1000) (S + 10000) := by
  have u0 : uA (nk_u2 m 0 0 0) n w a k r pe (Int32.ofNat q) am 0 = nk_u2 m 0 0 0 0 := by
    unfold uA
    rw [uAf_O _ _ _ _ _ _ _ _ _ _ (by omega)]
  have u1 : uA m n w a k r pe (Int32.ofNat q) am 0 = m 0 := by
    unfold uA
    rw [uAf_O _ _ _ _ _ _ _ _ _ _ (by omega)]
  have o := op_at B (tm_act B.1 (Int32.ofNat k) pe (Int32.ofNat q) am) (fun h1 H1 => ⟨_, fun _ => rfl, m_actOk H1 I hn hk hr9 hq pe am he⟩) (by rw [u0, u2_eq]) (code' := 0) (f := fun h z => f_X11_act h z (Int32.ofNat k) pe (Int32.ofNat q) am)
  have en : nk_u2 (uA (nk_u2 m 0 0 0) n w a k r pe (Int32.ofNat q) am) 0 0 0 = uA m n w a k r pe (Int32.ofNat q) am := by
    refine eq0_back (uA_e (eq0_u m 0) _ _ _ _ _ _ _ _) (by rw [u1]; exact B.1.1.2.1.1) (fun j hj => by rw [u1]; exact B.1.form j hj) (fun j hj => by rw [u0, u2_j _ _ _ _ _ hj]; exact B.1.form j hj)
  rw [en] at o
  exact o.2.2
/-- the ends: both objects are in one state -/
def WE (x y N S : Nat) : nk_H → Int32 → Prop := fun h r => r = 1 ∧ ∃ m2, TB h x y m2 m2 N S
theorem chc_ex (m : Nat → Nat → Int32) (n w : Nat) (v p amt : Int32) : ∃ l, l ≤ w ∧ chcS m n w v p amt = Int32.ofNat l ∧ ∀ q, q < w → reasonS m n w v v (m 1 0) p q (m 28 0) amt (m 27 0) = 0 → 1 ≤ l := by
  by_cases z : ∃ q, q < w ∧ reasonS m n w v v (m 1 0) p q (m 28 0) amt (m 27 0) = 0
  · obtain ⟨q, hq, e⟩ := z
    obtain ⟨l, h1, h2, e2⟩ := sum_pos (P := fun q => decide (reasonS m n w v v (m 1 0) p q (m 28 0) amt (m 27 0) = 0)) hq (decide_eq_true e)
    exact ⟨l, h2, e2, fun _ _ _ => h1⟩
  · obtain ⟨l, hl, e⟩ := sum_k (g := fun q => b2i (decide (reasonS m n w v v (m 1 0) p q (m 28 0) amt (m 27 0) = 0))) 1 (n := w) (fun j _ => b2i_k _)
    exact ⟨l, by omega, e, fun q hq e => absurd ⟨q, hq, e⟩ z⟩
theorem ia_9 {n : Nat} (h : n < 2147483648) : ¬ Int32.ofNat n = -9999999 := fun e => ia_n0 h (by rw [e]; decide)
theorem act_end (I : Inv m n w a c hr) (hn : n < 160) (hk : k < 6) (hq : q < w) {r : Nat} (hr9 : r = sN m 30 k) (pe : Int32) (v5 : Int32) (st : Bool) (hst : st = decide (faultS (uA1 m n a k r pe (Int32.ofNat q) am) (n + 1) w a = 0)) (gd : goodB m n w (Int32.ofNat k) q = true) {above : Int32} (hab : ∀ s, src m q = some s → above = doneS m n w (Int32.ofNat k) s)
    (B : TB h x y (uAf m n a k r pe (Int32.ofNat q) am v5 (b2i st)) m' N S) : WI (fun h1 r1 => r1 = 1 ∧ TB h1 x y (uAf m n a k r pe (Int32.ofNat q) am v5 (b2i st)) m' (N + 100) (S + 600)) (f_L_isActSo_c219 h (some x) (Int32.ofNat k) am (Int32.ofNat q) pe (m 16 q) (doneS m n w (Int32.ofNat k) q) above (Int32.ofNat r) (sumB (fun e => m 36 e) a) (Int32.ofNat r) 1) := by
  have ha : a ≤ 160 := by have := I.1.2.1; have := I.1.2.2.2.2.2.2.1; omega
  have hw := I.1.2.2.2.1
  have ehr : m 1 0 = Int32.ofNat hr := I.1.2.2.2.2.2.2.2.2.2.1
  obtain ⟨x0, ex0, hx0, -⟩ := I.2.2.2.2.2.1.1 k hk
  have exr : x0 = r := by rw [hr9, sN_of ex0 (by omega)]
  subst exr
  have IT : Inv (uAf m n a k x0 pe (Int32.ofNat q) am v5 (b2i st)) (n + 1) w (a + 1) c hr := uAf_I I hn hk hr9 hq rfl rfl
  obtain ⟨-, -, f3, f4, -, -⟩ := uAf_F (a := a) (r := x0) (pe := pe) (po := Int32.ofNat q) (am := am) (v5 := v5) (v6 := b2i st) I hn hk
  have e10 := (f3 k hk).trans (if_pos rfl)
  have e11 := (f4 k hk).trans (if_pos rfl)
  have e30 := (uAf_35 m n a k x0 pe (Int32.ofNat q) am v5 (b2i st) k).2.2.2.trans (if_pos rfl)
  have e36 := (uAf_35 m n a k x0 pe (Int32.ofNat q) am v5 (b2i st) a).2.1.trans (if_pos rfl)
  have e31 : uAf m n a k x0 pe (Int32.ofNat q) am v5 (b2i st) 31 (160 * k + x0) = Int32.ofNat a := by rw [uAf_1 _ _ _ _ _ _ _ _ _ _ (by decide) (by decide) (by decide) (by decide), uA1_31, if_pos rfl]
  have e32 : uAf m n a k x0 pe (Int32.ofNat q) am v5 (b2i st) 32 a = Int32.ofNat n := by rw [uAf_1 _ _ _ _ _ _ _ _ _ _ (by decide) (by decide) (by decide) (by decide), uA1_32, if_pos rfl]
  have e1 : uAf m n a k x0 pe (Int32.ofNat q) am v5 (b2i st) 1 0 = m 1 0 := by rw [uAf_O _ _ _ _ _ _ _ _ _ _ (by omega)]
  have eD := done_T (r := x0) (pe := pe) (am := am) (v5 := v5) (v6 := b2i st) I hn hk hq
  have eG := good_T (r := x0) (pe := pe) (am := am) (v5 := v5) (v6 := b2i st) I hn hk (Int32.ofNat q) hq
  have eF := fault_T m n w a k x0 pe (Int32.ofNat q) am v5 (b2i st) a
  have eS := stand_T (k := k) (pe := pe) (am := am) (v5 := v5) (v6 := b2i st) I (Int32.ofNat q) x0
  have e33 := T33 m n a k x0 pe (Int32.ofNat q) am v5 (b2i st)
  rw [gd] at eG
  generalize uAf m n a k x0 pe (Int32.ofNat q) am v5 (b2i st) = T at *
  have p0 : T 33 (6 * a + 0) = pe := by rw [e33, if_neg (by omega), if_neg (by omega), if_neg (by omega), if_neg (by omega), if_neg (by omega), if_pos (by omega)]
  have p1 : T 33 (6 * a + 1) = Int32.ofNat q := by rw [e33, if_neg (by omega), if_neg (by omega), if_neg (by omega), if_neg (by omega), if_pos (by omega)]
  have p3 : T 33 (6 * a + 3) = am := by rw [e33, if_neg (by omega), if_neg (by omega), if_pos (by omega)]
  have p5 : T 33 (6 * a + 5) = m 1 0 := by rw [e33, if_pos (by omega)]
  have nk : (Int32.ofNat k).toNatClampNeg = k := ia_nn (by omega)
  have nr : (Int32.ofNat x0).toNatClampNeg = x0 := ia_nn (by omega)
  have nn : (Int32.ofNat n).toNatClampNeg = n := ia_nn (by omega)
  have nq : (Int32.ofNat q).toNatClampNeg = q := ia_nn (by omega)
  have ea : acS T (Int32.ofNat k) (Int32.ofNat x0) = a := by unfold acS; rw [nk, nr]; exact sN_of e31 (by omega)
  have hb : recB T (Int32.ofNat k) (Int32.ofNat x0) = true := by unfold recB; rw [rg_of (by omega) hk, nk, sN_of e30 (by omega), rg_of (by omega) (by omega)]; rfl
  have tail : ∀ h4, TB h4 x y T m' (N + 20) (S + 120) → WI (fun h1 r1 => r1 = 1 ∧ TB h1 x y T m' (N + 100) (S + 600)) (f_L_isActSo_c328 h4 (some x) (Int32.ofNat k) am (Int32.ofNat q) pe (sumB (fun e => m 36 e) a) (Int32.ofNat x0) (Int32.ofNat n)) := fun h4 B4 => by
    unfold f_L_isActSo_c328
    refine wq_isGood B4 IT (c_rr hk hq (by omega)) (fun h5 B5 => ?_)
    rw [nq, eG]
    refine WI.neg (by decide) ?_
    refine wq_came B5 IT (c_rr hk (show n < n + 1 by omega) (by omega)) (fun h6 B6 => ?_)
    rw [nk, nn, e10]
    refine wq_hour B6 IT (fun h7 B7 => ?_)
    rw [e1, ehr]
    refine WI.pos rfl ?_
    refine wq_isRead B7 IT (c_rr hk (show n < n + 1 by omega) (by omega)) (fun h8 B8 => ?_)
    rw [nk, nn, e11]
    refine WI.neg (by decide) ?_
    unfold f_L_isActSo_c367
    refine WI.neg (by decide) ?_
    refine wq_part B8 IT (p := 0) (by rw [hb]; rfl) (fun h9 B9 => ?_)
    rw [ea, show (0 : Int32).toNatClampNeg = 0 from rfl, p0]
    refine WI.pos rfl ?_
    refine wq_part B9 IT (p := 1) (by rw [hb]; rfl) (fun h10 B10 => ?_)
    rw [ea, show (1 : Int32).toNatClampNeg = 1 from rfl, p1]
    refine WI.pos rfl ?_
    refine wq_part B10 IT (p := 3) (by rw [hb]; rfl) (fun h11 B11 => ?_)
    rw [ea, show (3 : Int32).toNatClampNeg = 3 from rfl, p3]
    refine WI.pos rfl ?_
    refine wq_part B11 IT (p := 5) (by rw [hb]; rfl) (fun h12 B12 => ?_)
    rw [ea, show (5 : Int32).toNatClampNeg = 5 from rfl, p5]
    refine wq_hour B12 IT (fun h13 B13 => ?_)
    rw [e1]
    refine WI.pos rfl ?_
    refine wq_stands B13 IT (if_pos hb) (fun h14 B14 => ?_)
    rw [ea, e36]
    refine wq_fault B14 IT (if_pos hb) (fun h15 B15 => ?_)
    rw [ea, eF]
    have fin : ∀ s0 h16, s0 = b2i st → TB h16 x y T m' (N + 90) (S + 540) → WI (fun h1 r1 => r1 = 1 ∧ TB h1 x y T m' (N + 100) (S + 600)) (f_L_isActSo_c450 h16 (some x) (Int32.ofNat k) (sumB (fun e => m 36 e) a) (Int32.ofNat x0) s0 (b2i (decide (b2i st = 1)))) := fun s0 h16 es B16 => by
      unfold f_L_isActSo_c450
      have eb : b2i (decide (b2i st = 1)) = b2i st := by cases st <;> rfl
      refine WI.pos (by rw [eb, es]) ?_
      refine wq_standing B16 IT (fun h17 B17 => ?_)
      rw [eS]
      refine wq_stands B17 IT (if_pos hb) (fun h18 B18 => ?_)
      rw [ea, e36, eb]
      cases st with
      | false =>
        refine WI.pos rfl ?_
        unfold f_L_isActSo_c474 f_L_isActSo_c483
        exact WI.pos rfl (WI.zr1 ⟨rfl, B18.up (by omega) (by omega)⟩)
      | true =>
        refine WI.neg (by decide) ?_
        unfold f_L_isActSo_c474 f_L_isActSo_c483
        exact WI.pos rfl (WI.zr1 ⟨rfl, B18.up (by omega) (by omega)⟩)
    by_cases z : faultS (uA1 m n a k x0 pe (Int32.ofNat q) am) (n + 1) w a = 0
    · rw [decide_eq_true z] at hst
      exact WI.pos z (fin 1 h15 (by rw [hst]; rfl) (B15.up (by omega) (by omega)))
    · rw [decide_eq_false z] at hst
      exact WI.neg z (fin 0 h15 (by rw [hst]; rfl) (B15.up (by omega) (by omega)))
  unfold f_L_isActSo_c219
  refine WI.neg (ia_9 (by omega)) ?_
  refine wq_pieceOf B IT (if_pos hb) (fun h1 B1 => ?_)
  rw [ea, e32]
  refine WI.neg (by decide) (WI.pos rfl ?_)
  refine wq_news B1 IT (fun h2 B2 => ?_)
  refine WI.pos (ia_s1 n).symm ?_
  refine wq_done B2 IT (c_rr hk hq (by omega)) (fun h3 B3 => ?_)
  rw [nq, eD, line_at I hq (decide_eq_true rfl), if_pos rfl]
  refine WI.pos rfl ?_
  by_cases z : m 16 q = -1
  · rw [z]
    exact WI.pos (by decide) (tail h3 (B3.up (by omega) (by omega)))
  · obtain ⟨s, hs, es⟩ := (I.2.2.2.1 q hq).2.resolve_left z
    have esr : src m q = some s := by unfold src; rw [if_neg z, sN_of es (by omega)]
    rw [es]
    refine WI.neg (ia_n0 (by omega)) ?_
    refine wq_done B3 IT (c_rr hk (show s < w by omega) (by omega)) (fun h4 B4 => ?_)
    rw [ia_nn (n := s) (by omega), eD, line_src I hq esr (decide_eq_true rfl), if_pos rfl, hab s esr]
    exact WI.pos rfl (tail h4 (B4.up (by omega) (by omega)))
theorem act_c91 (B : TB h x y m m N S) (I : Inv m n w a c hr) (hk : k < 6) (hq : q < w) (hu : wi am 1 10000 = true) {above : Int32} (hab : ∀ s, src m q = some s → above = doneS m n w (Int32.ofNat k) s) : WI (WE x y (N + 2200) (S + 22000)) (f_L_isActSo_c91 h (some x) (some y) (Int32.ofNat k) am (Int32.ofNat q) (m 15 q) (m 16 q) (reasonS m n w (Int32.ofNat k) (Int32.ofNat k) (m 1 0) (m 15 q) q (m 28 0) am (m 27 0)) (doneS m n w (Int32.ofNat k) q) above) := by
  have NXm := B.1.1.2.1.2
  have hn := I.1.2.1
  have hw := I.1.2.2.2.1
  have ha : a ≤ 160 := by have := I.1.2.2.2.2.2.2.1; omega
  have e12 : sN m 12 0 = w := sN_of I.1.2.2.1 (by omega)
  have k6 : rg (Int32.ofNat k) 6 = true := rg_of (by omega) hk
  have p10 : rg (m 15 q) 10 = true := NXm.2.2.2.2.1 q (by omega)
  have qw : rg (Int32.ofNat q) w = true := rg_of (by omega) hq
  have nk : (Int32.ofNat k).toNatClampNeg = k := ia_nn (by omega)
  have nq : (Int32.ofNat q).toNatClampNeg = q := ia_nn (by omega)
  obtain ⟨r, er, hr9, -⟩ := I.2.2.2.2.2.1.1 k hk
  have es30 : r = sN m 30 k := (sN_of er (by omega)).symm
  obtain ⟨l, hl, el, hl1⟩ := chc_ex m n w (Int32.ofNat k) (m 15 q) am
  unfold f_L_isActSo_c91
  refine wq_choices B I (by rw [k6, p10, hu]; rfl) (fun h1 B1 => ?_)
  rw [el]
  refine wq_records B1 I (if_pos k6) (fun h2 B2 => ?_)
  rw [nk, er]
  refine wq_standing B2 I (fun h3 B3 => ?_)
  by_cases ok : n < 160 ∧ reasonS m n w (Int32.ofNat k) (Int32.ofNat k) (m 1 0) (m 15 q) q (m 28 0) am (m 27 0) = 0
  · have he : eacS m n w (Int32.ofNat k) (m 15 q) (Int32.ofNat q) am = 0 := by
      unfold eacS
      rw [k6, p10, qw, hu, decide_eq_true ok.1, nq, ok.2]; rfl
    refine WI.doesOk (f := fun h z => f_X11_act h z (Int32.ofNat k) (m 15 q) (Int32.ofNat q) am) (s2' := uA m n w a k r (m 15 q) (Int32.ofNat q) am) (val' := Int32.ofNat r) hs_act_ok B3 (fd_act (some x) _ _ _ _) (act_ok B3 I ok.1 hk es30 hq he) (fun h4 B4 => ?_)
    refine WI.doesOk (f := fun h z => f_X11_act h z (Int32.ofNat k) (m 15 q) (Int32.ofNat q) am) (s2' := uA m n w a k r (m 15 q) (Int32.ofNat q) am) (val' := Int32.ofNat r) hs_act_ok B4.symm (fd_act (some y) _ _ _ _) (act_ok B4.symm I ok.1 hk es30 hq he) (fun h5 B5' => ?_)
    have B5 := B5'.symm
    refine WI.pos rfl (WI.neg (ia_9 (by omega)) ?_)
    have gd := good_of ok.2
    have h1l : 1 ≤ l := hl1 q hq ok.2
    rw [ok.2]
    unfold uA at B5
    have IT : Inv (uAf m n a k r (m 15 q) (Int32.ofNat q) am (sealA m n a k r (m 15 q) (Int32.ofNat q) am) (b2i (stdA m n w a k r (m 15 q) (Int32.ofNat q) am))) (n + 1) w (a + 1) c hr := uAf_I I ok.1 hk es30 hq rfl rfl
    have fin : ∀ h9, TB h9 x y (uAf m n a k r (m 15 q) (Int32.ofNat q) am (sealA m n a k r (m 15 q) (Int32.ofNat q) am) (b2i (stdA m n w a k r (m 15 q) (Int32.ofNat q) am))) (uAf m n a k r (m 15 q) (Int32.ofNat q) am (sealA m n a k r (m 15 q) (Int32.ofNat q) am) (b2i (stdA m n w a k r (m 15 q) (Int32.ofNat q) am))) (N + 2050) (S + 20500) → WI (WE x y (N + 2200) (S + 22000)) (f_L_isActSo_c191 h9 (some x) (Int32.ofNat k) am (Int32.ofNat q) (m 15 q) (m 16 q) 0 (doneS m n w (Int32.ofNat k) q) above (Int32.ofNat l) (Int32.ofNat r) (sumB (fun e => m 36 e) a) (Int32.ofNat r) 0) := fun h9 B9 => by
      unfold f_L_isActSo_c191 f_L_isActSo_c192
      refine WI.pos rfl (WI.neg (by decide) (WI.neg (fun e => by have := (ia_le (b := 0) (by omega) (by omega)).mp e; omega) ?_))
      unfold f_L_isActSo_c205
      refine wq_powers B9 IT (fun h10 B10 => ?_)
      refine WI.neg (fun e => by have := (ia_lt (by omega) (by omega)).mp e; omega) ?_
      obtain ⟨h11, r1, e, q1, q2⟩ := act_end I ok.1 hk hq es30 (m 15 q) _ (stdA m n w a k r (m 15 q) (Int32.ofNat q) am) rfl gd hab B10
      exact ⟨h11, r1, e, q1, _, q2.up (by omega) (by omega)⟩
    unfold f_L_isActSo_c162
    refine WI.neg (by decide) ?_
    refine wq_news B5 IT (fun h6 B6 => ?_)
    by_cases z : Int32.ofNat (n + 1) = 160
    · refine WI.pos z ?_
      refine wq_records B6 IT (if_pos k6) (fun h7 B7 => ?_)
      rw [nk, (uAf_35 m n a k r (m 15 q) (Int32.ofNat q) am _ _ k).2.2.2, if_pos rfl]
      exact WI.neg (fun e => by have := (ia_eq (by omega) (by omega)).mp e; omega) (fin h7 (B7.up (by omega) (by omega)))
    · exact WI.neg z (fin h6 (B6.up (by omega) (by omega)))
  · obtain ⟨code, hc, ec⟩ : ∃ code : Int32, code ≠ 0 ∧ eacS m n w (Int32.ofNat k) (m 15 q) (Int32.ofNat q) am = code := by
      unfold eacS
      rw [k6, p10, qw, hu, nq]
      by_cases z : n < 160
      · rw [decide_eq_true z]
        refine ⟨3, by decide, ?_⟩
        show (if reasonS m n w (Int32.ofNat k) (Int32.ofNat k) (m 1 0) (m 15 q) q (m 28 0) am (m 27 0) = 0 then (0 : Int32) else 3) = 3
        exact if_neg (fun e => ok ⟨z, e⟩)
      · rw [decide_eq_false z]
        exact ⟨3, by decide, rfl⟩
    refine WI.doesNo (f := fun h z => f_X11_act h z (Int32.ofNat k) (m 15 q) (Int32.ofNat q) am) (s2' := m) (code' := code) (val' := 0) hs_act_ok B3 (fd_act (some x) _ _ _ _) hc (act_no B3 I hc ec) (fun h4 B4 => ?_)
    refine WI.doesNo (f := fun h z => f_X11_act h z (Int32.ofNat k) (m 15 q) (Int32.ofNat q) am) (s2' := m) (code' := code) (val' := 0) hs_act_ok B4.symm (fd_act (some y) _ _ _ _) hc (act_no B4.symm I hc ec) (fun h5 B5' => ?_)
    have B5 := B5'.symm
    refine WI.pos rfl (WI.pos rfl ?_)
    have fin : ∀ h9, TB h9 x y m m (N + 2050) (S + 20500) → WI (WE x y (N + 2200) (S + 22000)) (f_L_isActSo_c205 h9 (some x) (Int32.ofNat k) am (Int32.ofNat q) (m 15 q) (m 16 q) (doneS m n w (Int32.ofNat k) q) above (Int32.ofNat l) (Int32.ofNat r) (sumB (fun e => m 36 e) a) (-9999999)) := fun h9 B9 => by
      unfold f_L_isActSo_c205
      refine wq_powers B9 I (fun h10 B10 => ?_)
      refine WI.neg (fun e => by have := (ia_lt (by omega) (by omega)).mp e; omega) ?_
      unfold f_L_isActSo_c219
      refine WI.pos rfl (WI.neg (by decide) ?_)
      refine wq_records B10 I (if_pos k6) (fun h11 B11 => ?_)
      rw [nk, er]
      refine WI.pos rfl ?_
      refine wq_done B11 I (c_rr hk hq (by omega)) (fun h12 B12 => ?_)
      rw [nq]
      refine WI.pos rfl ?_
      unfold f_L_isActSo_c260
      exact WI.zr1 ⟨rfl, m, B12.up (by omega) (by omega)⟩
    unfold f_L_isActSo_c162
    by_cases z : reasonS m n w (Int32.ofNat k) (Int32.ofNat k) (m 1 0) (m 15 q) q (m 28 0) am (m 27 0) = 0
    · have n160 : n = 160 := by
        by_cases z2 : n < 160
        · exact absurd ⟨z2, z⟩ ok
        · omega
      have h1l : 1 ≤ l := hl1 q hq z
      refine WI.neg (by rw [z]; decide) ?_
      refine wq_news B5 I (fun h6 B6 => ?_)
      refine WI.pos (by rw [n160]; rfl) ?_
      refine wq_records B6 I (if_pos k6) (fun h7 B7 => ?_)
      rw [nk, er]
      refine WI.pos rfl ?_
      unfold f_L_isActSo_c187 f_L_isActSo_c192
      refine WI.pos rfl (WI.neg (by rw [z]; decide) (WI.neg (fun e => by have := (ia_le (b := 0) (by omega) (by omega)).mp e; omega) ?_))
      exact fin h7 (B7.up (by omega) (by omega))
    · have zp := (reason_pos m n w (Int32.ofNat k) (Int32.ofNat k) (m 1 0) (m 15 q) q (m 28 0) am (m 27 0)).mpr z
      refine WI.pos zp ?_
      unfold f_L_isActSo_c187 f_L_isActSo_c192
      exact WI.pos rfl (WI.pos zp (fin h5 (B5.up (by omega) (by omega))))
theorem isAct_run (B : TB h x y m m N S) {i : Nat} (hk : k < 6) (hi : i < 40) (hu : wi am 1 10000 = true) : WI (WE x y (N + 2400) (S + 24000)) (f_L_isActSo h (some x) (some y) (Int32.ofNat k) (Int32.ofNat i) am) := by
  obtain ⟨n, w, a, c, hr, I⟩ := B.1.inv
  have NXm := B.1.1.2.1.2
  have hn := I.1.2.1
  have hw := I.1.2.2.2.1
  have k6 : rg (Int32.ofNat k) 6 = true := rg_of (by omega) hk
  unfold f_L_isActSo
  refine wq_powers B I (fun h1 B1 => ?_)
  by_cases w0 : w = 0
  · subst w0
    refine WI.pos rfl ?_
    have ec : eacS m n 0 (Int32.ofNat k) 0 0 am = 1 := by
      unfold eacS
      rw [show rg (0 : Int32) 0 = false from rfl, Bool.and_false]; rfl
    refine WI.doesNo (f := fun h z => f_X11_act h z (Int32.ofNat k) 0 0 am) (s2' := m) (code' := 1) (val' := 0) hs_act_ok B1 (fd_act (some x) _ _ _ _) (by decide) (act_no B1 I (by decide) ec) (fun h2 B2 => ?_)
    refine WI.pos rfl ?_
    unfold f_L_isActSo_c28
    exact WI.zr1 ⟨rfl, m, B2.up (by omega) (by omega)⟩
  · have wz : ¬ Int32.ofNat w = 0 := fun e => w0 ((ia_eq (b := 0) (by omega) (by omega)).mp e)
    refine WI.neg wz ?_
    refine wq_powers B1 I (fun h2 B2 => ?_)
    rw [show nk_nz (Int32.ofNat w) = some () from if_neg wz, Option.bind_some, ia_mod (A := i) (k := w) (by omega) (by omega)]
    have hq : i % w < w := Nat.mod_lt _ (by omega)
    generalize i % w = q at hq
    have nq : (Int32.ofNat q).toNatClampNeg = q := ia_nn (by omega)
    have qw : rg (Int32.ofNat q) w = true := rg_of (by omega) hq
    have p10 : rg (m 15 q) 10 = true := NXm.2.2.2.2.1 q (by rw [sN_of I.1.2.2.1 (by omega)]; exact hq)
    refine wq_holder B2 I (if_pos qw) (fun h3 B3 => ?_)
    rw [nq]
    refine wq_source B3 I (if_pos qw) (fun h4 B4 => ?_)
    rw [nq]
    refine wq_against B4 I (by rw [k6, p10, qw, hu]; rfl) (fun h5 B5 => ?_)
    rw [nq]
    refine wq_done B5 I (c_rr hk hq (by omega)) (fun h6 B6 => ?_)
    rw [nq]
    by_cases z : m 16 q = -1
    · refine WI.neg (by rw [z]; decide) ?_
      obtain ⟨h11, r1, e, q1, m2, q2⟩ := act_c91 B6 I hk hq hu (above := 0) (fun s es => by unfold src at es; rw [if_pos z] at es; cases es)
      exact ⟨h11, r1, e, q1, m2, q2.up (by omega) (by omega)⟩
    · obtain ⟨s, hs, es⟩ := (I.2.2.2.1 q hq).2.resolve_left z
      have esr : src m q = some s := by unfold src; rw [if_neg z, sN_of es (by omega)]
      refine WI.pos (by rw [es]; exact ia_0le (by omega)) ?_
      refine wq_done B6 I (u := m 16 q) (by rw [es]; exact c_rr hk (show s < w by omega) (by omega)) (fun h7 B7 => ?_)
      have ns : (m 16 q).toNatClampNeg = s := by rw [es]; exact ia_nn (by omega)
      rw [ns]
      obtain ⟨h11, r1, e, q1, m2, q2⟩ := act_c91 B7 I hk hq hu (above := doneS m n w (Int32.ofNat k) s) (fun s' es' => by rw [esr] at es'; cases es'; rfl)
      exact ⟨h11, r1, e, q1, m2, q2.up (by omega) (by omega)⟩
end U7
