/-! ===== a copy: isCopySo ===== -/
section U8
variable {h : nk_H} {x y N S : Nat} {m m' : Nat → Nat → Int32} {n w a c hr k z b : Nat} {Q : nk_H → Int32 → Prop}
theorem mc_eM {M : Nat} {s : Nat → Nat → Int32} (H : St h M s) (hI : Inv s n w a c hr) (v u p l : Int32) : f_X12_copy h M v u p l = f_X12_copy_c69 h M v u p l (ecoS s c v u p l) (some M) := by
  have ha : a ≤ 160 := by have := hI.1.2.1; have := hI.1.2.2.2.2.2.2.1; omega
  have hb := hI.1.2.2.2.2.2.2.2.2.1
  unfold f_X12_copy f_X12_copy_c22 f_X12_copy_c23 f_X12_copy_c51 ecoS
  rw [w_rcv H, do_eq (m_isRecord H hI.2.2.2.2.2.1 ha v u), ite_b]
  cases recB s v u with
  | false => rfl
  | true =>
    rw [if_pos rfl, w_rcv H, do_eq (m_isRecord H hI.2.2.2.2.2.1 ha v p), ite_b]
    cases recB s v p with
    | false => rfl
    | true =>
      rw [if_pos rfl, if_neg (by decide)]
      by_cases z : u ≤ p
      · rw [if_neg (Int32.not_lt.mpr z), decide_eq_true z, do_eq (m_in h l 0 63), ite_b]
        change (if wi l 0 63 = true then _ else _) = _
        cases wi l 0 63 with
        | false => rfl
        | true =>
          rw [if_pos rfl, w_gIv H 37 hI.1.2.2.2.2.2.2.2.1]
          by_cases z2 : c = 12
          · subst z2; rfl
          · rw [if_neg (show ¬ Int32.ofNat c = 12 from fun e => z2 ((ia_eq (b := 12) (by omega) (by omega)).mp e)), decide_eq_true (show c < 12 by omega)]; rfl
      · rw [if_pos (Int32.not_le.mp z), decide_eq_false z]; rfl
theorem mc_err {M : Nat} {s : Nat → Nat → Int32} (H : St h M s) (hI : Inv s n w a c hr) {v u p l code : Int32} (hc : code ≠ 0) (ec : ecoS s c v u p l = code) : Ok h M (nk_u2 s 0 0 code) 0 (f_X12_copy h M v u p l) := by
  rw [mc_eM H hI, ec]
  unfold f_X12_copy_c69
  rw [w_rcv H]
  refine w_do (w_holds H _) (fun h2 H2 => ?_)
  rw [decide_eq_false hc]
  exact Ok.here H2
theorem mc_ok {M : Nat} {s : Nat → Nat → Int32} (H : St h M s) (hI : Inv s n w a c hr) {k f l' b z' : Nat} (hk : k < 6) (hc : c < 12) (hfl : f ≤ l') (hz : l' - f + 1 = z') (hfz : f + z' ≤ sN s 30 k) (hb63 : b ≤ 63) (ec : ecoS s c (Int32.ofNat k) (Int32.ofNat f) (Int32.ofNat l') (Int32.ofNat b) = 0) : Ok h M (uC (nk_u2 s 0 0 0) c k f z' b) (Int32.ofNat c) (f_X12_copy h M (Int32.ofNat k) (Int32.ofNat f) (Int32.ofNat l') (Int32.ofNat b)) := by
  have ha : a ≤ 160 := by have := hI.1.2.1; have := hI.1.2.2.2.2.2.2.1; omega
  obtain ⟨x0, ex0, hx0, -⟩ := hI.2.2.2.2.2.1.1 k hk
  have hs30 : sN s 30 k = x0 := sN_of ex0 (by omega)
  have el : Int32.ofNat l' - Int32.ofNat f + 1 = Int32.ofNat z' := by rw [ia_sub hfl, ia_1, hz]
  rw [mc_eM H hI, ec]
  unfold f_X12_copy_c69
  rw [w_rcv H]
  refine w_do (w_holds H _) (fun h2 H2 => ?_)
  show Ok h2 M _ _ (if (1 : Int32) = 0 then _ else _)
  have e37 : nk_u2 s 0 0 0 37 0 = Int32.ofNat c := by rw [u2_k _ _ _ _ _ (by decide)]; exact hI.1.2.2.2.2.2.2.2.1
  have act : ∀ i, i < z' → ∃ e, e < 160 ∧ nk_u2 s 0 0 0 31 (160 * k + (f + i)) = Int32.ofNat e := fun i hi => by
    obtain ⟨x, ex, hx, hact⟩ := hI.2.2.2.2.2.1.1 k hk
    have := sN_of ex (by omega)
    obtain ⟨e, he, ee⟩ := hact (f + i) (by omega)
    exact ⟨e, by omega, by rw [u2_k _ _ _ _ _ (by decide)]; exact ee⟩
  have ahd : ∀ (S : Nat → Nat → Int32) h3, St h3 M S → S 35 = (nk_u2 s 0 0 0) 35 → S 31 = (nk_u2 s 0 0 0) 31 → f_X12_sealAhead h3 M (Int32.ofNat k) (Int32.ofNat f) = some (h3, aheadS (nk_u2 s 0 0 0) k f) := fun S h3 H3 e35 e31 => by
    rw [m_ahead (a := 160) H3 (by omega) hk (by omega) (fun hf0 => by
      obtain ⟨x, ex, hx, hact⟩ := hI.2.2.2.2.2.1.1 k hk
      have := sN_of ex (by omega)
      obtain ⟨e, he, ee⟩ := hact (f - 1) (by omega)
      exact ⟨e, by omega, by rw [e31, u2_k _ _ _ _ _ (by decide)]; exact ee⟩)]
    unfold aheadS sN
    rw [e35, e31]
  rw [if_neg (by decide), w_gP H2 38, w_gIv H2 37 e37]
  refine w_wI H2 38 _ (by show c < 12; omega) (fun h3 H3 => ?_)
  rw [w_gP H3 39, w_gIv H3 37 (v := Int32.ofNat c) (by rw [u2_k _ _ _ _ _ (by decide)]; exact e37)]
  refine w_wI H3 39 _ (by show c < 12; omega) (fun h4 H4 => ?_)
  rw [w_gP H4 40, w_gIv H4 37 (v := Int32.ofNat c) (by rw [u2_k _ _ _ _ _ (by decide), u2_k _ _ _ _ _ (by decide)]; exact e37), el]
  refine w_wI H4 40 _ (by show c < 12; omega) (fun h5 H5 => ?_)
  rw [w_gP H5 41, w_gIv H5 37 (v := Int32.ofNat c) (by rw [u2_k _ _ _ _ _ (by decide), u2_k _ _ _ _ _ (by decide), u2_k _ _ _ _ _ (by decide)]; exact e37)]
  refine w_wI H5 41 _ (by show c < 12; omega) (fun h6 H6 => ?_)
  rw [w_gP H6 42, w_gIv H6 37 (v := Int32.ofNat c) (by rw [u2_k _ _ _ _ _ (by decide), u2_k _ _ _ _ _ (by decide), u2_k _ _ _ _ _ (by decide), u2_k _ _ _ _ _ (by decide)]; exact e37), w_rcv H6, do_eq (ahd _ h6 H6 (by funext y; rw [u2_k _ _ _ _ _ (by decide), u2_k _ _ _ _ _ (by decide), u2_k _ _ _ _ _ (by decide), u2_k _ _ _ _ _ (by decide)]) (by funext y; rw [u2_k _ _ _ _ _ (by decide), u2_k _ _ _ _ _ (by decide), u2_k _ _ _ _ _ (by decide), u2_k _ _ _ _ _ (by decide)]))]
  refine w_wI H6 42 _ (by show c < 12; omega) (fun h7 H7 => ?_)
  have el' : Int32.ofNat l' = Int32.ofNat (f + z' - 1) := by rw [show f + z' - 1 = l' by omega]
  rw [el']
  exact mc_loop (s := nk_u2 s 0 0 0) (k := k) (f := f) (z := z') (b := b) hc hk (by omega) (by omega) e37 act 4096 0 h7 (by rw [cyS_0]; exact H7) (by omega) (by omega)
theorem fd_copy (o : Option Nat) (x y z u : Int32) : f_L_does h o (Int32.ofNat 10) x y z u = ((nk_rcv [18] h o).bind fun a => nk_tr hs_L_does (f_X11_copy h a x y z u) fun h2 x3 => some (h2, x3)) := by
  unfold f_L_does f_L_does_c220
  simp only [if_neg (show ¬ Int32.ofNat 10 = 0 by decide), if_neg (show ¬ Int32.ofNat 10 = 1 by decide), if_neg (show ¬ Int32.ofNat 10 = 2 by decide), if_neg (show ¬ Int32.ofNat 10 = 3 by decide), if_neg (show ¬ Int32.ofNat 10 = 4 by decide), if_neg (show ¬ Int32.ofNat 10 = 5 by decide), if_neg (show ¬ Int32.ofNat 10 = 6 by decide), if_neg (show ¬ Int32.ofNat 10 = 7 by decide), if_neg (show ¬ Int32.ofNat 10 = 8 by decide), if_neg (show ¬ Int32.ofNat 10 = 9 by decide), if_pos (show Int32.ofNat 10 = 10 by decide)]
theorem hs_copy_ok : hsok hs_L_does hs_W_copy := hsok_all (by decide +kernel)
theorem cop_no (B : TB h x y m m' N S) (I : Inv m n w a c hr) {v u p l code : Int32} (hc : code ≠ 0) (ec : ecoS m c v u p l = code) : ∃ h1 r, f_X11_copy h x v u p l = some (h1, r) ∧ EN hs_W_copy code 0 r ∧ TB h1 x y m m' (N + 1000) (S + 10000) := by
  have o := op_at B (tm_copy B.1 v u p l) (fun h1 H1 => ⟨0, fun _ => rfl, mc_err H1 I hc ec⟩) (u2_eq _ _ _ _) (code' := code) (val' := 0) (f := fun h z => f_X11_copy h z v u p l)
  rw [norm1 B] at o
  exact o.2.2
theorem cop_ok (B : TB h x y m m' N S) (I : Inv m n w a c hr) {f l' z' : Nat} (hk : k < 6) (hc : c < 12) (hfl : f ≤ l') (hz : l' - f + 1 = z') (hfz : f + z' ≤ sN m 30 k) (hb63 : b ≤ 63) (ec : ecoS m c (Int32.ofNat k) (Int32.ofNat f) (Int32.ofNat l') (Int32.ofNat b) = 0) : ∃ h1 r1, f_X11_copy h x (Int32.ofNat k) (Int32.ofNat f) (Int32.ofNat l') (Int32.ofNat b) = some (h1, r1) ∧ EN hs_W_copy 0 (Int32.ofNat c) r1 ∧ TB h1 x y (uC m c k f z' b) m' (N + 1000) (S + 10000) := by
  have u0 : uC (nk_u2 m 0 0 0) c k f z' b 0 = nk_u2 m 0 0 0 0 := uC_O _ _ _ _ _ _ (by decide)
  have u1 : uC m c k f z' b 0 = m 0 := uC_O _ _ _ _ _ _ (by decide)
  have o := op_at B (tm_copy B.1 (Int32.ofNat k) (Int32.ofNat f) (Int32.ofNat l') (Int32.ofNat b)) (fun h1 H1 => ⟨_, fun _ => rfl, mc_ok H1 I hk hc hfl hz hfz hb63 ec⟩) (by rw [u0, u2_eq]) (code' := 0) (f := fun h z => f_X11_copy h z (Int32.ofNat k) (Int32.ofNat f) (Int32.ofNat l') (Int32.ofNat b))
  have en : nk_u2 (uC (nk_u2 m 0 0 0) c k f z' b) 0 0 0 = uC m c k f z' b := by
    refine eq0_back (uC_e (eq0_u m 0) _ _ _ _ _) (by rw [u1]; exact B.1.1.2.1.1) (fun j hj => by rw [u1]; exact B.1.form j hj) (fun j hj => by rw [u0, u2_j _ _ _ _ _ hj]; exact B.1.form j hj)
  rw [en] at o
  exact o.2.2
/-- what a copy of all records tells -/
def CT (m T : Nat → Nat → Int32) (c k z b : Nat) : Prop := (∀ x, x < 37 → T x = m x) ∧ T 38 c = Int32.ofNat k ∧ T 39 c = Int32.ofNat 0 ∧ T 40 c = Int32.ofNat z ∧ T 41 c = Int32.ofNat b ∧ T 42 c = aheadS m k 0 ∧ (∀ i p, i < z → p < 6 → T 43 (6 * (160 * c + i) + p) = tpS m k 0 b i p) ∧ ∀ i, i < z → T 44 (160 * c + i) = slS m k 0 i
theorem ct_uC (m : Nat → Nat → Int32) (c k z b : Nat) : CT m (uC m c k 0 z b) c k z b := by
  obtain ⟨t38, t39, t40, t41, t42⟩ := uC0_c m c k 0 z b
  exact ⟨fun x hx => uC_O _ _ _ _ _ _ hx, by rw [uC_4 _ _ _ _ _ _ (by decide) (by decide)]; exact t38, by rw [uC_4 _ _ _ _ _ _ (by decide) (by decide)]; exact t39, by rw [uC_4 _ _ _ _ _ _ (by decide) (by decide)]; exact t40, by rw [uC_4 _ _ _ _ _ _ (by decide) (by decide)]; exact t41, by rw [uC_4 _ _ _ _ _ _ (by decide) (by decide)]; exact t42, fun i p hi hp => uC_43 _ _ _ _ _ _ hi hp, fun i hi => uC_44 _ _ _ _ _ _ hi⟩
variable {T : Nat → Nat → Int32}
theorem ct_true (C : CT m T c k z b) (hk : k < 6) (hz : z ≤ 160) : ktrB T c = true := by
  obtain ⟨tO, t38, t39, t40, t41, t42, t43, t44⟩ := C
  have e38 : sN T 38 c = k := sN_of t38 (by omega)
  have e39 : sN T 39 c = 0 := sN_of t39 (by omega)
  have e40 : sN T 40 c = z := sN_of t40 (by omega)
  have ek : ∀ i, kac T c i = sN m 31 (160 * k + i) := fun i => by
    unfold kac
    rw [e38, e39, Nat.add_zero]
    unfold sN
    rw [tO 31 (by decide)]
  have key : anyB (fun i => !ktl T c i) z = false := anyB_false.mpr (fun i hi => by
    have h1 : kse T c i = true := by
      unfold kse
      rw [ek, t44 i hi, tO 35 (by decide)]
      unfold slS
      rw [Nat.zero_add]
      exact decide_eq_true rfl
    have h2 : ∀ p, p < 6 → kpt T c i p = true := fun p hp => by
      unfold kpt
      rw [ek, t43 i p hi hp, tO 33 (by decide), t41]
      unfold tpS
      rw [Nat.zero_add]
      cases gb (Int32.ofNat b) p with
      | true => rfl
      | false => rw [if_neg (by decide), decide_eq_true rfl]; rfl
    have h3 : anyB (fun p => !kpt T c i p) 6 = false := anyB_false.mpr (fun p hp => by rw [h2 p hp]; rfl)
    unfold ktl
    rw [h1, h3]; rfl)
  unfold ktrB
  rw [e40, key]; rfl
theorem ct_brk (C : CT m T c k z b) (hz : z ≤ 160) (es : sN m 30 k = z) : kbrS T c = brkS m k := by
  obtain ⟨tO, t38, t39, t40, t41, t42, t43, t44⟩ := C
  have e40 : sN T 40 c = z := sN_of t40 (by omega)
  have eb : ∀ i, i < z → kbrB T c i = brkB m k i := fun i hi => by
    have ea : kahS T c i = aheadS m k i := by
      unfold kahS
      by_cases i0 : i = 0
      · rw [if_pos i0, t42, i0]
      · rw [if_neg i0, t44 (i - 1) (by omega)]
        unfold slS aheadS
        rw [if_neg i0, Nat.zero_add]
    have ef : foldS (kfoS T c i) 6 = foldS (fun p => markS (Int32.ofNat k) (Int32.ofNat i) (Int32.ofNat p) (m 33 (6 * sN m 31 (160 * k + i) + p))) 6 := foldS_congr (fun p hp => by
      unfold kfoS
      rw [t41, t43 i p hi hp, t38, t39, ia_add, Nat.zero_add]
      unfold tpS
      rw [Nat.zero_add]
      cases gb (Int32.ofNat b) p <;> rfl)
    unfold kbrB brkB nowS
    rw [ea, ef, t44 i hi]
    unfold slS
    rw [Nat.zero_add]
  unfold kbrS brkS
  rw [e40, es, firstB_congr eb]
  cases firstB (brkB m k) z <;> rfl
theorem brk_O (tO : ∀ x, x < 37 → T x = m x) (k : Nat) : brkS T k = brkS m k := by
  have : brkB T k = brkB m k := by
    funext r
    unfold brkB nowS aheadS sN
    rw [tO 35 (by decide), tO 31 (by decide), tO 33 (by decide)]
  unfold brkS sN
  rw [this, tO 30 (by decide)]
theorem cp_step (IT : Inv T n w a (c + 1) hr) (C : CT m T c k z b) (hc : c < 12) (hk : k < 6) (hz : z ≤ 160) (es : sN m 30 k = z) {i p : Nat} (hi : i < z) (hp : p < 6) (r106 : nk_H → Option Nat → Int32 → Int32 → Int32 → Int32 → Int32 → Int32 → Option (nk_H × Int32)) (R : nk_H → Option Nat → Int32 → Int32 → Int32 → Int32 → Int32 → Int32 → Int32 → Option (nk_H × Int32)) (B : TB h x y T m' N S)
    (kk : ∀ h1, TB h1 x y T m' (N + 10) (S + 60) → WI Q (R h1 (some x) (Int32.ofNat k) (Int32.ofNat b) (Int32.ofNat z) (Int32.ofNat c) 1 (Int32.ofNat i) (Int32.ofNat (p + 1)))) : WI Q (f_L_isCopySo_c121 r106 R h (some x) (Int32.ofNat k) (Int32.ofNat b) (Int32.ofNat z) (Int32.ofNat c) 1 (Int32.ofNat i) (Int32.ofNat p)) := by
  obtain ⟨tO, t38, t39, t40, t41, t42, t43, t44⟩ := C
  have nk : (Int32.ofNat k).toNatClampNeg = k := ia_nn (by omega)
  have nc : (Int32.ofNat c).toNatClampNeg = c := ia_nn (by omega)
  have ni : (Int32.ofNat i).toNatClampNeg = i := ia_nn (by omega)
  have np : (Int32.ofNat p).toNatClampNeg = p := ia_nn (by omega)
  have p6 : rg (Int32.ofNat p) 6 = true := rg_of (by omega) hp
  have pl : plB T (c + 1) (Int32.ofNat c) (Int32.ofNat i) = true := by
    unfold plB
    rw [rg_of (by omega) (Nat.lt_succ_self c), nc, sN_of t40 (by omega), rg_of (by omega) hi]; rfl
  have hb : recB T (Int32.ofNat k) (Int32.ofNat i) = true := by
    unfold recB
    rw [rg_of (by omega) hk, nk, show sN T 30 k = z from by rw [← es]; unfold sN; rw [tO 30 (by decide)], rg_of (by omega) hi]; rfl
  have ea : acS T (Int32.ofNat k) (Int32.ofNat i) = sN m 31 (160 * k + i) := by
    unfold acS
    rw [nk, ni]
    unfold sN
    rw [tO 31 (by decide)]
  unfold f_L_isCopySo_c121
  refine WI.neg (fun e => by have := (ia_le (a := 6) (by omega) (by omega)).mp e; omega) (WI.neg (by decide) ?_)
  refine wq_copied B IT (by rw [pl, p6]; rfl) (fun h1 B1 => ?_)
  rw [nc, ni, np]
  unfold cpdS
  rw [t41]
  cases g : gb (Int32.ofNat b) p with
  | true =>
    refine WI.pos ((gb_mod1 _ hp).mpr g) ?_
    unfold f_L_isCopySo_c166 f_L_isCopySo_c174
    rw [if_pos rfl, ia_1]
    exact WI.pos rfl (kk h1 (B1.up (by omega) (by omega)))
  | false =>
    refine WI.neg (fun e9 => by rw [(gb_mod1 _ hp).mp e9] at g; cases g) ?_
    refine wq_part B1 IT (by rw [hb, p6]; rfl) (fun h2 B2 => ?_)
    unfold f_L_isCopySo_c166 f_L_isCopySo_c174
    rw [ea, np, tO 33 (by decide), t43 i p hi hp, if_neg (show ¬ (false = true) by decide), ia_1]
    unfold tpS
    rw [g, if_neg (show ¬ (false = true) by decide), Nat.zero_add]
    exact WI.pos rfl (kk h2 (B2.up (by omega) (by omega)))
theorem cp_in (IT : Inv T n w a (c + 1) hr) (C : CT m T c k z b) (hc : c < 12) (hk : k < 6) (hz : z ≤ 160) (es : sN m 30 k = z) {i : Nat} (hi : i < z) (r106 : nk_H → Option Nat → Int32 → Int32 → Int32 → Int32 → Int32 → Int32 → Option (nk_H × Int32)) : ∀ (kf p : Nat) (h : nk_H) (N S : Nat), TB h x y T m' N S → p ≤ 6 → 6 - p < kf →
    (∀ h1, TB h1 x y T m' (N + 10 * (6 - p)) (S + 60 * (6 - p)) → WI Q (r106 h1 (some x) (Int32.ofNat k) (Int32.ofNat b) (Int32.ofNat z) (Int32.ofNat c) 1 (Int32.ofNat (i + 1)))) → WI Q (f_L_isCopySo_b121 r106 kf h (some x) (Int32.ofNat k) (Int32.ofNat b) (Int32.ofNat z) (Int32.ofNat c) 1 (Int32.ofNat i) (Int32.ofNat p)) := by
  intro kf
  induction kf with
  | zero => intro p h N S B h1 h2; omega
  | succ kf ih =>
    intro p h N S B h1 h2 kk
    show WI _ (f_L_isCopySo_c121 r106 (f_L_isCopySo_b121 r106 kf) h (some x) (Int32.ofNat k) (Int32.ofNat b) (Int32.ofNat z) (Int32.ofNat c) 1 (Int32.ofNat i) (Int32.ofNat p))
    by_cases hp : p < 6
    · refine cp_step IT C hc hk hz es hi hp r106 _ B (fun h1' B1 => ?_)
      exact ih (p + 1) h1' _ _ B1 (by omega) (by omega) (fun h9 B9 => kk h9 (B9.up (by omega) (by omega)))
    · have : p = 6 := by omega
      subst this
      unfold f_L_isCopySo_c121 f_L_isCopySo_c182
      rw [ia_1]
      exact WI.pos (show (6 : Int32) ≤ Int32.ofNat 6 by decide) (kk h (B.up (by omega) (by omega)))
theorem cp_out (IT : Inv T n w a (c + 1) hr) (C : CT m T c k z b) (hc : c < 12) (hk : k < 6) (hz : z ≤ 160) (es : sN m 30 k = z) : ∀ (kf i : Nat) (h : nk_H) (N S : Nat), TB h x y T m' N S → i ≤ z → z - i < kf → WI (WA x y T m' (N + 60 * (z - i)) (S + 360 * (z - i))) (f_L_isCopySo_b106 kf h (some x) (Int32.ofNat k) (Int32.ofNat b) (Int32.ofNat z) (Int32.ofNat c) 1 (Int32.ofNat i)) := by
  intro kf
  induction kf with
  | zero => intro i h N S B h1 h2; omega
  | succ kf ih =>
    intro i h N S B h1 h2
    show WI _ (f_L_isCopySo_c106 (f_L_isCopySo_b106 kf) h (some x) (Int32.ofNat k) (Int32.ofNat b) (Int32.ofNat z) (Int32.ofNat c) 1 (Int32.ofNat i))
    unfold f_L_isCopySo_c106
    by_cases hi : i < z
    · refine WI.neg (fun e => by have := (ia_le (by omega) (by omega)).mp e; omega) (WI.neg (by decide) ?_)
      refine cp_in IT C hc hk hz es hi _ 4096 0 h N S B (by omega) (by omega) (fun h9 B9 => ?_)
      obtain ⟨h8, r, e, q1, q2⟩ := ih (i + 1) h9 _ _ B9 (by omega) (by omega)
      exact ⟨h8, r, e, q1, q2.up (by omega) (by omega)⟩
    · have : i = z := by omega
      subst this
      unfold f_L_isCopySo_c188
      exact WI.pos ((ia_le (by omega) (by omega)).mpr (Nat.le_refl _)) (WI.zr1 ⟨rfl, B.up (by omega) (by omega)⟩)
theorem copy_run (B : TB h x y m m N S) (hk : k < 6) (hb : b < 64) : WI (WE x y (N + 11800) (S + 80000)) (f_L_isCopySo h (some x) (some y) (Int32.ofNat k) (Int32.ofNat b)) := by
  obtain ⟨n, w, a, c, hr, I⟩ := B.1.inv
  have ha : a ≤ 160 := by have := I.1.2.1; have := I.1.2.2.2.2.2.2.1; omega
  have hc12 : c ≤ 12 := I.1.2.2.2.2.2.2.2.2.1
  obtain ⟨z, ez, hz9, -⟩ := I.2.2.2.2.2.1.1 k hk
  have es : sN m 30 k = z := sN_of ez (by omega)
  have k6 : rg (Int32.ofNat k) 6 = true := rg_of (by omega) hk
  have nk : (Int32.ofNat k).toNatClampNeg = k := ia_nn (by omega)
  unfold f_L_isCopySo
  refine wq_records B I (if_pos k6) (fun h1 B1 => ?_)
  rw [nk, ez]
  by_cases ok : 1 ≤ z ∧ c < 12
  · obtain ⟨z', rfl⟩ : ∃ z', z = z' + 1 := ⟨z - 1, by omega⟩
    rw [ia_s1]
    have r0 : recB m (Int32.ofNat k) (Int32.ofNat 0) = true := by
      unfold recB
      rw [k6, nk, es, rg_of (by omega) (show 0 < z' + 1 by omega)]; rfl
    have r1 : recB m (Int32.ofNat k) (Int32.ofNat z') = true := by
      unfold recB
      rw [k6, nk, es, rg_of (by omega) (show z' < z' + 1 by omega)]; rfl
    have wb : wi (Int32.ofNat b) 0 63 = true := by
      unfold wi
      rw [decide_eq_true (ia_0le (by omega)), decide_eq_true (show Int32.ofNat b ≤ 63 from (ia_le (b := 63) (by omega) (by omega)).mpr (by omega))]; rfl
    have ec : ecoS m c (Int32.ofNat k) (Int32.ofNat 0) (Int32.ofNat z') (Int32.ofNat b) = 0 := by
      unfold ecoS
      rw [r0, r1, decide_eq_true ((ia_le (by omega) (by omega)).mpr (by omega)), wb, decide_eq_true ok.2]; rfl
    have IT : Inv (uC m c k 0 (z' + 1) b) n w a (c + 1) hr := uC_I I ok.2 hk (by omega) (by omega) hb
    refine WI.doesOk (f := fun h o => f_X11_copy h o (Int32.ofNat k) (Int32.ofNat 0) (Int32.ofNat z') (Int32.ofNat b)) (s2' := uC m c k 0 (z' + 1) b) (val' := Int32.ofNat c) hs_copy_ok B1 (fd_copy (some x) _ _ _ _) (cop_ok B1 I hk ok.2 (by omega) (by omega) (by omega) (by omega) ec) (fun h2 B2 => ?_)
    refine WI.doesOk (f := fun h o => f_X11_copy h o (Int32.ofNat k) (Int32.ofNat 0) (Int32.ofNat z') (Int32.ofNat b)) (s2' := uC m c k 0 (z' + 1) b) (val' := Int32.ofNat c) hs_copy_ok B2.symm (fd_copy (some y) _ _ _ _) (cop_ok B2.symm I hk ok.2 (by omega) (by omega) (by omega) (by omega) ec) (fun h3 B3' => ?_)
    have B3 := B3'.symm
    have C := ct_uC m c k (z' + 1) b
    generalize uC m c k 0 (z' + 1) b = T at *
    refine WI.pos rfl ?_
    have nc : (Int32.ofNat c).toNatClampNeg = c := ia_nn (by omega)
    have cc : (if rg (Int32.ofNat c) (c + 1) = true then (0 : Int32) else 1) = 0 := if_pos (rg_of (by omega) (Nat.lt_succ_self c))
    unfold f_L_isCopySo_c45
    refine WI.neg (ia_9 (by omega)) (WI.neg (by decide) ?_)
    refine wq_size B3 IT cc (fun h4 B4 => ?_)
    rw [nc, C.2.2.2.1]
    refine WI.pos rfl ?_
    refine wq_isTrue B4 IT cc (fun h5 B5 => ?_)
    rw [nc, ct_true C hk (by omega)]
    refine WI.neg (by decide) ?_
    refine wq_brokenCopy B5 IT cc (fun h6 B6 => ?_)
    rw [nc, ct_brk C (by omega) es]
    refine wq_broken B6 IT (if_pos k6) (fun h7 B7 => ?_)
    rw [nk, brk_O C.1]
    refine WI.pos rfl ?_
    unfold f_L_isCopySo_c101
    obtain ⟨h8, r, e, q1, q2⟩ := cp_out IT C ok.2 hk (by omega) es 4096 0 h7 _ _ B7 (by omega) (by omega)
    exact ⟨h8, r, e, q1, _, q2.up (by omega) (by omega)⟩
  · have hne : ecoS m c (Int32.ofNat k) 0 (Int32.ofNat z - 1) (Int32.ofNat b) ≠ 0 := by
      unfold ecoS
      by_cases z0 : z = 0
      · have : recB m (Int32.ofNat k) 0 = false := by
          unfold recB
          rw [nk, es, z0]; exact Bool.and_false _
        rw [this, Bool.false_and, if_neg (by decide)]; decide
      · rw [decide_eq_false (show ¬ c < 12 from fun e => ok ⟨by omega, e⟩), if_neg (show ¬ (false = true) by decide)]
        repeat' split
        all_goals decide
    refine WI.doesNo (f := fun h o => f_X11_copy h o (Int32.ofNat k) 0 (Int32.ofNat z - 1) (Int32.ofNat b)) (s2' := m) (val' := 0) hs_copy_ok B1 (fd_copy (some x) _ _ _ _) hne (cop_no B1 I hne rfl) (fun h2 B2 => ?_)
    refine WI.doesNo (f := fun h o => f_X11_copy h o (Int32.ofNat k) 0 (Int32.ofNat z - 1) (Int32.ofNat b)) (s2' := m) (val' := 0) hs_copy_ok B2.symm (fd_copy (some y) _ _ _ _) hne (cop_no B2.symm I hne rfl) (fun h3 B3 => ?_)
    refine WI.pos rfl ?_
    unfold f_L_isCopySo_c45
    exact WI.pos rfl (WI.zr1 ⟨rfl, m, B3.symm.up (by omega) (by omega)⟩)
end U8
