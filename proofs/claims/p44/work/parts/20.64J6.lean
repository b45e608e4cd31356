/-! ===== an act: the reference ===== -/
section AC
variable {h : nk_H} {M n w a c hr : Nat} {s s' : Nat → Nat → Int32} {k r : Nat} {pe po am v5 v6 : Int32}
theorem reason_0 (s : Nat → Nat → Int32) (n w : Nat) (B k t person : Int32) (q : Nat) (kind amt off : Int32) : (reasonS s n w B k t person q kind amt off ≤ 0) ↔ reasonS s n w B k t person q kind amt off = 0 := by
  unfold reasonS
  repeat' split
  all_goals decide
def eacS (s : Nat → Nat → Int32) (n w : Nat) (v u p am : Int32) : Int32 := if (rg v 6 && rg u 10 && rg p w) = true then (if wi am 1 10000 = true then (if decide (n < 160) = true then (if reasonS s n w v v (s 1 0) u p.toNatClampNeg (s 28 0) am (s 27 0) = 0 then 0 else 3) else 3) else 2) else 1
theorem m_errorOfAct (H : St h M s) (hI : Inv s n w a c hr) (v u p am : Int32) : f_X12_errorOfAct h M v u p am = some (h, eacS s n w v u p am) := by
  have hw := hI.1.2.2.2.1
  have hn := hI.1.2.1
  have hI1 : Inv (nm h M) n w a c hr := by rw [H.2]; exact hI
  unfold f_X12_errorOfAct f_X12_errorOfAct_c50 f_X12_errorOfAct_c55 eacS
  rw [w_rcv H, do_eq (m_areThere H hI.1.2.2.1 hw v u p), ite_b]
  cases h0 : (rg v 6 && rg u 10 && rg p w) with
  | false => rfl
  | true =>
    rw [Bool.and_eq_true, Bool.and_eq_true] at h0
    obtain ⟨k, rfl, hk⟩ := rg_ex (by decide) h0.1.1
    obtain ⟨q, rfl, hq⟩ := rg_ex (by omega) h0.2
    rw [if_pos rfl, do_eq (m_in h am 1 10000), ite_b]
    change (if wi am 1 10000 = true then _ else _) = _
    cases wi am 1 10000 with
    | false => rfl
    | true =>
      rw [if_pos rfl, w_gIv H 3 hI.1.1]
      by_cases z : n = 160
      · subst z; rfl
      · have hre := m_reasonNow H.1 hI1 (by_k (n := n) hk) u am hq
        rw [H.2] at hre
        rw [if_neg (show ¬ Int32.ofNat n = 160 from fun e => z ((ia_eq (b := 160) (by omega) (by omega)).mp e)), w_rcv H, do_eq hre, decide_eq_true (show n < 160 by omega), if_pos rfl, if_pos rfl, if_pos rfl, ia_nn (n := q) (by omega)]
        by_cases z2 : reasonS s n w (Int32.ofNat k) (Int32.ofNat k) (s 1 0) u q (s 28 0) am (s 27 0) = 0
        · rw [if_pos ((reason_0 _ _ _ _ _ _ _ _ _ _ _).mpr z2), if_pos z2]
        · rw [if_neg (fun e => z2 ((reason_0 _ _ _ _ _ _ _ _ _ _ _).mp e)), if_neg z2]
/-- the seal that the new record gets; whether it stands -/
def sealA (s : Nat → Nat → Int32) (n a k r : Nat) (pe po am : Int32) : Int32 := nowS (uA1 s n a k r pe po am) k r
def stdA (s : Nat → Nat → Int32) (n w a k r : Nat) (pe po am : Int32) : Bool := decide (faultS (uA1 s n a k r pe po am) (n + 1) w a = 0)
def uA (s : Nat → Nat → Int32) (n w a k r : Nat) (pe po am : Int32) : Nat → Nat → Int32 := uAf s n a k r pe po am (sealA s n a k r pe po am) (b2i (stdA s n w a k r pe po am))
theorem nowS_e (e : eq0 s s') (k r : Nat) : nowS s' k r = nowS s k r := by
  unfold nowS
  rw [aheadS_e e, e.esN (by decide), foldS_congr (g := fun p => markS (Int32.ofNat k) (Int32.ofNat r) (Int32.ofNat p) (s 33 (6 * sN s 31 (160 * k + r) + p))) (fun p _ => by
    show markS _ _ _ (s' 33 _) = markS _ _ _ (s 33 _)
    rw [e 33 _ (by decide)])]
theorem uA_e (e : eq0 s s') (n w a k r : Nat) (pe po am : Int32) : eq0 (uA s n w a k r pe po am) (uA s' n w a k r pe po am) := by
  have e1 := uA1_e e n a k r pe po am
  unfold uA
  have q1 : sealA s' n a k r pe po am = sealA s n a k r pe po am := nowS_e e1 k r
  have q2 : stdA s' n w a k r pe po am = stdA s n w a k r pe po am := by
    unfold stdA
    rw [faultS_0 e1]
  rw [q1, q2]
  exact uAf_e e _ _ _ _ _ _ _ _ _
theorem m_actOk (H : St h M s) (hI : Inv s n w a c hr) (hn : n < 160) (hk : k < 6) (hr9 : r = sN s 30 k) {q : Nat} (hq : q < w) (pe am : Int32) (he : eacS s n w (Int32.ofNat k) pe (Int32.ofNat q) am = 0) : Ok h M (uA (nk_u2 s 0 0 0) n w a k r pe (Int32.ofNat q) am) (Int32.ofNat r) (f_X12_act h M (Int32.ofNat k) pe (Int32.ofNat q) am) := by
  have ha := hI.1.2.2.2.2.2.2.1
  have hI0 : Inv (nk_u2 s 0 0 0) n w a c hr := hI.eq0 (eq0_u s 0)
  have hr0 : r = sN (nk_u2 s 0 0 0) 30 k := by rw [hr9]; unfold sN; rw [u2_k _ _ _ _ _ (by decide)]
  unfold f_X12_act
  rw [w_rcv H, do_eq (m_errorOfAct H hI _ _ _ _), w_rcv H, he]
  refine w_do (w_holds H _) (fun h0 H0 => ?_)
  show Ok h0 M _ _ (if (1 : Int32) = 0 then _ else _)
  rw [if_neg (by decide)]
  generalize nk_u2 s 0 0 0 = t at *
  have e29 : t 29 0 = Int32.ofNat a := hI0.1.2.2.2.2.2.1
  have e3 : t 3 0 = Int32.ofNat n := hI0.1.1
  obtain ⟨x0, ex0, hx0, hact0⟩ := hI0.2.2.2.2.2.1.1 k hk
  have exr : x0 = r := by rw [hr0, sN_of ex0 (by omega)]
  subst exr
  have e60 : (6 : Int32) * Int32.ofNat a = Int32.ofNat (6 * a) := by rw [show (6 : Int32) = Int32.ofNat 6 from rfl, ia_mul]
  have e61 : Int32.ofNat (6 * a) + 1 = Int32.ofNat (6 * a + 1) := ia_1 _
  have e62 : Int32.ofNat (6 * a) + 2 = Int32.ofNat (6 * a + 2) := by rw [show (2 : Int32) = Int32.ofNat 2 from rfl, ia_add]
  have e63 : Int32.ofNat (6 * a) + 3 = Int32.ofNat (6 * a + 3) := by rw [show (3 : Int32) = Int32.ofNat 3 from rfl, ia_add]
  have e64 : Int32.ofNat (6 * a) + 4 = Int32.ofNat (6 * a + 4) := by rw [show (4 : Int32) = Int32.ofNat 4 from rfl, ia_add]
  have e65 : Int32.ofNat (6 * a) + 5 = Int32.ofNat (6 * a + 5) := by rw [show (5 : Int32) = Int32.ofNat 5 from rfl, ia_add]
  rw [w_gIv H0 29 e29, w_gP H0 33, e60]
  refine w_wI H0 33 _ (by show 6 * a < 960; omega) (fun h1 H => ?_)
  rw [w_gP H 33, e61]
  refine w_wI H 33 _ (by show 6 * a + 1 < 960; omega) (fun h2 H => ?_)
  rw [w_gP H 33, w_gIv H 28 (v := t 28 0) (by simp [nk_u2]), e62]
  refine w_wI H 33 _ (by show 6 * a + 2 < 960; omega) (fun h3 H => ?_)
  rw [w_gP H 33, e63]
  refine w_wI H 33 _ (by show 6 * a + 3 < 960; omega) (fun h4 H => ?_)
  rw [w_gP H 33, w_gIv H 27 (v := t 27 0) (by simp [nk_u2]), e64]
  refine w_wI H 33 _ (by show 6 * a + 4 < 960; omega) (fun h5 H => ?_)
  rw [w_gP H 33, w_gIv H 1 (v := t 1 0) (by simp [nk_u2]), e65]
  refine w_wI H 33 _ (by show 6 * a + 5 < 960; omega) (fun h6 H => ?_)
  rw [w_gP H 34, w_gIv H 29 (v := Int32.ofNat a) (by simp [nk_u2, e29])]
  refine w_wI H 34 _ (by show a < 160; omega) (fun h7 H => ?_)
  have H7 : St h7 M (uA6 t a pe (Int32.ofNat q) am) := H
  clear H
  rw [w_gP H7 32, w_gIv H7 29 (v := Int32.ofNat a) (by rw [uA6_O _ _ _ _ _ (by decide) (by decide)]; exact e29), w_gIv H7 29 (v := Int32.ofNat a) (by rw [uA6_O _ _ _ _ _ (by decide) (by decide)]; exact e29), w_rcv H7]
  refine w_do (w_makes H7 (by rw [uA6_O _ _ _ _ _ (by decide) (by decide)]; exact e3) hn hk 3 (Int32.ofNat a)) (fun h8 H => ?_)
  refine w_wI H 32 _ (by show a < 160; omega) (fun h9 H => ?_)
  have q30 : nk_u2 (uMk (uA6 t a pe (Int32.ofNat q) am) n k 3 (Int32.ofNat a)) 32 a (Int32.ofNat n) 30 k = Int32.ofNat x0 := by
    rw [u2_k _ _ _ _ _ (by decide), uMk_O _ _ _ _ _ (by decide), uA6_O _ _ _ _ _ (by decide) (by decide)]; exact ex0
  have q29 : nk_u2 (uMk (uA6 t a pe (Int32.ofNat q) am) n k 3 (Int32.ofNat a)) 32 a (Int32.ofNat n) 29 0 = Int32.ofNat a := by
    rw [u2_k _ _ _ _ _ (by decide), uMk_O _ _ _ _ _ (by decide), uA6_O _ _ _ _ _ (by decide) (by decide)]; exact e29
  rw [w_gP H 31, w_gP H 30, w_aI H 30 (by show k < 6; omega), q30, w_gIv H 29 q29, ia_160]
  refine w_wI H 31 _ (by show 160 * k + x0 < 960; omega) (fun h10 H => ?_)
  have H10 : St h10 M (uA1 t n a k x0 pe (Int32.ofNat q) am) := H
  clear H
  have o29 : uA1 t n a k x0 pe (Int32.ofNat q) am 29 0 = Int32.ofNat a := by rw [uA1_O _ _ _ _ _ _ _ _ (by decide)]; exact e29
  have o30 : uA1 t n a k x0 pe (Int32.ofNat q) am 30 k = Int32.ofNat x0 := by rw [uA1_O _ _ _ _ _ _ _ _ (by decide)]; exact ex0
  have sl := m_sealNow (a := a) H10 (by omega) hk (r := x0) (by omega) (fun hx => by
    obtain ⟨e, he, ee⟩ := hact0 (x0 - 1) (by omega)
    exact ⟨e, by omega, by rw [uA1_31, if_neg (by omega)]; exact ee⟩) ⟨a, by omega, by rw [uA1_31, if_pos rfl]⟩
  rw [w_gP H10 35, w_gIv H10 29 o29, w_gP H10 30, w_aI H10 30 (by show k < 6; omega), o30, w_rcv H10, do_eq sl]
  refine w_wI H10 35 _ (by show a < 160; omega) (fun h11 H => ?_)
  have H11 : St h11 M (nk_u2 (uA1 t n a k x0 pe (Int32.ofNat q) am) 35 a (sealA t n a k x0 pe (Int32.ofNat q) am)) := H
  clear H
  have p29 : nk_u2 (uA1 t n a k x0 pe (Int32.ofNat q) am) 35 a (sealA t n a k x0 pe (Int32.ofNat q) am) 29 0 = Int32.ofNat a := by rw [u2_k _ _ _ _ _ (by decide)]; exact o29
  have hIf : Inv (uAf t n a k x0 pe (Int32.ofNat q) am (sealA t n a k x0 pe (Int32.ofNat q) am) (b2i false)) (n + 1) w (a + 1) c hr := uAf_I hI0 hn hk hr0 hq rfl rfl
  have hIw : Inw (nk_u2 (uA1 t n a k x0 pe (Int32.ofNat q) am) 35 a (sealA t n a k x0 pe (Int32.ofNat q) am)) (n + 1) w (a + 1) c hr := hIf.ww (fun x h1 h2 h3 => by
    funext y
    unfold uAf
    rw [u2_k _ _ _ _ _ h2, u2_k _ _ _ _ _ h1, u2_k _ _ _ _ _ h3])
  have ff := m_faultOf_w H11 hIw (show a < a + 1 by omega)
  have fx : faultS (nk_u2 (uA1 t n a k x0 pe (Int32.ofNat q) am) 35 a (sealA t n a k x0 pe (Int32.ofNat q) am)) (n + 1) w a = faultS (uA1 t n a k x0 pe (Int32.ofNat q) am) (n + 1) w a := faultS_x (fun x hx => funext fun y => u2_k _ _ _ _ _ hx.2.2.2.1) _ _ _
  rw [fx] at ff
  rw [w_gP H11 36, w_gIv H11 29 p29, w_gIv H11 29 p29, w_rcv H11, do_eq ff]
  have fin : ∀ b, Ok h11 M (uAf t n a k x0 pe (Int32.ofNat q) am (sealA t n a k x0 pe (Int32.ofNat q) am) (b2i b)) (Int32.ofNat x0) (f_X12_act_c190 h11 M (Int32.ofNat k) (b2i b) (Int32.ofNat a) (some (M + mo 36))) := fun b => by
    unfold f_X12_act_c190
    refine w_wZ H11 36 b (by show a < 160; omega) (fun h12 H => ?_)
    rw [w_gIv H 29 (v := Int32.ofNat a) (by rw [u2_k _ _ _ _ _ (by decide)]; exact p29), ia_1]
    refine w_pI H 29 _ (fun h13 H => ?_)
    rw [w_gP H 30, w_aI H 30 (by show k < 6; omega), u2_k _ _ _ _ _ (by decide), u2_k _ _ _ _ _ (by decide), u2_k _ _ _ _ _ (by decide), o30, ia_1]
    refine w_wI H 30 _ (by show k < 6; omega) (fun h14 H => ?_)
    rw [w_gP H 30, w_aI H 30 (by show k < 6; omega), u2_eq, ia_s1]
    exact Ok.here H
  unfold uA stdA
  by_cases z : faultS (uA1 t n a k x0 pe (Int32.ofNat q) am) (n + 1) w a = 0
  · rw [if_pos z, decide_eq_true z]
    exact fin true
  · rw [if_neg z, decide_eq_false z]
    exact fin false
end AC
