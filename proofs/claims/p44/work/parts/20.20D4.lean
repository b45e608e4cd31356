section QQ
variable {h : nk_H} {X n w a c hr : Nat} {pa cp : Nat → Nat} {s s' m : Nat → Nat → Int32}
/-- the way to a power -/
theorem to_power {α : Type} (W : WR h X n w a c hr pa cp s m) {q : Nat} (hq : q < w) (K : nk_H → Option Nat → Option (nk_H × α)) : ((nk_gP [18] 2 h (some X)).bind fun x4 => (nk_rcv [7] h x4).bind fun a5 => nk_do (f_Jx4a65c_get_915e3 h a5 (Int32.ofNat q)) fun h6 x7 => (nk_cc [16] h6 x7).bind fun _ => K h6 x7) = K h (some (pw s pa q)) := by
  obtain ⟨k1, -, -, k2, -⟩ := W.1.1.1
  have L := W.1.2.2.2.2.2.1.2.1
  rw [rd_P [18] (by rw [k1]; decide) k2, rd_r [7] (by rw [L.1]; decide), do_eq (ls_get L hq), rd_c [16] (by rw [pw_K W.1.1 W.I hq]; decide)]
/-- source -/
theorem cl_source (W : WR h X n w a c hr pa cp s m) (v : Int32) : WOK h X m n w a c hr s (if rg v w = true then 0 else 1) (s 16 v.toNatClampNeg) (f_W_source h (some X) v (some (X + 56))) := by
  have hb := W.b
  unfold f_W_source
  rw [rX W]
  refine wq_I (VOK.iff W ?_) rfl
  unfold f_X11_source f_X11_source_c32
  rw [rX W, dt_if (mb_power W v)]
  cases h0 : rg v w with
  | false => rfl
  | true =>
    obtain ⟨q, rfl, hq⟩ := rg_ex (by omega) h0
    have kw : nk_K h (pw s pa q) ∈ [16] := by rw [pw_K W.1.1 W.I hq]; decide
    rw [if_pos rfl, if_pos rfl, to_power W hq, rd_P [16] kw (W.1.1.2.2.2.2.2.1 q hq).2.1, ia_nn (by omega)]
    have hs := (src_lt W.I (r := sN s 16 q) hq)
    rcases (W.I.2.2.2.1 q hq).2 with e | ⟨r, hr9, e⟩
    · have e2 : src s q = none := by unfold src; rw [if_pos e]
      rw [e2, e]; rfl
    · have e2 : src s q = some r := by
        unfold src
        rw [if_neg (by rw [e]; exact ia_m1 (by omega)), sN_of e (by omega)]
      have kr : nk_K h (pw s pa r) ∈ [16] := by rw [pw_K W.1.1 W.I (by omega)]; decide
      rw [e2, Option.map_some, if_neg (by simp), rd_I [16] kr (W.1.1.2.2.2.2.2.1 r (by omega)).1, e]
theorem md_source {M : Nat} (H : St h M s) (hI : Inv s n w a c hr) (v : Int32) : ∃ r, ((if rg v w = true then (0 : Int32) else 1) = 0 → r = s 16 v.toNatClampNeg) ∧ Ok h M (nk_u2 s 0 0 (if rg v w = true then 0 else 1)) r (f_X12_source h M v) := by
  have hw := hI.1.2.2.2.1
  have e : f_X12_source h M v = f_X12_source_c14 h M v (if rg v w = true then 0 else 1) (some M) := by
    unfold f_X12_source
    rw [w_rcv H, do_eq (m_isPower H hI.1.2.2.1 hw v), ite_not]
    cases rg v w <;> rfl
  rw [e]
  unfold f_X12_source_c14 f_X12_source_c30
  refine mq H (r := 0) (rg v w) (fun _ h1 H1 => rfl) (fun hb h1 H1 => ?_)
  obtain ⟨k, rfl, hk⟩ := rg_ex (by omega) hb
  rw [if_neg (by decide), w_gP H1 16, w_aI H1 16 (by show k < 40; omega), u2_k _ _ _ _ _ (by decide), ia_nn (by omega)]
/-- holder -/
theorem cl_holder (W : WR h X n w a c hr pa cp s m) (v : Int32) : WOK h X m n w a c hr s (if rg v w = true then 0 else 1) (s 15 v.toNatClampNeg) (f_W_holder h (some X) v (some (X + 56))) := by
  have hb := W.b
  unfold f_W_holder
  rw [rX W]
  refine wq_I (VOK.iff W ?_) rfl
  unfold f_X11_holder
  rw [rX W, dt_if (mb_power W v)]
  cases h0 : rg v w with
  | false => rfl
  | true =>
    obtain ⟨q, rfl, hq⟩ := rg_ex (by omega) h0
    have kw : nk_K h (pw s pa q) ∈ [16] := by rw [pw_K W.1.1 W.I hq]; decide
    rw [if_pos rfl, if_pos rfl, to_power W hq, rd_I [16] kw (W.1.1.2.2.2.2.2.1 q hq).2.2.2.1, ia_nn (by omega)]
theorem md_holder {M : Nat} (H : St h M s) (hI : Inv s n w a c hr) (v : Int32) : ∃ r, ((if rg v w = true then (0 : Int32) else 1) = 0 → r = s 15 v.toNatClampNeg) ∧ Ok h M (nk_u2 s 0 0 (if rg v w = true then 0 else 1)) r (f_X12_holder h M v) := by
  have hw := hI.1.2.2.2.1
  have e : f_X12_holder h M v = f_X12_holder_c14 h M v (if rg v w = true then 0 else 1) (some M) := by
    unfold f_X12_holder
    rw [w_rcv H, do_eq (m_isPower H hI.1.2.2.1 hw v), ite_not]
    cases rg v w <;> rfl
  rw [e]
  unfold f_X12_holder_c14 f_X12_holder_c30
  refine mq H (r := 0) (rg v w) (fun _ h1 H1 => rfl) (fun hb h1 H1 => ?_)
  obtain ⟨k, rfl, hk⟩ := rg_ex (by omega) hb
  rw [if_neg (by decide), w_gP H1 15, w_aI H1 15 (by show k < 40; omega), u2_k _ _ _ _ _ (by decide), ia_nn (by omega)]
/-- the act of a record -/
def acS (s : Nat → Nat → Int32) (v r : Int32) : Nat := sN s 31 (160 * v.toNatClampNeg + r.toNatClampNeg)
/-- the reference's way to a record's act -/
theorem m_act {M : Nat} {α : Type} (H : St h M s) {k i e : Nat} (hk : k < 6) (hi : i < 160) (ee : s 31 (160 * k + i) = Int32.ofNat e) (K : Int32 → Option (nk_H × α)) : ((nk_gP [19] 31 h (some M)).bind fun x5 => (nk_aI 1 h x5 (160 * Int32.ofNat k + Int32.ofNat i)).bind K) = K (Int32.ofNat e) := by
  rw [w_gP H 31, ia_160, w_aI H 31 (by show 160 * k + i < 960; omega), ee]
/-- stands -/
theorem cl_stands (W : WR h X n w a c hr pa cp s m) (v r : Int32) : WOK h X m n w a c hr s (if recB s v r = true then 0 else 1) (b2i (decide (s 36 (acS s v r) = 1))) (f_W_stands h (some X) v r (some (X + 56))) := by
  have hb := W.b
  unfold f_W_stands
  rw [rX W]
  refine wq_Z (VOK.iff W ?_) rfl
  unfold f_X11_stands
  rw [rX W, dt_if (mb_record W v r)]
  cases h0 : recB s v r with
  | false => rfl
  | true =>
    obtain ⟨k, i, e, rfl, hk, rfl, hi, hir, he, ee, es⟩ := rec_ex W.I h0
    have e36 := (W.1.1.2.2.2.2.2.2.2.2.2 e he).2.1
    obtain ⟨b, eb⟩ := (W.I.2.2.2.2.1 e he).2.2.2.2
    have ea : acS s (Int32.ofNat k) (Int32.ofNat i) = e := by unfold acS; rw [ia_nn (by omega), ia_nn (by omega)]; exact es
    rw [if_pos rfl, if_pos rfl, to_act W hk hi he es, rd_I [8] (by rw [(act_K W he).1]; decide) e36, ea, eb, nk_zr_b]
    cases b <;> rfl
theorem md_stands {M : Nat} (H : St h M s) (hI : Inv s n w a c hr) (v r : Int32) : ∃ r9, ((if recB s v r = true then (0 : Int32) else 1) = 0 → r9 = b2i (decide (s 36 (acS s v r) = 1))) ∧ Ok h M (nk_u2 s 0 0 (if recB s v r = true then 0 else 1)) r9 (f_X12_stands h M v r) := by
  have ha : a ≤ 160 := by have := hI.1.2.2.2.2.2.2.1; have := hI.1.2.1; omega
  unfold f_X12_stands f_X12_stands_c33 f_X12_stands_c34
  rw [w_rcv H]
  refine mqg (recB s v r) (w_isThere H hI.2.2.2.2.2.1 ha v r) (fun _ h1 H1 => rfl) (fun hb h1 H1 => ?_)
  obtain ⟨k, i, e, rfl, hk, rfl, hi, hir, he, ee, es⟩ := rec_ex hI hb
  have ea : acS s (Int32.ofNat k) (Int32.ofNat i) = e := by unfold acS; rw [ia_nn (by omega), ia_nn (by omega)]; exact es
  obtain ⟨b, eb⟩ := (hI.2.2.2.2.1 e he).2.2.2.2
  rw [if_neg (by decide), w_gP H1 36, m_act H1 hk (by omega) (by rw [u2_k _ _ _ _ _ (by decide)]; exact ee), w_aZ H1 36 (by show e < 160; omega), u2_k _ _ _ _ _ (by decide), ea, eb]
  cases b <;> rfl
/-- pieceOf -/
theorem cl_pieceOf (W : WR h X n w a c hr pa cp s m) (v r : Int32) : WOK h X m n w a c hr s (if recB s v r = true then 0 else 1) (s 32 (acS s v r)) (f_W_pieceOf h (some X) v r (some (X + 56))) := by
  have hb := W.b
  unfold f_W_pieceOf
  rw [rX W]
  refine wq_I (VOK.iff W ?_) rfl
  unfold f_X11_pieceOf
  rw [rX W, dt_if (mb_record W v r)]
  cases h0 : recB s v r with
  | false => rfl
  | true =>
    obtain ⟨k, i, e, rfl, hk, rfl, hi, hir, he, ee, es⟩ := rec_ex W.I h0
    have ea : acS s (Int32.ofNat k) (Int32.ofNat i) = e := by unfold acS; rw [ia_nn (by omega), ia_nn (by omega)]; exact es
    obtain ⟨kk, hp⟩ := act_K W he
    have e0 := (W.1.1.2.2.2.2.1 _ hp).1
    obtain ⟨⟨p, hp9, ep, -⟩, -⟩ := W.I.2.2.2.2.1 e he
    have ep2 : sN s 32 e = p := sN_of ep (by omega)
    rw [if_pos rfl, if_pos rfl, to_act W hk hi he es, rd_I (a := ac s pa e) [8] (by rw [kk]; decide) e0, ea, ep2, ep]
theorem md_pieceOf {M : Nat} (H : St h M s) (hI : Inv s n w a c hr) (v r : Int32) : ∃ r9, ((if recB s v r = true then (0 : Int32) else 1) = 0 → r9 = s 32 (acS s v r)) ∧ Ok h M (nk_u2 s 0 0 (if recB s v r = true then 0 else 1)) r9 (f_X12_pieceOf h M v r) := by
  have ha : a ≤ 160 := by have := hI.1.2.2.2.2.2.2.1; have := hI.1.2.1; omega
  unfold f_X12_pieceOf f_X12_pieceOf_c30
  rw [w_rcv H]
  refine mqg (recB s v r) (w_isThere H hI.2.2.2.2.2.1 ha v r) (fun _ h1 H1 => rfl) (fun hb h1 H1 => ?_)
  obtain ⟨k, i, e, rfl, hk, rfl, hi, hir, he, ee, es⟩ := rec_ex hI hb
  have ea : acS s (Int32.ofNat k) (Int32.ofNat i) = e := by unfold acS; rw [ia_nn (by omega), ia_nn (by omega)]; exact es
  rw [if_neg (by decide), w_gP H1 32, m_act H1 hk (by omega) (by rw [u2_k _ _ _ _ _ (by decide)]; exact ee), w_aI H1 32 (by show e < 160; omega), u2_k _ _ _ _ _ (by decide), ea]
/-- seal -/
theorem cl_seal (W : WR h X n w a c hr pa cp s m) (v r : Int32) : WOK h X m n w a c hr s (if recB s v r = true then 0 else 1) (s 35 (acS s v r)) (f_W_seal h (some X) v r (some (X + 56))) := by
  have hb := W.b
  unfold f_W_seal
  rw [rX W]
  refine wq_I (VOK.iff W ?_) rfl
  unfold f_X11_seal
  rw [rX W, dt_if (mb_record W v r)]
  cases h0 : recB s v r with
  | false => rfl
  | true =>
    obtain ⟨k, i, e, rfl, hk, rfl, hi, hir, he, ee, es⟩ := rec_ex W.I h0
    have ea : acS s (Int32.ofNat k) (Int32.ofNat i) = e := by unfold acS; rw [ia_nn (by omega), ia_nn (by omega)]; exact es
    rw [if_pos rfl, if_pos rfl, to_act W hk hi he es, rd_I [8] (by rw [(act_K W he).1]; decide) (W.1.1.2.2.2.2.2.2.2.2.2 e he).1, ea]
theorem md_seal {M : Nat} (H : St h M s) (hI : Inv s n w a c hr) (v r : Int32) : ∃ r9, ((if recB s v r = true then (0 : Int32) else 1) = 0 → r9 = s 35 (acS s v r)) ∧ Ok h M (nk_u2 s 0 0 (if recB s v r = true then 0 else 1)) r9 (f_X12_seal h M v r) := by
  have ha : a ≤ 160 := by have := hI.1.2.2.2.2.2.2.1; have := hI.1.2.1; omega
  unfold f_X12_seal f_X12_seal_c30
  rw [w_rcv H]
  refine mqg (recB s v r) (w_isThere H hI.2.2.2.2.2.1 ha v r) (fun _ h1 H1 => rfl) (fun hb h1 H1 => ?_)
  obtain ⟨k, i, e, rfl, hk, rfl, hi, hir, he, ee, es⟩ := rec_ex hI hb
  have ea : acS s (Int32.ofNat k) (Int32.ofNat i) = e := by unfold acS; rw [ia_nn (by omega), ia_nn (by omega)]; exact es
  rw [if_neg (by decide), w_gP H1 35, m_act H1 hk (by omega) (by rw [u2_k _ _ _ _ _ (by decide)]; exact ee), w_aI H1 35 (by show e < 160; omega), u2_k _ _ _ _ _ (by decide), ea]
/-- part -/
theorem cl_part (W : WR h X n w a c hr pa cp s m) (v r p : Int32) : WOK h X m n w a c hr s (if (recB s v r && rg p 6) = true then 0 else 1) (s 33 (6 * acS s v r + p.toNatClampNeg)) (f_W_part h (some X) v r p (some (X + 56))) := by
  have hb := W.b
  unfold f_W_part
  rw [rX W]
  refine wq_I (VOK.iff W ?_) rfl
  unfold f_X11_part
  rw [rX W, dt_if (mb_record W v r)]
  cases h0 : recB s v r with
  | false => rfl
  | true =>
    rw [if_pos rfl, dt_if (mb_part h p), Bool.true_and]
    cases h1 : rg p 6 with
    | false => rfl
    | true =>
      obtain ⟨k, i, e, rfl, hk, rfl, hi, hir, he, ee, es⟩ := rec_ex W.I h0
      obtain ⟨p, rfl, hp⟩ := rg_ex (by decide) h1
      have ea : acS s (Int32.ofNat k) (Int32.ofNat i) = e := by unfold acS; rw [ia_nn (by omega), ia_nn (by omega)]; exact es
      obtain ⟨-, -, -, a8, a9, a10, -⟩ := W.1.1.2.2.2.2.2.2.2.2.1 e he
      rw [if_pos rfl, if_pos rfl, to_act W hk hi he es, rd_P [8] (by rw [(act_K W he).1]; decide) a8, rd_a 1 a9 (by omega) (by omega) ((W.1.1.2.2.2.2.2.2.2.2.2 e he).2.2.1 p hp), ea, ia_nn (by omega)]
theorem md_part {M : Nat} (H : St h M s) (hI : Inv s n w a c hr) (v r p : Int32) : ∃ r9, ((if (recB s v r && rg p 6) = true then (0 : Int32) else 1) = 0 → r9 = s 33 (6 * acS s v r + p.toNatClampNeg)) ∧ Ok h M (nk_u2 s 0 0 (if (recB s v r && rg p 6) = true then 0 else 1)) r9 (f_X12_part h M v r p) := by
  have ha : a ≤ 160 := by have := hI.1.2.2.2.2.2.2.1; have := hI.1.2.1; omega
  have e90 : f_X12_part h M v r p = f_X12_part_c36 h M v r p (if (recB s v r && rg p 6) = true then 0 else 1) (some M) := by
    unfold f_X12_part f_X12_part_c22 f_X12_part_c23
    rw [w_rcv H, do_eq (m_isRecord H hI.2.2.2.2.2.1 ha v r), ite_not]
    cases recB s v r with
    | false => rfl
    | true =>
      rw [if_neg (by decide), show (5 : Int32) = Int32.ofNat 6 - 1 from rfl, do_eq (in_rg h p 6 (by decide)), ite_not]
      cases rg p 6 <;> rfl
  rw [e90]
  unfold f_X12_part_c36 f_X12_part_c68
  refine mq H (r := 0) (recB s v r && rg p 6) (fun _ h1 H1 => rfl) (fun hb h1 H1 => ?_)
  rw [Bool.and_eq_true] at hb
  obtain ⟨k, i, e, rfl, hk, rfl, hi, hir, he, ee, es⟩ := rec_ex hI hb.1
  obtain ⟨p, rfl, hp⟩ := rg_ex (by decide) hb.2
  have ea : acS s (Int32.ofNat k) (Int32.ofNat i) = e := by unfold acS; rw [ia_nn (by omega), ia_nn (by omega)]; exact es
  rw [if_neg (by decide), w_gP H1 33, m_act H1 hk (by omega) (by rw [u2_k _ _ _ _ _ (by decide)]; exact ee), ia_6, w_aI H1 33 (by show 6 * e + p < 960; omega), u2_k _ _ _ _ _ (by decide), ea, ia_nn (by omega)]
/-- the way to a copy -/
theorem to_copy {α : Type} (W : WR h X n w a c hr pa cp s m) {q : Nat} (hq : q < c) (K : nk_H → Option Nat → Option (nk_H × α)) : ((nk_gP [18] 4 h (some X)).bind fun x4 => (nk_rcv [7] h x4).bind fun a5 => nk_do (f_Jx4a65c_get_915e3 h a5 (Int32.ofNat q)) fun h6 x7 => (nk_cc [10] h6 x7).bind fun _ => K h6 x7) = K h (some (cp q)) := by
  obtain ⟨k1, -, -, -, -, k2, -⟩ := W.1.1.1
  have L := W.1.2.2.2.2.2.1.2.2.2
  have K9 := (W.1.2.2.2.1 q hq).2.2.2.2.1
  rw [rd_P [18] (by rw [k1]; decide) k2, rd_r [7] (by rw [L.1]; decide), do_eq (ls_get L hq), rd_c [10] (by rw [K9]; decide)]
/-- size -/
theorem cl_size (W : WR h X n w a c hr pa cp s m) (v : Int32) : WOK h X m n w a c hr s (if rg v c = true then 0 else 1) (s 40 v.toNatClampNeg) (f_W_size h (some X) v (some (X + 56))) := by
  have hb := W.b
  unfold f_W_size
  rw [rX W]
  refine wq_I (VOK.iff W ?_) rfl
  unfold f_X11_size
  rw [rX W, dt_if (mb_copy W v)]
  cases h0 : rg v c with
  | false => rfl
  | true =>
    obtain ⟨q, rfl, hq⟩ := rg_ex (by omega) h0
    have K9 := (W.1.2.2.2.1 q hq).2.2.2.2.1
    rw [if_pos rfl, if_pos rfl, to_copy W hq, rd_I [10] (by rw [K9]; decide) (W.1.2.2.2.2.1 q hq).2.2.1, ia_nn (by omega)]
theorem md_size {M : Nat} (H : St h M s) (hI : Inv s n w a c hr) (v : Int32) : ∃ r, ((if rg v c = true then (0 : Int32) else 1) = 0 → r = s 40 v.toNatClampNeg) ∧ Ok h M (nk_u2 s 0 0 (if rg v c = true then 0 else 1)) r (f_X12_size h M v) := by
  have hw := hI.1.2.2.2.2.2.2.2.2.1
  have e : f_X12_size h M v = f_X12_size_c14 h M v (if rg v c = true then 0 else 1) (some M) := by
    unfold f_X12_size
    rw [w_rcv H, do_eq (m_isCopy H hI.1.2.2.2.2.2.2.2.1 hw v), ite_not]
    cases rg v c <;> rfl
  rw [e]
  unfold f_X12_size_c14 f_X12_size_c30
  refine mq H (r := 0) (rg v c) (fun _ h1 H1 => rfl) (fun hb h1 H1 => ?_)
  obtain ⟨k, rfl, hk⟩ := rg_ex (by omega) hb
  rw [if_neg (by decide), w_gP H1 40, w_aI H1 40 (by show k < 12; omega), u2_k _ _ _ _ _ (by decide), ia_nn (by omega)]
end QQ
