section QQ
variable {h : nk_H} {X n w a c hr : Nat} {pa cp : Nat → Nat} {s s' m : Nat → Nat → Int32}
/-- one exception, one place -/
theorem wq_I {hs : nk_Hs} {f : Option (nk_H × (Int32 ⊕ String))} {n' w' a' c' hr' : Nat} {b : Bool} {val : Int32} (e : VOK h X m n' w' a' c' hr' s' (if b = true then .inl val else .inr nk_IX) f) (hk : nk_kx hs 1 nk_IX = some 1) : WOK h X m n' w' a' c' hr' s' (if b = true then 0 else 1) val (nk_try hs f fun h2 x => (nk_wL h2 (some (X + 56)) 0 x).bind fun h4 => some (h4, 0)) := by
  cases b with
  | true => exact wok_I e
  | false => exact wok_X e hk (by decide)
theorem wq_Z {hs : nk_Hs} {f : Option (nk_H × (Int32 ⊕ String))} {n' w' a' c' hr' : Nat} {b val : Bool} (e : VOK h X m n' w' a' c' hr' s' (if b = true then .inl (b2i val) else .inr nk_IX) f) (hk : nk_kx hs 1 nk_IX = some 1) : WOK h X m n' w' a' c' hr' s' (if b = true then 0 else 1) (b2i val) (nk_try hs f fun h2 x => (nk_wL h2 (some (X + 56)) 0 (if x = 0 then 0 else 1)).bind fun h4 => some (h4, 0)) := by
  cases b with
  | true => exact wok_Z e
  | false => exact wok_X e hk (by decide)
theorem VOK.iff {α : Type} {f : Option (nk_H × (α ⊕ String))} (W : WR h X n w a c hr pa cp s m) {b : Bool} {val : α} {E : String} (e : f = if b = true then some (h, .inl val) else xx h E) : VOK h X m n w a c hr s (if b = true then .inl val else .inr E) f := by
  rw [e]
  cases b with
  | true => exact VOK.here W _
  | false => exact VOK.thrown W _
theorem rX {α : Type} (W : WR h X n w a c hr pa cp s m) (K : Nat → Option (nk_H × α)) : (nk_rcv [18] h (some X)).bind K = K X := rd_r [18] (by rw [W.1.1.1.1]; decide) K
/-- the reference's answer behind its check -/
theorem mq {M : Nat} (H : St h M s) (b : Bool) {r val : Int32} {K : nk_H → Int32 → Option (nk_H × Int32)} (k0 : b = false → ∀ h1, St h1 M (nk_u2 s 0 0 1) → K h1 0 = some (h1, 0)) (k1 : b = true → ∀ h1, St h1 M (nk_u2 s 0 0 0) → K h1 1 = some (h1, val)) :
    ∃ r, ((if b = true then (0 : Int32) else 1) = 0 → r = val) ∧ Ok h M (nk_u2 s 0 0 (if b = true then 0 else 1)) r ((nk_rcv [19] h (some M)).bind fun a1 => nk_do (f_X12_holds h a1 (if b = true then 0 else 1)) K) := by
  cases b with
  | true =>
    refine ⟨val, fun _ => rfl, ?_⟩
    rw [w_rcv H]
    refine w_do (w_holds H _) (fun h1 H1 => ?_)
    rw [show b2i (decide ((if true = true then (0 : Int32) else 1) = 0)) = 1 from rfl, k1 rfl h1 H1]
    exact Ok.here H1
  | false =>
    refine ⟨0, fun e => absurd e (by decide), ?_⟩
    rw [w_rcv H]
    refine w_do (w_holds H _) (fun h1 H1 => ?_)
    rw [show b2i (decide ((if false = true then (0 : Int32) else 1) = 0)) = 0 from rfl, k0 rfl h1 H1]
    exact Ok.here H1
/-- records -/
theorem cl_records (W : WR h X n w a c hr pa cp s m) (v : Int32) : WOK h X m n w a c hr s (if rg v 6 = true then 0 else 1) (s 30 v.toNatClampNeg) (f_W_records h (some X) v (some (X + 56))) := by
  unfold f_W_records
  rw [rX W]
  refine wq_I (VOK.iff W ?_) rfl
  obtain ⟨k1, -, -, -, k2, -, -, -, ⟨k3, k4⟩, -⟩ := W.1.1.1
  unfold f_X11_records
  rw [dt_if (mb_kiosk h v)]
  cases h0 : rg v 6 with
  | false => rfl
  | true =>
    obtain ⟨k, rfl, hk⟩ := rg_ex (by decide) h0
    obtain ⟨f1, f2, f3, L⟩ := ch_at W hk
    obtain ⟨x, ex, hx, -⟩ := W.2.2.2.2.2.2.2.2.2.2.1.1 k hk
    have ha : a ≤ 160 := by have := W.2.2.2.2.2.1.2.2.2.2.2.2.1; have := W.2.2.2.2.2.1.2.1; omega
    rw [if_pos rfl, if_pos rfl, rd_P [18] (by rw [k1]; decide) k2, rd_q 3 k3 (by omega) (by omega) f1, rd_r [9] (by rw [f2]; decide), do_eq (q_count W hk), ia_nn (by omega), ex, sN_of ex (by omega)]
theorem md_records {M : Nat} (H : St h M s) (v : Int32) : ∃ r, ((if rg v 6 = true then (0 : Int32) else 1) = 0 → r = s 30 v.toNatClampNeg) ∧ Ok h M (nk_u2 s 0 0 (if rg v 6 = true then 0 else 1)) r (f_X12_records h M v) := by
  have e : f_X12_records h M v = f_X12_records_c13 h M v (if rg v 6 = true then 0 else 1) (some M) := by
    unfold f_X12_records
    rw [do_eq (m_isKiosk h v), ite_not]
    cases rg v 6 <;> rfl
  rw [e]
  unfold f_X12_records_c13 f_X12_records_c29
  refine mq H (r := 0) (rg v 6) (fun _ h1 H1 => rfl) (fun hb h1 H1 => ?_)
  obtain ⟨k, rfl, hk⟩ := rg_ex (by decide) hb
  rw [if_neg (by decide), w_gP H1 30, w_aI H1 30 (by show k < 6; omega), u2_k _ _ _ _ _ (by decide), ia_nn (by omega)]
/-- areJoined -/
theorem cl_areJoined (W : WR h X n w a c hr pa cp s m) (v u : Int32) : WOK h X m n w a c hr s (if (rg v 6 && rg u 6) = true then 0 else 1) (b2i (gb (s 2 v.toNatClampNeg) u.toNatClampNeg)) (f_W_areJoined h (some X) v u (some (X + 56))) := by
  unfold f_W_areJoined
  rw [rX W]
  refine wq_Z (VOK.iff W ?_) rfl
  obtain ⟨k1, k2, -, -, -, -, ⟨k3, k4, k5, k6, k7, -⟩, -⟩ := W.1.1.1
  unfold f_X11_areJoined
  rw [dt_if (mb_kiosk h v)]
  cases h0 : rg v 6 with
  | false => rfl
  | true =>
    rw [if_pos rfl, dt_if (mb_kiosk h u), Bool.true_and]
    cases h1 : rg u 6 with
    | false => rfl
    | true =>
      obtain ⟨k, rfl, hk⟩ := rg_ex (by decide) h0
      obtain ⟨o, rfl, ho⟩ := rg_ex (by decide) h1
      have hc := (W.1.2.1.2.2.2 k hk).1
      have e : f_X6_areLinked h (X + 1) (Int32.ofNat k) (Int32.ofNat o) = some (h, b2i (gb (s 2 k) o)) := by
        unfold f_X6_areLinked
        rw [rd_P [14] (by rw [k3]; decide) k4, rd_a 1 k6 (by omega) (by omega) hc, do_eq (cls_hasBit h _ ho), nk_zr_b]
      rw [if_pos rfl, if_pos rfl, rd_P [18] (by rw [k1]; decide) k2, rd_r [14] (by rw [k3]; decide), do_eq e, nk_zr_b, ia_nn (by omega), ia_nn (by omega)]
theorem md_areJoined {M : Nat} (H : St h M s) (v u : Int32) : ∃ r, ((if (rg v 6 && rg u 6) = true then (0 : Int32) else 1) = 0 → r = b2i (gb (s 2 v.toNatClampNeg) u.toNatClampNeg)) ∧ Ok h M (nk_u2 s 0 0 (if (rg v 6 && rg u 6) = true then 0 else 1)) r (f_X12_areJoined h M v u) := by
  have e : f_X12_areJoined h M v u = f_X12_areJoined_c20 h M v u (if (rg v 6 && rg u 6) = true then 0 else 1) (some M) := by
    unfold f_X12_areJoined f_X12_areJoined_c19
    rw [do_eq (m_isKiosk h v), ite_not]
    cases rg v 6 with
    | false => rfl
    | true =>
      rw [if_neg (by decide), do_eq (m_isKiosk h u), ite_not]
      cases rg u 6 <;> rfl
  rw [e]
  unfold f_X12_areJoined_c20 f_X12_areJoined_c44 f_X12_areJoined_c45
  refine mq H (r := 0) (rg v 6 && rg u 6) (fun _ h1 H1 => rfl) (fun hb h1 H1 => ?_)
  rw [Bool.and_eq_true] at hb
  obtain ⟨k, rfl, hk⟩ := rg_ex (by decide) hb.1
  obtain ⟨o, rfl, ho⟩ := rg_ex (by decide) hb.2
  rw [if_neg (by decide), w_gP H1 2, w_aI H1 2 (by show k < 6; omega), u2_k _ _ _ _ _ (by decide), ia_nn (by omega), ia_nn (by omega)]
  cases hg : gb (s 2 k) o with
  | true => rw [if_pos ((gb_mod1 _ ho).mpr hg)]; rfl
  | false => rw [if_neg (fun e => by rw [(gb_mod1 _ ho).mp e] at hg; cases hg)]; rfl
end QQ
