section MP
variable {h h' g : nk_H} {X n w a c hr : Nat} {pa pa' cp : Nat → Nat} {s s' s2 m : Nat → Nat → Int32}
theorem uMk_4 (s : Nat → Nat → Int32) (n k : Nat) (kd its : Int32) : uMk s n k kd its 4 n = kd := by simp [uMk, nk_u2]
theorem uMk_7 (s : Nat → Nat → Int32) (n k : Nat) (kd its : Int32) : uMk s n k kd its 7 n = its := by simp [uMk, nk_u2]
theorem uMk_5 (s : Nat → Nat → Int32) (n k : Nat) (kd its : Int32) : uMk s n k kd its 5 n = Int32.ofNat k ∧ uMk s n k kd its 6 n = s 1 0 := by simp [uMk, nk_u2]
theorem uMk_3 (s : Nat → Nat → Int32) (n k : Nat) (kd its : Int32) : uMk s n k kd its 3 0 = Int32.ofNat (n + 1) := by simp [uMk, nk_u2]
theorem uMk_O (s : Nat → Nat → Int32) (n k : Nat) (kd its : Int32) {x : Nat} (h1 : x < 3 ∨ 12 ≤ x ∨ x = 8 ∨ x = 9) : uMk s n k kd its x = s x := by
  funext y
  have q3 : x ≠ 3 := by omega
  have q4 : x ≠ 4 := by omega
  have q5 : x ≠ 5 := by omega
  have q6 : x ≠ 6 := by omega
  have q7 : x ≠ 7 := by omega
  have q10 : x ≠ 10 := by omega
  have q11 : x ≠ 11 := by omega
  simp [uMk, nk_u2, q3, q4, q5, q6, q7, q10, q11]
theorem uMk_j (s : Nat → Nat → Int32) {n k : Nat} (kd its : Int32) {x y : Nat} (h1 : 4 ≤ x) (h2 : x ≤ 9) (hy : y ≠ n) : uMk s n k kd its x y = s x y := by
  have q3 : x ≠ 3 := by omega
  have q10 : x ≠ 10 := by omega
  have q11 : x ≠ 11 := by omega
  simp [uMk, nk_u2, q3, q10, q11, hy]
theorem uMk_F (hI : Inv s n w a c hr) {k : Nat} (hn : n < 160) (hk : k < 6) (kd its : Int32) : MkF s (uMk s n k kd its) n k (Int32.ofNat hr) := by
  have s10 : s 1 0 = Int32.ofNat hr := hI.1.2.2.2.2.2.2.2.2.2.1
  have e10 : ∀ k' j, j < 160 → uMk s n k kd its 10 (160 * k' + j) = if k' = k ∧ j = n then s 1 0 else s 10 (160 * k' + j) := fun k' j hj => by
    have : (160 * k' + j = 160 * k + n) ↔ (k' = k ∧ j = n) := by omega
    simp [uMk, nk_u2, this]
  have e11 : ∀ k' j, j < 160 → uMk s n k kd its 11 (160 * k' + j) = if k' = k ∧ j = n then 1 else s 11 (160 * k' + j) := fun k' j hj => by
    have : (160 * k' + j = 160 * k + n) ↔ (k' = k ∧ j = n) := by omega
    simp [uMk, nk_u2, this]
  have z : ∀ k', k' < 6 → s 10 (160 * k' + n) = -1 ∧ s 11 (160 * k' + n) = 0 := fun k' hk' => by
    obtain ⟨q1, q2⟩ := hI.2.2.1 k' hk' n hn
    have r1 : s 10 (160 * k' + n) = -1 := by
      rcases q1 with q1 | ⟨q1, -⟩
      · exact q1
      · omega
    refine ⟨r1, ?_⟩
    rcases q2 with q2 | ⟨-, q2⟩
    · exact q2
    · exact absurd r1 q2
  refine ⟨by simp [uMk, nk_u2], by simp [uMk, nk_u2, s10], fun k' hk' => ?_, fun k' hk' => ?_, fun j hj hj2 k' hk' => ?_, fun j hj x x1 x2 => uMk_j s kd its x1 x2 (by omega)⟩
  · rw [e10 k' n hn, (z k' hk').1, s10]
    by_cases q : k' = k <;> simp [q]
  · rw [e11 k' n hn, (z k' hk').2]
    by_cases q : k' = k <;> simp [q]
  · rw [e10 k' j hj2, e11 k' j hj2, if_neg (fun q => hj q.2), if_neg (fun q => hj q.2)]
    exact ⟨rfl, rfl⟩
theorem uMk_0 (e : eq0 s s') (n k : Nat) (kd its : Int32) : eq0 (uMk s n k kd its) (uMk s' n k kd its) := by
  have e1 : s' 1 0 = s 1 0 := e 1 0 (by decide)
  unfold uMk
  rw [e1]
  exact eq0_u2 (eq0_u2 (eq0_u2 (eq0_u2 (eq0_u2 (eq0_u2 (eq0_u2 e _ _ _) _ _ _) _ _ _) _ _ _) _ _ _) _ _ _) _ _ _
/-- a refused call, a call that answers -/
theorem BI.errV {γ : Type} (W : WR h X n w a c hr pa cp s s) {hs : nk_Hs} {f : Option (nk_H × (γ ⊕ String))} {K : nk_H → γ → Option (nk_H × Int32)} {fM : nk_H → Option (nk_H × Int32)} {E : String} {k : Nat} {v : Int32} (H : VOK h X s n w a c hr s (.inr E) f) (hk : nk_kx hs 1 E = some k) (hv : Int32.ofInt k = v) (hk0 : v ≠ 0) (eM : ∀ h1, St h1 (X + 23) s → ∃ r, Ok h1 (X + 23) (nk_u2 s 0 0 v) r (fM h1)) : BI h X s (nk_try hs f K) fM := by
  subst hv
  exact ⟨n, w, a, c, hr, s, nk_u2 s 0 0 (Int32.ofInt k), Int32.ofInt k, 0, wok_X H hk hk0, fun h1 H1 => (eM h1 H1).imp fun r hr9 => ⟨fun e => absurd e hk0, hr9⟩, eq0_u s _, u2_eq _ _ _ _, fun _ => eq0_u s _, JX.of (eq0_u s _) (fun _ _ => rfl) (fun _ => by decide)⟩
theorem BI.okV {n' w' a' c' hr' : Nat} {hs : nk_Hs} {f : Option (nk_H × (Int32 ⊕ String))} {fM : nk_H → Option (nk_H × Int32)} {v : Int32} (H : VOK h X s n' w' a' c' hr' s' (.inl v) f) (eM : ∀ h1, St h1 (X + 23) s → Ok h1 (X + 23) s2 v (fM h1)) (e : eq0 s' s2) (e0 : s2 0 0 = 0) (j : JX s s2 0 v) : BI h X s (nk_try hs f fun h2 x3 => ((nk_wL h2 (some (X + 56)) 0 x3).bind fun h4 => some (h4, 0))) fM :=
  ⟨n', w', a', c', hr', s', s2, 0, v, wok_I H, fun h1 H1 => ⟨v, fun _ => rfl, eM h1 H1⟩, e, e0, fun e9 => absurd rfl e9, j⟩
theorem VOK.seenX {α : Type} {h1 : nk_H} (W : WR h X n w a c hr pa cp s m) (S : SM X h h1) (E : String) : VOK (α := α ⊕ String) h X m n w a c hr s (.inr E) (xx h1 E) := ⟨_, pa, cp, rfl, (W.seen S).al 0 0 6, by rw [nk_N_al, S.2.2.2.1]; omega, by rw [nk_S_al, S.2.2.2.2.1]; omega⟩
theorem mb_room (W : WR h X n w a c hr pa cp s m) : f_X11_mustHaveRoomForNews h X = if decide (n < 160) = true then some (h, .inl ()) else xx h nk_IS := by
  obtain ⟨p1, p2, p3⟩ := k15 W
  have hb := W.b
  have pl := W.1.1.1.2.2.2.2.2.2.2.1.2.1
  have L := W.1.1.2.1
  have ec : f_X7_count h (X + 4) = some (h, Int32.ofNat n) := by
    unfold f_X7_count
    rw [rd_P [15] p2 pl, rd_r [7] (by rw [L.1]; decide), do_eq (ls_size L)]
  unfold f_X11_mustHaveRoomForNews
  rw [rd_P [18] p3 p1, rd_r [15] p2, do_eq ec]
  by_cases z : n < 160
  · rw [if_pos (show Int32.ofNat n < 160 from (ia_lt (b := 160) (by omega) (by omega)).mpr z), if_pos (decide_eq_true z)]
  · rw [if_neg (show ¬ Int32.ofNat n < 160 from fun e => z ((ia_lt (b := 160) (by omega) (by omega)).mp e)), if_neg (by simp; omega)]
    rfl
theorem giverB_0 (e : eq0 s s') (w : Nat) : giverB s' w = giverB s w := by
  funext q v
  unfold giverB
  rw [lineB_0 e, e.f 14 (by decide)]
theorem m_giver {M : Nat} (hM : MR h M) (hI : Inv (nm h M) n w a c hr) (t : Int32) {q : Nat} (hq : q < w) : f_X12_isGiver h M t (Int32.ofNat q) = some (h, b2i (giverB (nm h M) w q t)) := by
  have hw := hI.1.2.2.2.1
  unfold f_X12_isGiver
  rw [m_line (F := fun k z => f_X12_isGiver_b2 k h M t z) (P := fun x => decide (nm h M 14 x = t)) false true hI hq (fun k => by
      show f_X12_isGiver_c2 (f_X12_isGiver_b2 k) h M t (-1) = _
      unfold f_X12_isGiver_c2
      rw [if_pos rfl]; rfl) (fun k x hx => by
      show f_X12_isGiver_c2 (f_X12_isGiver_b2 k) h M t (Int32.ofNat x) = _
      unfold f_X12_isGiver_c2
      rw [if_neg (ia_m1 (by omega)), m_gP hM 14, Option.bind_some, m_r hM 14 (by show x < 40; omega), Option.bind_some, m_gP hM 16, Option.bind_some, m_r hM 16 (by show x < 40; omega), Option.bind_some]
      by_cases e : nm h M 14 x = t <;> simp [e, nk_zr_1, b2i])]
  unfold giverB
  cases lineB (nm h M) w (fun x => decide (nm h M 14 x = t)) q <;> rfl
theorem m_errorOfRevoke {M : Nat} (H : St h M s) (hI : Inv s n w a c hr) (v u p : Int32) : f_X12_errorOfRevoke h M v u p = some (h, if (rg v 6 && rg u 10 && rg p w) = true then (if giverB s w p.toNatClampNeg u = true then (if decide (n < 160) = true then (if (knownB s w v p.toNatClampNeg && !revB s n w v p.toNatClampNeg) = true then 0 else 3) else 3) else 2) else 1) := by
  have hw := hI.1.2.2.2.1
  have hn := hI.1.2.1
  have hI1 : Inv (nm h M) n w a c hr := by rw [H.2]; exact hI
  unfold f_X12_errorOfRevoke f_X12_errorOfRevoke_c22 f_X12_errorOfRevoke_c70 f_X12_errorOfRevoke_c65 f_X12_errorOfRevoke_c70
  rw [do_eq (m_isKiosk h v), ite_b]
  cases h0 : rg v 6 with
  | false => rfl
  | true =>
    rw [if_pos rfl, do_eq (m_isPerson h u), ite_b]
    cases h1 : rg u 10 with
    | false => rfl
    | true =>
      rw [if_pos rfl, w_rcv H, do_eq (m_isPower H hI.1.2.2.1 hw p), ite_b]
      cases h2 : rg p w with
      | false => rfl
      | true =>
        obtain ⟨k, rfl, hk⟩ := rg_ex (by decide) h0
        obtain ⟨q, rfl, hq⟩ := rg_ex (by omega) h2
        have gg := m_giver H.1 hI1 u hq
        have kk := m_known H.1 hI1 (by_k hk) hq
        have rr := m_rev H.1 hI1 (by_k hk) hq
        rw [H.2] at gg kk rr
        rw [if_pos rfl, w_rcv H, do_eq gg, ite_b, ia_nn (n := q) (by omega)]
        cases h3 : giverB s w q u with
        | false => rfl
        | true =>
          rw [if_pos rfl, w_gI H 3, hI.1.1]
          by_cases z : n = 160
          · subst z; rfl
          · rw [if_neg (show ¬ Int32.ofNat n = 160 from fun e => z ((ia_eq (b := 160) (by omega) (by omega)).mp e)), w_rcv H, do_eq kk, ite_b, decide_eq_true (show n < 160 by omega)]
            cases h4 : knownB s w (Int32.ofNat k) q with
            | false => rfl
            | true =>
              rw [if_pos rfl, w_rcv H, do_eq rr, ite_b]
              cases revB s n w (Int32.ofNat k) q <;> rfl
end MP
