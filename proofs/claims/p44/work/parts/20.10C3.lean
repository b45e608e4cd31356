section CC
variable {h : nk_H} {X n w a c hr : Nat} {pa : Nat → Nat} {s : Nat → Nat → Int32}
/-- the piece j as the lists give it -/
theorem q_piece {α : Type} (H : CQ h X n w a pa s) (hI : Inv s n w a c hr) {j : Nat} (hj : j < n) (K : Nat → Option (nk_H × α)) : ((nk_cc [8, 12, 16, 17] h (some (pa j))).bind fun _ => (nk_rcv [8, 12, 16, 17] h (some (pa j))).bind K) = K (pa j) := by
  rw [rd_c _ (pa_K H hI hj), rd_r _ (pa_K H hI hj)]
theorem q_isRev (H : CQ h X n w a pa s) (hI : Inv s n w a c hr) {j q : Nat} (hj : j < n) (hq : q < w) : (if nk_K h (pa j) = 8 then f_X8_isRevocationOf h (pa j) (some (pw s pa q)) else if nk_K h (pa j) = 12 then f_X8_isRevocationOf h (pa j) (some (pw s pa q)) else if nk_K h (pa j) = 16 then f_X8_isRevocationOf h (pa j) (some (pw s pa q)) else f_X10_isRevocationOf h (pa j) (some (pw s pa q))) = some (h, b2i (decide (s 4 j = 1) && decide (Int32.ofNat q = s 7 j))) := by
  have hK := (H.2.2.2.1 j hj).1
  have hw := hI.1.2.2.2.1
  rcases pk_cases hI hj with ⟨e1, e2⟩ | ⟨e1, e2⟩ | ⟨e1, e2⟩ | ⟨e1, e2⟩
  · rw [hK, e2, if_neg (by decide), if_neg (by decide), if_pos rfl, e1]; rfl
  · rw [hK, e2, if_neg (by decide), if_neg (by decide), if_neg (by decide), e1]
    unfold f_X10_isRevocationOf f_X10_isRevocationOf_c13
    obtain ⟨-, -, ⟨e4, -⟩ | ⟨-, r, hr9, er⟩ | ⟨e4, -⟩ | ⟨e4, -⟩⟩ := hI.2.1 j hj
    · rw [e1] at e4; exact absurd e4 (by decide)
    · rw [rd_P [17] (by rw [hK, e2]; decide) (H.2.2.2.2.2.2.1 j hj e1), sN_of er (by omega), er]
      by_cases e : r = q
      · subst e; rw [if_pos rfl]; simp [b2i, nk_zr_1]
      · rw [if_neg (fun e3 => e (pw_inj H hI hr9 hq (Option.some.inj e3)))]
        have : ¬ Int32.ofNat q = Int32.ofNat r := fun e3 => e ((ia_eq (by omega) (by omega)).mp e3).symm
        simp [this, b2i, nk_zr_0]
    · rw [e1] at e4; exact absurd e4 (by decide)
    · rw [e1] at e4; exact absurd e4 (by decide)
  · rw [hK, e2, if_neg (by decide), if_pos rfl, e1]; rfl
  · rw [hK, e2, if_pos rfl, e1]; rfl
theorem q_isDep (H : CQ h X n w a pa s) (hI : Inv s n w a c hr) {j : Nat} (hj : j < n) (k0 f t : Int32) : (if nk_K h (pa j) = 8 then f_X8_isDeputation h (pa j) k0 f t else if nk_K h (pa j) = 12 then f_X4_isDeputation h (pa j) k0 f t else if nk_K h (pa j) = 16 then f_X8_isDeputation h (pa j) k0 f t else f_X8_isDeputation h (pa j) k0 f t) = some (h, b2i (decide (s 4 j = 2) && decide (s 7 j = k0) && (decide (s 8 j ≤ t) && decide (f ≤ s 9 j)))) := by
  have hK := (H.2.2.2.1 j hj).1
  rcases pk_cases hI hj with ⟨e1, e2⟩ | ⟨e1, e2⟩ | ⟨e1, e2⟩ | ⟨e1, e2⟩
  · rw [hK, e2, if_neg (by decide), if_neg (by decide), if_pos rfl, e1]; rfl
  · rw [hK, e2, if_neg (by decide), if_neg (by decide), if_neg (by decide), e1]; rfl
  · rw [hK, e2, if_neg (by decide), if_pos rfl, e1]
    unfold f_X4_isDeputation f_X4_isDeputation_c28 f_X4_isDeputation_c29
    obtain ⟨d1, d2, d3⟩ := H.2.2.2.2.2.2.2.1 j hj e1
    have kk : nk_K h (pa j) ∈ [12] := by rw [hK, e2]; decide
    rw [rd_I [12] kk d1]
    by_cases h1 : k0 = s 7 j
    · have h1' : s 7 j = k0 := h1.symm
      rw [if_pos h1, rd_I [12] kk d3]
      by_cases h2 : s 9 j < f
      · have : ¬ f ≤ s 9 j := Int32.not_le.mpr h2
        simp [h2, this, b2i, nk_zr_0]
      · have h2' : f ≤ s 9 j := Int32.not_lt.mp h2
        rw [if_neg h2, rd_I [12] kk d2]
        by_cases h3 : t < s 8 j
        · have : ¬ s 8 j ≤ t := Int32.not_le.mpr h3
          simp [h3, this, b2i, nk_zr_0]
        · have h3' : s 8 j ≤ t := Int32.not_lt.mp h3
          simp [h3, h3', h2', h1', b2i, nk_zr_1]
    · have h1' : ¬ s 7 j = k0 := fun e => h1 e.symm
      simp [h1, h1', b2i, nk_zr_0]
  · rw [hK, e2, if_pos rfl, e1]; rfl
theorem ac_at (hI : Inv s n w a c hr) {j : Nat} (hj : j < n) (e3 : s 4 j = 3) : ∃ e, e < a ∧ s 7 j = Int32.ofNat e ∧ sN s 7 j = e ∧ sN s 32 e = j := by
  have hn := hI.1.2.1
  have ha := hI.1.2.2.2.2.2.2.1
  obtain ⟨-, -, ⟨e4, -⟩ | ⟨e4, -⟩ | ⟨e4, -⟩ | ⟨-, e, he, e7, e32⟩⟩ := hI.2.1 j hj
  · rw [e3] at e4; exact absurd e4 (by decide)
  · rw [e3] at e4; exact absurd e4 (by decide)
  · rw [e3] at e4; exact absurd e4 (by decide)
  · exact ⟨e, he, e7, sN_of e7 (by omega), sN_of e32 (by omega)⟩
theorem q_amount (H : CQ h X n w a pa s) (hI : Inv s n w a c hr) {j q : Nat} (hj : j < n) (hq : q < w) : (if nk_K h (pa j) = 8 then f_X0_amountBy h (pa j) (some (pw s pa q)) else if nk_K h (pa j) = 12 then f_X8_amountBy h (pa j) (some (pw s pa q)) else if nk_K h (pa j) = 16 then f_X8_amountBy h (pa j) (some (pw s pa q)) else f_X8_amountBy h (pa j) (some (pw s pa q))) = some (h, if (decide (s 4 j = 3) && lineB s w (fun x => decide (Int32.ofNat x = Int32.ofNat q)) (sN s 33 (6 * sN s 7 j + 1))) = true then s 34 (sN s 7 j) else 0) := by
  have hK := (H.2.2.2.1 j hj).1
  have hw := hI.1.2.2.2.1
  rcases pk_cases hI hj with ⟨e1, e2⟩ | ⟨e1, e2⟩ | ⟨e1, e2⟩ | ⟨e1, e2⟩
  · rw [hK, e2, if_neg (by decide), if_neg (by decide), if_pos rfl, e1]; rfl
  · rw [hK, e2, if_neg (by decide), if_neg (by decide), if_neg (by decide), e1]; rfl
  · rw [hK, e2, if_neg (by decide), if_pos rfl, e1]; rfl
  · rw [hK, e2, if_pos rfl, e1]
    obtain ⟨e, he, e7, s7, s32⟩ := ac_at hI hj e1
    obtain ⟨-, ⟨x, hx, ex⟩, -⟩ := hI.2.2.2.2.1 e he
    obtain ⟨a1, a2, a3, -⟩ := H.2.2.2.2.2.2.2.2.1 e he
    have hpe : ac s pa e = pa j := by unfold ac; rw [s32]
    rw [hpe] at a1 a2 a3
    have b4 := (H.2.2.2.2.2.2.2.2.2 e he).2.2.2.2.2.2.2.1
    rw [hpe] at b4
    have kk : nk_K h (pa j) ∈ [8] := by rw [hK, e2]; decide
    unfold f_X0_amountBy f_X0_amountBy_c22
    have s33 : sN s 33 (6 * e + 1) = x := sN_of ex (by omega)
    rw [rd_P [8] kk a1, s33, rd_r [16] (by rw [pw_K H hI hx]; decide), do_eq (q_inLine H hI hx hq), ite_not, s7, s33]
    cases h9 : lineB s w (fun y => decide (Int32.ofNat y = Int32.ofNat q)) x with
    | false => rfl
    | true =>
      rw [if_neg (by decide), rd_P [8] kk a2, rd_I [11] (by rw [a3]; decide) b4]; rfl
/-- the head of the loops over all news -/
theorem q_rev1 (H : CQ h X n w a pa s) (hI : Inv s n w a c hr) {B : Int32} (hS : SE h X n s B) {q : Nat} (hq : q < w) : f_X7_revokesAlone h (X + 4) (some (pw s pa q)) = some (h, b2i (anyB (fun j => hasB s B j && (decide (s 4 j = 1) && decide (Int32.ofNat q = s 7 j))) n)) := by
  have hn := hI.1.2.1
  obtain ⟨k1, k2, -⟩ := H.1.2.2.2.2.2.2.2.1
  have k5 := H.2.1
  unfold f_X7_revokesAlone
  have key := loop_any (P := fun j => hasB s B j && (decide (s 4 j = 1) && decide (Int32.ofNat q = s 7 j))) (N := n) (F := fun k z => f_X7_revokesAlone_b2 k h (X + 4) (some (pw s pa q)) z) (a0 := some (h, b2i false)) (a1 := some (h, b2i true)) (by omega) (fun k i hi => by
      show f_X7_revokesAlone_c2 (f_X7_revokesAlone_b2 k) h (X + 4) (some (pw s pa q)) (Int32.ofNat i) = _
      unfold f_X7_revokesAlone_c2 f_X7_revokesAlone_c41
      rw [rd_P [15] (by rw [k1]; decide) k2, rd_r [7] (by rw [k5.1]; decide), do_eq (ls_size k5)]
      by_cases h1 : n ≤ i
      · rw [if_pos ((ia_le (by omega) (by omega)).mpr h1), if_pos h1]; rfl
      · rw [if_neg (fun e => h1 ((ia_le (by omega) (by omega)).mp e)), if_neg h1, rd_r [15] (by rw [k1]; decide), do_eq (q_sees H hS (j := i) (by omega) hn), ite_not, ia_1]
        cases h2 : hasB s B i with
        | false => rfl
        | true =>
          rw [if_neg (by decide), rd_P [15] (by rw [k1]; decide) k2, rd_r [7] (by rw [k5.1]; decide), do_eq (ls_get k5 (i := i) (by omega)), q_piece H hI (j := i) (by omega), do_eq (q_isRev H hI (j := i) (by omega) hq), ite_not]
          cases (decide (s 4 i = 1) && decide (Int32.ofNat q = s 7 i)) <;> rfl) 4096 0 (by omega) (by omega) (fun j hj => by omega)
  show f_X7_revokesAlone_b2 4096 h (X + 4) (some (pw s pa q)) (Int32.ofNat 0) = _
  rw [key]
  cases anyB (fun j => hasB s B j && (decide (s 4 j = 1) && decide (Int32.ofNat q = s 7 j))) n <;> rfl
theorem q_rev (H : CQ h X n w a pa s) (hI : Inv s n w a c hr) {B : Int32} (hS : SE h X n s B) {q : Nat} (hq : q < w) : f_X7_revokes h (X + 4) (some (pw s pa q)) = some (h, b2i (revB s n w B q)) := by
  have k1 := H.1.2.2.2.2.2.2.2.1.1
  unfold f_X7_revokes
  rw [c_line (F := fun k z => f_X7_revokes_b2 k h (X + 4) z) (P := fun x => anyB (fun j => hasB s B j && (decide (s 4 j = 1) && decide (Int32.ofNat x = s 7 j))) n) false true hI hq (fun k => rfl) (fun k x hx => by
    show f_X7_revokes_c2 (f_X7_revokes_b2 k) h (X + 4) (some (pw s pa x)) = _
    unfold f_X7_revokes_c2
    rw [if_neg (by simp), rd_r [15] (by rw [k1]; decide), do_eq (q_rev1 H hI hS hx), ite_b, rd_P [16] (by rw [pw_K H hI hx]; decide) (H.2.2.2.2.2.1 x hx).2.1]
    cases anyB (fun j => hasB s B j && (decide (s 4 j = 1) && decide (Int32.ofNat x = s 7 j))) n <;> rfl)]
  have e : lineB s w (fun x => anyB (fun j => hasB s B j && (decide (s 4 j = 1) && decide (Int32.ofNat x = s 7 j))) n) q = revB s n w B q := by
    unfold lineB
    rw [chB_any]
    unfold revB lineB
    refine anyB_congr (fun j _ => ?_)
    rw [chB_and, chB_and]
    cases hasB s B j <;> cases decide (s 4 j = 1) <;> simp
  rw [e]
  cases revB s n w B q <;> rfl
theorem q_done (H : CQ h X n w a pa s) (hI : Inv s n w a c hr) {B : Int32} (hS : SE h X n s B) {q : Nat} (hq : q < w) : f_X7_doneWith h (X + 4) (some (pw s pa q)) = some (h, doneS s n w B q) := by
  have hn := hI.1.2.1
  obtain ⟨k1, k2, -⟩ := H.1.2.2.2.2.2.2.2.1
  have k5 := H.2.1
  unfold f_X7_doneWith
  have key := loop_sum (g := fun j => if (decide (s 4 j = 3) && lineB s w (fun x => decide (Int32.ofNat x = Int32.ofNat q)) (sN s 33 (6 * sN s 7 j + 1)) && hasB s B j) = true then s 34 (sN s 7 j) else 0) (N := n) (F := fun k acc z => f_X7_doneWith_b4 k h (X + 4) (some (pw s pa q)) acc z) (A := fun acc => some (h, acc)) (fun k i acc hi => by
      show f_X7_doneWith_c4 (f_X7_doneWith_b4 k) h (X + 4) (some (pw s pa q)) acc (Int32.ofNat i) = _
      unfold f_X7_doneWith_c4 f_X7_doneWith_c41
      rw [rd_P [15] (by rw [k1]; decide) k2, rd_r [7] (by rw [k5.1]; decide), do_eq (ls_size k5)]
      by_cases h1 : n ≤ i
      · rw [if_pos ((ia_le (by omega) (by omega)).mpr h1), if_pos h1]
      · rw [if_neg (fun e => h1 ((ia_le (by omega) (by omega)).mp e)), if_neg h1, rd_r [15] (by rw [k1]; decide), do_eq (q_sees H hS (j := i) (by omega) hn), ite_not, ia_1]
        cases h2 : hasB s B i with
        | false => simp
        | true =>
          rw [if_neg (by decide), rd_P [15] (by rw [k1]; decide) k2, rd_r [7] (by rw [k5.1]; decide), do_eq (ls_get k5 (i := i) (by omega)), q_piece H hI (j := i) (by omega), do_eq (q_amount H hI (j := i) (by omega) hq), Bool.and_true]) 4096 0 (by omega) (by omega)
  exact key
theorem q_tot (H : CQ h X n w a pa s) (hI : Inv s n w a c hr) {B : Int32} (hS : SE h X n s B) {q : Nat} (hq : q < w) (t : Int32) : f_X7_wouldPassTotal h (X + 4) (some (pw s pa q)) t = some (h, b2i (totB s n w B q t)) := by
  have k1 := H.1.2.2.2.2.2.2.2.1.1
  unfold f_X7_wouldPassTotal
  rw [c_line (F := fun k z => f_X7_wouldPassTotal_b2 k h (X + 4) t z) (P := fun x => !decide (doneS s n w B x + t ≤ s 19 x)) false true hI hq (fun k => rfl) (fun k x hx => by
    show f_X7_wouldPassTotal_c2 (f_X7_wouldPassTotal_b2 k) h (X + 4) t (some (pw s pa x)) = _
    unfold f_X7_wouldPassTotal_c2
    rw [if_neg (by simp), rd_r [15] (by rw [k1]; decide), do_eq (q_done H hI hS hx), rd_I [16] (by rw [pw_K H hI hx]; decide) (H.2.2.2.2.2.1 x hx).2.2.2.2.2.2.1, rd_P [16] (by rw [pw_K H hI hx]; decide) (H.2.2.2.2.2.1 x hx).2.1]
    by_cases e : doneS s n w B x + t ≤ s 19 x <;> simp [e, nk_zr_1, b2i])]
  unfold totB
  cases lineB s w (fun x => !decide (doneS s n w B x + t ≤ s 19 x)) q <;> rfl
/-- some deputation that is seen, for k0, with an hour in common -/
def depsB (s : Nat → Nat → Int32) (n : Nat) (B k0 f t : Int32) : Bool := anyB (fun j => hasB s B j && (decide (s 4 j = 2) && decide (s 7 j = k0) && (decide (s 8 j ≤ t) && decide (f ≤ s 9 j)))) n
theorem q_deps (H : CQ h X n w a pa s) (hI : Inv s n w a c hr) {B : Int32} (hS : SE h X n s B) (k0 f t : Int32) : f_X7_deputes h (X + 4) k0 f t = some (h, b2i (depsB s n B k0 f t)) := by
  have hn := hI.1.2.1
  obtain ⟨k1, k2, -⟩ := H.1.2.2.2.2.2.2.2.1
  have k5 := H.2.1
  unfold f_X7_deputes
  have key := loop_any (P := fun j => hasB s B j && (decide (s 4 j = 2) && decide (s 7 j = k0) && (decide (s 8 j ≤ t) && decide (f ≤ s 9 j)))) (N := n) (F := fun k z => f_X7_deputes_b3 k h (X + 4) k0 f t z) (a0 := some (h, b2i false)) (a1 := some (h, b2i true)) (by omega) (fun k i hi => by
      show f_X7_deputes_c3 (f_X7_deputes_b3 k) h (X + 4) k0 f t (Int32.ofNat i) = _
      unfold f_X7_deputes_c3 f_X7_deputes_c47
      rw [rd_P [15] (by rw [k1]; decide) k2, rd_r [7] (by rw [k5.1]; decide), do_eq (ls_size k5)]
      by_cases h1 : n ≤ i
      · rw [if_pos ((ia_le (by omega) (by omega)).mpr h1), if_pos h1]; rfl
      · rw [if_neg (fun e => h1 ((ia_le (by omega) (by omega)).mp e)), if_neg h1, rd_r [15] (by rw [k1]; decide), do_eq (q_sees H hS (j := i) (by omega) hn), ite_not, ia_1]
        cases h2 : hasB s B i with
        | false => rfl
        | true =>
          rw [if_neg (by decide), rd_P [15] (by rw [k1]; decide) k2, rd_r [7] (by rw [k5.1]; decide), do_eq (ls_get k5 (i := i) (by omega)), q_piece H hI (j := i) (by omega), do_eq (q_isDep H hI (j := i) (by omega) k0 f t), ite_not]
          cases (decide (s 4 i = 2) && decide (s 7 i = k0) && (decide (s 8 i ≤ t) && decide (f ≤ s 9 i))) <;> rfl) 4096 0 (by omega) (by omega) (fun j hj => by omega)
  show f_X7_deputes_b3 4096 h (X + 4) k0 f t (Int32.ofNat 0) = _
  rw [key]
  unfold depsB
  cases anyB (fun j => hasB s B j && (decide (s 4 j = 2) && decide (s 7 j = k0) && (decide (s 8 j ≤ t) && decide (f ≤ s 9 j)))) n <;> rfl
theorem deps_eq (B k0 t : Int32) : depsB s n B k0 t t = deputyB s n B k0 t := by
  unfold depsB deputyB
  refine anyB_congr (fun j _ => ?_)
  cases hasB s B j <;> simp
/-- the reason against -/
theorem q_reason (H : CQ h X n w a pa s) (hI : Inv s n w a c hr) {B : Int32} (hS : SE h X n s B) {q : Nat} (hq : q < w) {d : Nat} (hd : nk_K h d = 11) {k0 t person amt off : Int32} {kd : Nat} (hkd : kd < 6) {ob : Bool} (hoff : off = b2i ob) (d0 : nk_I h d 0 = k0) (d1 : nk_I h d 1 = t) (d2 : nk_I h d 2 = person) (d3 : nk_I h d 3 = Int32.ofNat kd) (d4 : nk_I h d 4 = amt) (d5 : nk_I h d 5 = off) :
    f_X7_reasonAgainst h (X + 4) (some (pw s pa q)) (some d) = some (h, reasonS s n w B k0 t person q (Int32.ofNat kd) amt off) := by
  have k1 := H.1.2.2.2.2.2.2.2.1.1
  have hw := hI.1.2.2.2.1
  have kd9 : nk_K h d ∈ [11] := by rw [hd]; decide
  have kw : nk_K h (pw s pa q) ∈ [16] := by rw [pw_K H hI hq]; decide
  obtain ⟨w1, w2, w3, w4, w5, w6, w7, w8, w9⟩ := H.2.2.2.2.2.1 q hq
  unfold f_X7_reasonAgainst f_X7_reasonAgainst_c116
  rw [rd_r [15] (by rw [k1]; decide), do_eq (q_known H hI hS hq), ite_b]
  unfold reasonS
  cases h1 : knownB s w B q with
  | false => rfl
  | true =>
    rw [if_pos rfl, if_neg (by decide), rd_I [11] kd9 d2, rd_I [16] kw w4]
    by_cases h2 : s 15 q = person
    · rw [if_pos h2.symm, if_neg (fun e => e h2), rd_r [15] (by rw [k1]; decide), do_eq (q_rev H hI hS hq), ite_b]
      cases h3 : revB s n w B q with
      | true => rfl
      | false =>
        rw [if_neg (by decide), if_neg (by decide), rd_I [11] kd9 d1, rd_r [16] kw, do_eq (q_over H hI hq t), ite_b]
        cases h4 : overB s w q t with
        | true => rfl
        | false =>
          rw [if_neg (by decide), if_neg (by decide), rd_I [16] kw w5, rd_I [11] kd9 d3]
          have hb : f_X11_hasBit h (s 17 q) (Int32.ofNat kd) = some (h, b2i (gb (s 17 q) kd)) := by
            unfold f_X11_hasBit f_X11_hasBit_c14 f_X11_bit
            have e9 : ∀ (K : nk_H → Int32 → Option (nk_H × Int32)), nk_do (some (h, 1 <<< (Int32.ofNat kd &&& 31))) K = K h (1 <<< (Int32.ofNat kd &&& 31)) := fun K => rfl
            rw [e9]
            by_cases hg : gb (s 17 q) kd = false
            · rw [if_pos ((gb_cls (s 17 q) hkd).mpr hg), hg]; rfl
            · rw [if_neg (fun e => hg ((gb_cls (s 17 q) hkd).mp e))]
              have : gb (s 17 q) kd = true := by simpa using hg
              rw [this]; rfl
          rw [do_eq hb, ite_not]
          cases hg : gb (s 17 q) kd with
          | false => rw [if_pos rfl, if_pos ((gb_mod0 (s 17 q) hkd).mpr hg)]
          | true =>
            rw [if_neg (by decide), if_neg (fun e => by rw [(gb_mod0 (s 17 q) hkd).mp e] at hg; cases hg), rd_I [11] kd9 d4, rd_r [16] kw, do_eq (q_lim H hI hq amt), ite_b]
            cases h6 : limB s w q amt with
            | true => rfl
            | false =>
              rw [if_neg (by decide), if_neg (by decide), rd_I [11] kd9 d4, rd_r [15] (by rw [k1]; decide), do_eq (q_tot H hI hS hq amt), ite_b]
              cases h7 : totB s n w B q amt with
              | true => rfl
              | false =>
                rw [if_neg (by decide), if_neg (by decide), rd_I [11] kd9 d5, rd_I [11] kd9 d0, rd_I [11] kd9 d1, rd_r [15] (by rw [k1]; decide)]
                have ho : f_X7_officerAt h (X + 4) k0 t = some (h, b2i (deputyB s n B k0 t)) := by
                  unfold f_X7_officerAt f_X7_officerAt_c15
                  rw [rd_r [15] (by rw [k1]; decide), do_eq (q_deps H hI hS k0 t t), ite_b, deps_eq]
                  cases deputyB s n B k0 t <;> rfl
                rw [do_eq ho, hoff]
                cases ob <;> cases deputyB s n B k0 t <;> rfl
    · rw [if_neg (fun e => h2 e.symm), if_pos h2]
end CC
