/-! ===== news: isNewsSo ===== -/
section U4
variable {h : nk_H} {x y N S : Nat} {m m' : Nat → Nat → Int32} {n w a c hr : Nat} {Q : nk_H → Int32 → Prop}
theorem c_rr {k j n : Nat} (hk : k < 6) (hj : j < n) (hn : n < 2147483648) : (if (rg (Int32.ofNat k) 6 && rg (Int32.ofNat j) n) = true then (0 : Int32) else 1) = 0 := by
  rw [rg_of (by omega) hk, rg_of hn hj]; rfl
theorem m1_lt {t : Nat} (ht : t < 2147483648) : ¬ Int32.ofNat t < -1 := fun e => by
  rw [Int32.lt_iff_toInt_lt, ia_ti ht] at e
  have : (-1 : Int32).toInt = -1 := by decide
  omega
theorem nw_step (I : Inv m n w a c hr) {k j : Nat} (hk : k < 6) (hj : j < n) (v : Int32) (R : nk_H → Option Nat → Int32 → Int32 → Int32 → Int32 → Int32 → Int32 → Option (nk_H × Int32)) (B : TB h x y m m' N S)
    (kk : ∀ h1, TB h1 x y m m' (N + 20) (S + 120) → WI Q (R h1 (some x) v (Int32.ofNat n) (sumB (fun j => b2i (unrB m k j)) (j + 1)) (Int32.ofNat k) 1 (Int32.ofNat (j + 1)))) :
    WI Q (f_L_isNewsSo_c53 R h (some x) v (Int32.ofNat n) (sumB (fun j => b2i (unrB m k j)) j) (Int32.ofNat k) 1 (Int32.ofNat j)) := by
  have hn := I.1.2.1
  have hh := I.1.2.2.2.2.2.2.2.2.2.2
  have e1 : m 1 0 = Int32.ofNat hr := I.1.2.2.2.2.2.2.2.2.2.1
  have cc := c_rr hk hj (by omega)
  have en : (Int32.ofNat k).toNatClampNeg = k := ia_nn (by omega)
  have ej : (Int32.ofNat j).toNatClampNeg = j := ia_nn (by omega)
  obtain ⟨i10, i11⟩ := I.2.2.1 k hk j (by omega)
  unfold f_L_isNewsSo_c53
  refine WI.neg (show ¬ Int32.ofNat n ≤ Int32.ofNat j from fun e => by have := (ia_le (by omega) (by omega)).mp e; omega) (WI.neg (by decide) ?_)
  refine wq_came B I cc (fun h1 B1 => ?_)
  rw [en, ej]
  rcases i10 with e10 | ⟨-, t, ht, -, e10⟩
  · have e11 : m 11 (160 * k + j) = 0 := by
      rcases i11 with z | ⟨-, z⟩
      · exact z
      · exact absurd e10 z
    have eu : sumB (fun j => b2i (unrB m k j)) (j + 1) = sumB (fun j => b2i (unrB m k j)) j := by
      show sumB (fun j => b2i (unrB m k j)) j + b2i (unrB m k j) = _
      unfold unrB
      rw [e10]
      simp [b2i]
    rw [e10]
    refine WI.neg (by decide) (wq_hour B1 I (fun h2 B2 => ?_))
    rw [e1]
    refine WI.neg (m1_lt (by omega)) (WI.neg (by decide) (wq_isRead B2 I cc (fun h3 B3 => ?_)))
    rw [en, ej, e11]
    refine WI.pos (by decide) ?_
    unfold f_L_isNewsSo_c105 f_L_isNewsSo_c110
    refine WI.pos (by decide) ?_
    unfold f_L_isNewsSo_c133 f_L_isNewsSo_c134
    rw [ia_1, Int32.add_zero, ← eu]
    exact kk h3 (B3.up (by omega) (by omega))
  · rw [e10]
    refine WI.neg (m1_lt (by omega)) (wq_hour B1 I (fun h2 B2 => ?_))
    rw [e1]
    refine WI.neg (fun e => by have := (ia_lt (by omega) (by omega)).mp e; omega) (WI.pos (ia_0le (by omega)) ?_)
    unfold f_L_isNewsSo_c105 f_L_isNewsSo_c110
    refine WI.neg (ia_n0 (by omega)) (wq_isRead B2 I cc (fun h3 B3 => ?_))
    rw [en, ej]
    have em : Int32.ofNat t ≠ -1 := ia_m1 (by omega)
    rcases i11 with e11 | ⟨e11, -⟩
    · have eu : sumB (fun j => b2i (unrB m k j)) (j + 1) = sumB (fun j => b2i (unrB m k j)) j + 1 := by
        show sumB (fun j => b2i (unrB m k j)) j + b2i (unrB m k j) = _
        unfold unrB
        rw [e10, e11]
        simp [b2i, em]
      rw [e11]
      refine WI.pos (by decide) ?_
      unfold f_L_isNewsSo_c134
      rw [ia_1, ← eu]
      exact kk h3 (B3.up (by omega) (by omega))
    · have eu : sumB (fun j => b2i (unrB m k j)) (j + 1) = sumB (fun j => b2i (unrB m k j)) j := by
        show sumB (fun j => b2i (unrB m k j)) j + b2i (unrB m k j) = _
        unfold unrB
        rw [e11]
        simp [b2i]
      rw [e11]
      refine WI.neg (by decide) ?_
      unfold f_L_isNewsSo_c133 f_L_isNewsSo_c134
      rw [ia_1, Int32.add_zero, ← eu]
      exact kk h3 (B3.up (by omega) (by omega))
theorem nw_end (I : Inv m n w a c hr) {k : Nat} (hk : k < 6) (v : Int32) (B : TB h x y m m' N S) : WI (WA x y m m' (N + 20) (S + 120)) (f_L_isNewsSo_c142 h (some x) v (Int32.ofNat n) (unrS m n k) (Int32.ofNat k) 1) := by
  have hn := I.1.2.1
  have k6 : rg (Int32.ofNat k) 6 = true := rg_of (by omega) hk
  have en : (Int32.ofNat k).toNatClampNeg = k := ia_nn (by omega)
  have nx := B.1.1.2.1.2
  unfold f_L_isNewsSo_c142
  refine WI.neg (by decide) (wq_mail B I (if_pos k6) (fun h1 B1 => ?_))
  rw [en]
  refine WI.pos rfl (wq_areJoined B1 I (by rw [k6]; rfl) (fun h2 B2 => ?_))
  rw [en, nx.1 k hk]
  refine WI.pos rfl ?_
  by_cases z : n = 0
  · subst z
    refine WI.pos rfl ?_
    unfold f_L_isNewsSo_c201 f_L_isNewsSo_c206
    exact WI.zr1 ⟨rfl, B2.up (by omega) (by omega)⟩
  · refine WI.neg (fun e => z ((ia_eq (b := 0) (by omega) (by omega)).mp e)) ?_
    refine WI.low rfl (by omega) (by omega) (fun j hj ej => ?_)
    refine wq_cameByLinks B2 I (c_rr hk hj (by omega)) (fun h3 B3 => ?_)
    refine WI.low rfl (by omega) (by omega) (fun j' hj' ej' => ?_)
    have ee : Int32.ofNat j' = Int32.ofNat j := ej'.symm.trans ej
    rw [ee]
    refine wq_came B3 I (c_rr hk hj (by omega)) (fun h4 B4 => ?_)
    refine WI.pos rfl ?_
    unfold f_L_isNewsSo_c201 f_L_isNewsSo_c206
    exact WI.zr1 ⟨rfl, B4.up (by omega) (by omega)⟩
theorem nw_loop (I : Inv m n w a c hr) {k : Nat} (hk : k < 6) (v : Int32) : ∀ (kf j : Nat) (h : nk_H) (N S : Nat), TB h x y m m' N S → j ≤ n → n - j < kf → WI (WA x y m m' (N + 20 * (n - j) + 20) (S + 120 * (n - j) + 120)) (f_L_isNewsSo_b53 kf h (some x) v (Int32.ofNat n) (sumB (fun j => b2i (unrB m k j)) j) (Int32.ofNat k) 1 (Int32.ofNat j)) := by
  have hn := I.1.2.1
  intro kf
  induction kf with
  | zero => intro j h N S B h1 h2; omega
  | succ kf ih =>
    intro j h N S B h1 h2
    show WI _ (f_L_isNewsSo_c53 (f_L_isNewsSo_b53 kf) h (some x) v (Int32.ofNat n) _ (Int32.ofNat k) 1 (Int32.ofNat j))
    by_cases hj : j < n
    · refine nw_step I hk hj v _ B (fun h1' B1 => ?_)
      obtain ⟨h9, r, e, q1, q2⟩ := ih (j + 1) h1' _ _ B1 (by omega) (by omega)
      exact ⟨h9, r, e, q1, q2.up (by omega) (by omega)⟩
    · have : j = n := by omega
      subst this
      unfold f_L_isNewsSo_c53
      refine WI.pos ((ia_le (by omega) (by omega)).mpr (Nat.le_refl _)) ?_
      obtain ⟨h9, r, e, q1, q2⟩ := nw_end I hk v B
      exact ⟨h9, r, e, q1, q2.up (by omega) (by omega)⟩
theorem news_run (v : Int32) (B : TB h x y m m' N S) : WI (WA x y m m' (N + 4000) (S + 24000)) (f_L_isNewsSo h (some x) v) := by
  obtain ⟨n, w, a, c, hr, I⟩ := B.1.inv
  have hn := I.1.2.1
  have hh := I.1.2.2.2.2.2.2.2.2.2.2
  have e1 : m 1 0 = Int32.ofNat hr := I.1.2.2.2.2.2.2.2.2.2.1
  unfold f_L_isNewsSo
  refine wq_news B I (fun h1 B1 => ?_)
  refine WI.low (k := 6) rfl (by omega) (by omega) (fun k hk _ => ?_)
  refine WI.neg (ia_n0 (by omega)) (WI.neg (fun e => by have := (ia_lt (a := 160) (by omega) (by omega)).mp e; omega) ?_)
  refine wq_hour B1 I (fun h2 B2 => ?_)
  rw [e1]
  refine WI.neg (ia_n0 (by omega)) (wq_hour B2 I (fun h3 B3 => ?_))
  rw [e1]
  refine WI.neg (fun e => by have := (ia_lt (a := 400) (by omega) (by omega)).mp e; omega) ?_
  unfold f_L_isNewsSo_c48
  obtain ⟨h9, r, e, q1, q2⟩ := nw_loop I hk v 4096 0 h3 _ _ B3 (by omega) (by omega)
  exact ⟨h9, r, e, q1, q2.up (by omega) (by omega)⟩
end U4
