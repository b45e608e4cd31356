/-! ===== the calls, one by one (by program: wip/p44/gen/gen_t3.py) ===== -/
section T3
variable {h : nk_H} {x y : Nat} {m m' : Nat → Nat → Int32} {n w a c hr : Nat}
theorem tm_join (T : TW h x y m m') (v u : Int32) : ∃ s2 code val, BX m (fun h1 => f_X12_join h1 (gX + 23) v u) s2 code val ∧ ((code ≠ 0 → nk_u2 s2 0 0 0 = m) ∧ (code = 0 → ¬ val < 0)) ∧ ∃ h1 rr, f_X11_join h x v u = some (h1, rr) ∧ EN hs_W_join code val rr ∧ TW h1 x y (nk_u2 s2 0 0 0) m' ∧ nk_N h1 ≤ nk_N h + 1000 ∧ nk_S h1 ≤ nk_S h + 10000 :=
  op_I (hs := hs_W_join) (by decide) T (f := fun g z => f_X11_join g z v u) (fun R => fun A => n_X11_join R A v u) (fun g wg eg => by
    obtain ⟨n, w, a, c, hr, pa, cp, W⟩ := wg
    rw [eg] at W
    have B := bi_join W v u
    unfold f_W_join at B
    rw [rX W] at B
    exact B)
theorem tm_cut (T : TW h x y m m') (v u : Int32) : ∃ s2 code val, BX m (fun h1 => f_X12_cut h1 (gX + 23) v u) s2 code val ∧ ((code ≠ 0 → nk_u2 s2 0 0 0 = m) ∧ (code = 0 → ¬ val < 0)) ∧ ∃ h1 rr, f_X11_cut h x v u = some (h1, rr) ∧ EN hs_W_cut code val rr ∧ TW h1 x y (nk_u2 s2 0 0 0) m' ∧ nk_N h1 ≤ nk_N h + 1000 ∧ nk_S h1 ≤ nk_S h + 10000 :=
  op_I (hs := hs_W_cut) (by decide) T (f := fun g z => f_X11_cut g z v u) (fun R => fun A => n_X11_cut R A v u) (fun g wg eg => by
    obtain ⟨n, w, a, c, hr, pa, cp, W⟩ := wg
    rw [eg] at W
    have B := bi_cut W v u
    unfold f_W_cut at B
    rw [rX W] at B
    exact B)
theorem tm_pass (T : TW h x y m m') (v : Int32) : ∃ s2 code val, BX m (fun h1 => f_X12_pass h1 (gX + 23) v) s2 code val ∧ ((code ≠ 0 → nk_u2 s2 0 0 0 = m) ∧ (code = 0 → ¬ val < 0)) ∧ ∃ h1 rr, f_X11_pass h x v = some (h1, rr) ∧ EN hs_W_pass code val rr ∧ TW h1 x y (nk_u2 s2 0 0 0) m' ∧ nk_N h1 ≤ nk_N h + 1000 ∧ nk_S h1 ≤ nk_S h + 10000 :=
  op_I (hs := hs_W_pass) (by decide) T (f := fun g z => f_X11_pass g z v) (fun R => fun A => n_X11_pass R A v) (fun g wg eg => by
    obtain ⟨n, w, a, c, hr, pa, cp, W⟩ := wg
    rw [eg] at W
    have B := bi_pass W v
    unfold f_W_pass at B
    rw [rX W] at B
    exact B)
theorem tm_read (T : TW h x y m m') (v : Int32) : ∃ s2 code val, BX m (fun h1 => f_X12_read h1 (gX + 23) v) s2 code val ∧ ((code ≠ 0 → nk_u2 s2 0 0 0 = m) ∧ (code = 0 → ¬ val < 0)) ∧ ∃ h1 rr, f_X11_read h x v = some (h1, rr) ∧ EN hs_W_read code val rr ∧ TW h1 x y (nk_u2 s2 0 0 0) m' ∧ nk_N h1 ≤ nk_N h + 1000 ∧ nk_S h1 ≤ nk_S h + 10000 :=
  op_I (hs := hs_W_read) (by decide) T (f := fun g z => f_X11_read g z v) (fun R => fun A => n_X11_read R A v) (fun g wg eg => by
    obtain ⟨n, w, a, c, hr, pa, cp, W⟩ := wg
    rw [eg] at W
    have B := bi_read W v
    unfold f_W_read at B
    rw [rX W] at B
    exact B)
theorem tm_grant (T : TW h x y m m') (v u p : Int32) : ∃ s2 code val, BX m (fun h1 => f_X12_grant h1 (gX + 23) v u p) s2 code val ∧ ((code ≠ 0 → nk_u2 s2 0 0 0 = m) ∧ (code = 0 → ¬ val < 0)) ∧ ∃ h1 rr, f_X11_grant h x v u p = some (h1, rr) ∧ EN hs_W_grant code val rr ∧ TW h1 x y (nk_u2 s2 0 0 0) m' ∧ nk_N h1 ≤ nk_N h + 1000 ∧ nk_S h1 ≤ nk_S h + 10000 :=
  op_I (hs := hs_W_grant) (by decide) T (f := fun g z => f_X11_grant g z v u p) (fun R => fun A => n_X11_grant R A v u p) (fun g wg eg => by
    obtain ⟨n, w, a, c, hr, pa, cp, W⟩ := wg
    rw [eg] at W
    have B := bi_grant W v u p
    unfold f_W_grant at B
    rw [rX W] at B
    exact B)
theorem tm_passOn (T : TW h x y m m') (v u p : Int32) : ∃ s2 code val, BX m (fun h1 => f_X12_passOn h1 (gX + 23) v u p) s2 code val ∧ ((code ≠ 0 → nk_u2 s2 0 0 0 = m) ∧ (code = 0 → ¬ val < 0)) ∧ ∃ h1 rr, f_X11_passOn h x v u p = some (h1, rr) ∧ EN hs_W_passOn code val rr ∧ TW h1 x y (nk_u2 s2 0 0 0) m' ∧ nk_N h1 ≤ nk_N h + 1000 ∧ nk_S h1 ≤ nk_S h + 10000 :=
  op_I (hs := hs_W_passOn) (by decide) T (f := fun g z => f_X11_passOn g z v u p) (fun R => fun A => n_X11_passOn R A v u p) (fun g wg eg => by
    obtain ⟨n, w, a, c, hr, pa, cp, W⟩ := wg
    rw [eg] at W
    have B := bi_passOn W v u p
    unfold f_W_passOn at B
    rw [rX W] at B
    exact B)
theorem tm_revoke (T : TW h x y m m') (v u p : Int32) : ∃ s2 code val, BX m (fun h1 => f_X12_revoke h1 (gX + 23) v u p) s2 code val ∧ ((code ≠ 0 → nk_u2 s2 0 0 0 = m) ∧ (code = 0 → ¬ val < 0)) ∧ ∃ h1 rr, f_X11_revoke h x v u p = some (h1, rr) ∧ EN hs_W_revoke code val rr ∧ TW h1 x y (nk_u2 s2 0 0 0) m' ∧ nk_N h1 ≤ nk_N h + 1000 ∧ nk_S h1 ≤ nk_S h + 10000 :=
  op_I (hs := hs_W_revoke) (by decide) T (f := fun g z => f_X11_revoke g z v u p) (fun R => fun A => n_X11_revoke R A v u p) (fun g wg eg => by
    obtain ⟨n, w, a, c, hr, pa, cp, W⟩ := wg
    rw [eg] at W
    have B := bi_revoke W v u p
    unfold f_W_revoke at B
    rw [rX W] at B
    exact B)
theorem tm_depute (T : TW h x y m m') (v u p : Int32) : ∃ s2 code val, BX m (fun h1 => f_X12_depute h1 (gX + 23) v u p) s2 code val ∧ ((code ≠ 0 → nk_u2 s2 0 0 0 = m) ∧ (code = 0 → ¬ val < 0)) ∧ ∃ h1 rr, f_X11_depute h x v u p = some (h1, rr) ∧ EN hs_W_depute code val rr ∧ TW h1 x y (nk_u2 s2 0 0 0) m' ∧ nk_N h1 ≤ nk_N h + 1000 ∧ nk_S h1 ≤ nk_S h + 10000 :=
  op_I (hs := hs_W_depute) (by decide) T (f := fun g z => f_X11_depute g z v u p) (fun R => fun A => n_X11_depute R A v u p) (fun g wg eg => by
    obtain ⟨n, w, a, c, hr, pa, cp, W⟩ := wg
    rw [eg] at W
    have B := bi_depute W v u p
    unfold f_W_depute at B
    rw [rX W] at B
    exact B)
theorem tm_act (T : TW h x y m m') (v u p q : Int32) : ∃ s2 code val, BX m (fun h1 => f_X12_act h1 (gX + 23) v u p q) s2 code val ∧ ((code ≠ 0 → nk_u2 s2 0 0 0 = m) ∧ (code = 0 → ¬ val < 0)) ∧ ∃ h1 rr, f_X11_act h x v u p q = some (h1, rr) ∧ EN hs_W_act code val rr ∧ TW h1 x y (nk_u2 s2 0 0 0) m' ∧ nk_N h1 ≤ nk_N h + 1000 ∧ nk_S h1 ≤ nk_S h + 10000 :=
  op_I (hs := hs_W_act) (by decide) T (f := fun g z => f_X11_act g z v u p q) (fun R => fun A => n_X11_act R A v u p q) (fun g wg eg => by
    obtain ⟨n, w, a, c, hr, pa, cp, W⟩ := wg
    rw [eg] at W
    have B := bi_act W v u p q
    unfold f_W_act at B
    rw [rX W] at B
    exact B)
theorem tm_tamper (T : TW h x y m m') (v u p : Int32) : ∃ s2 code val, BX m (fun h1 => f_X12_tamper h1 (gX + 23) v u p) s2 code val ∧ ((code ≠ 0 → nk_u2 s2 0 0 0 = m) ∧ (code = 0 → ¬ val < 0)) ∧ ∃ h1 rr, f_X11_tamper h x v u p = some (h1, rr) ∧ EN hs_W_tamper code val rr ∧ TW h1 x y (nk_u2 s2 0 0 0) m' ∧ nk_N h1 ≤ nk_N h + 1000 ∧ nk_S h1 ≤ nk_S h + 10000 :=
  op_I (hs := hs_W_tamper) (by decide) T (f := fun g z => f_X11_tamper g z v u p) (fun R => fun A => n_X11_tamper R A v u p) (fun g wg eg => by
    obtain ⟨n, w, a, c, hr, pa, cp, W⟩ := wg
    rw [eg] at W
    have B := bi_tamper W v u p
    unfold f_W_tamper at B
    rw [rX W] at B
    exact B)
theorem tm_copy (T : TW h x y m m') (v u p q : Int32) : ∃ s2 code val, BX m (fun h1 => f_X12_copy h1 (gX + 23) v u p q) s2 code val ∧ ((code ≠ 0 → nk_u2 s2 0 0 0 = m) ∧ (code = 0 → ¬ val < 0)) ∧ ∃ h1 rr, f_X11_copy h x v u p q = some (h1, rr) ∧ EN hs_W_copy code val rr ∧ TW h1 x y (nk_u2 s2 0 0 0) m' ∧ nk_N h1 ≤ nk_N h + 1000 ∧ nk_S h1 ≤ nk_S h + 10000 :=
  op_I (hs := hs_W_copy) (by decide) T (f := fun g z => f_X11_copy g z v u p q) (fun R => fun A => n_X11_copy R A v u p q) (fun g wg eg => by
    obtain ⟨n, w, a, c, hr, pa, cp, W⟩ := wg
    rw [eg] at W
    have B := bi_copy W v u p q
    unfold f_W_copy at B
    rw [rX W] at B
    exact B)
theorem tm_forge (T : TW h x y m m') (v u p q : Int32) : ∃ s2 code val, BX m (fun h1 => f_X12_forge h1 (gX + 23) v u p q) s2 code val ∧ ((code ≠ 0 → nk_u2 s2 0 0 0 = m) ∧ (code = 0 → ¬ val < 0)) ∧ ∃ h1 rr, f_X11_forge h x v u p q = some (h1, rr) ∧ EN hs_W_forge code val rr ∧ TW h1 x y (nk_u2 s2 0 0 0) m' ∧ nk_N h1 ≤ nk_N h + 1000 ∧ nk_S h1 ≤ nk_S h + 10000 :=
  op_I (hs := hs_W_forge) (by decide) T (f := fun g z => f_X11_forge g z v u p q) (fun R => fun A => n_X11_forge R A v u p q) (fun g wg eg => by
    obtain ⟨n, w, a, c, hr, pa, cp, W⟩ := wg
    rw [eg] at W
    have B := bi_forge W v u p q
    unfold f_W_forge at B
    rw [rX W] at B
    exact B)
theorem tm_draft (T : TW h x y m m') (v u p q r : Int32) : ∃ s2 code, BX m (fv (fun h1 => f_X12_draft h1 (gX + 23) v u p q r)) s2 code 0 ∧ (code ≠ 0 → nk_u2 s2 0 0 0 = m) ∧ ∃ h1 rr, f_X11_draft h x v u p q r = some (h1, rr) ∧ EN hs_W_draft code () rr ∧ TW h1 x y (nk_u2 s2 0 0 0) m' ∧ nk_N h1 ≤ nk_N h + 1000 ∧ nk_S h1 ≤ nk_S h + 10000 :=
  op_V (hs := hs_W_draft) (by decide) T (f := fun g z => f_X11_draft g z v u p q r) (fun R => fun A => n_X11_draft R A v u p q r) (fun g wg eg => by
    obtain ⟨n, w, a, c, hr, pa, cp, W⟩ := wg
    rw [eg] at W
    have B := bv_draft W v u p q r
    unfold f_W_draft at B
    rw [rX W] at B
    exact B)
theorem tm_prepare (T : TW h x y m m') (v u : Int32) : ∃ s2 code, BX m (fv (fun h1 => f_X12_prepare h1 (gX + 23) v u)) s2 code 0 ∧ (code ≠ 0 → nk_u2 s2 0 0 0 = m) ∧ ∃ h1 rr, f_X11_prepare h x v u = some (h1, rr) ∧ EN hs_W_prepare code () rr ∧ TW h1 x y (nk_u2 s2 0 0 0) m' ∧ nk_N h1 ≤ nk_N h + 1000 ∧ nk_S h1 ≤ nk_S h + 10000 :=
  op_V (hs := hs_W_prepare) (by decide) T (f := fun g z => f_X11_prepare g z v u) (fun R => fun A => n_X11_prepare R A v u) (fun g wg eg => by
    obtain ⟨n, w, a, c, hr, pa, cp, W⟩ := wg
    rw [eg] at W
    have B := bv_prepare W v u
    unfold f_W_prepare at B
    rw [rX W] at B
    exact B)
theorem tq_records (T : TW h x y m m') (I : Inv m n w a c hr) (v : Int32) : ∃ h1 rr, f_X11_records h x v = some (h1, rr) ∧ EN hs_W_records (if rg v 6 = true then 0 else 1) (m 30 v.toNatClampNeg) rr ∧ TW h1 x y m m' ∧ nk_N h1 ≤ nk_N h + 5 ∧ nk_S h1 ≤ nk_S h + 30 := by
  obtain ⟨h1, rr, e9, q9, T1, -, -⟩ := op_Q (hs := hs_W_records) (by decide) T (f := fun g z => f_X11_records g z v) I (fun R => fun A => n_X11_records R A v) (fun g pa cp W => by
    have B := cl_records W v
    unfold f_W_records at B
    rw [rX W] at B
    exact B)
  obtain ⟨b1, b2⟩ := b_X11_records h x v h1 rr e9
  exact ⟨h1, rr, e9, q9, T1, by omega, by omega⟩
theorem tq_came (T : TW h x y m m') (I : Inv m n w a c hr) (v u : Int32) : ∃ h1 rr, f_X11_came h x v u = some (h1, rr) ∧ EN hs_W_came (if (rg v 6 && rg u n) = true then 0 else 1) (m 10 (160 * v.toNatClampNeg + u.toNatClampNeg)) rr ∧ TW h1 x y m m' ∧ nk_N h1 ≤ nk_N h + 5 ∧ nk_S h1 ≤ nk_S h + 30 := by
  obtain ⟨h1, rr, e9, q9, T1, -, -⟩ := op_Q (hs := hs_W_came) (by decide) T (f := fun g z => f_X11_came g z v u) I (fun R => fun A => n_X11_came R A v u) (fun g pa cp W => by
    have B := cl_came W v u
    unfold f_W_came at B
    rw [rX W] at B
    exact B)
  obtain ⟨b1, b2⟩ := b_X11_came h x v u h1 rr e9
  exact ⟨h1, rr, e9, q9, T1, by omega, by omega⟩
theorem tq_cameByLinks (T : TW h x y m m') (I : Inv m n w a c hr) (v u : Int32) : ∃ h1 rr, f_X11_cameByLinks h x v u = some (h1, rr) ∧ EN hs_W_cameByLinks (if (rg v 6 && rg u n) = true then 0 else 1) (m 10 (160 * v.toNatClampNeg + u.toNatClampNeg)) rr ∧ TW h1 x y m m' ∧ nk_N h1 ≤ nk_N h + 5 ∧ nk_S h1 ≤ nk_S h + 30 := by
  obtain ⟨h1, rr, e9, q9, T1, -, -⟩ := op_Q (hs := hs_W_cameByLinks) (by decide) T (f := fun g z => f_X11_cameByLinks g z v u) I (fun R => fun A => n_X11_cameByLinks R A v u) (fun g pa cp W => by
    have B := cl_cameByLinks W v u
    unfold f_W_cameByLinks at B
    rw [rX W] at B
    exact B)
  obtain ⟨b1, b2⟩ := b_X11_cameByLinks h x v u h1 rr e9
  exact ⟨h1, rr, e9, q9, T1, by omega, by omega⟩
theorem tq_mail (T : TW h x y m m') (I : Inv m n w a c hr) (v : Int32) : ∃ h1 rr, f_X11_mail h x v = some (h1, rr) ∧ EN hs_W_mail (if rg v 6 = true then 0 else 1) (unrS m n v.toNatClampNeg) rr ∧ TW h1 x y m m' ∧ nk_N h1 ≤ nk_N h + 5 ∧ nk_S h1 ≤ nk_S h + 30 := by
  obtain ⟨h1, rr, e9, q9, T1, -, -⟩ := op_Q (hs := hs_W_mail) (by decide) T (f := fun g z => f_X11_mail g z v) I (fun R => fun A => n_X11_mail R A v) (fun g pa cp W => by
    have B := cl_mail W v
    unfold f_W_mail at B
    rw [rX W] at B
    exact B)
  obtain ⟨b1, b2⟩ := b_X11_mail h x v h1 rr e9
  exact ⟨h1, rr, e9, q9, T1, by omega, by omega⟩
theorem tq_source (T : TW h x y m m') (I : Inv m n w a c hr) (v : Int32) : ∃ h1 rr, f_X11_source h x v = some (h1, rr) ∧ EN hs_W_source (if rg v w = true then 0 else 1) (m 16 v.toNatClampNeg) rr ∧ TW h1 x y m m' ∧ nk_N h1 ≤ nk_N h + 5 ∧ nk_S h1 ≤ nk_S h + 30 := by
  obtain ⟨h1, rr, e9, q9, T1, -, -⟩ := op_Q (hs := hs_W_source) (by decide) T (f := fun g z => f_X11_source g z v) I (fun R => fun A => n_X11_source R A v) (fun g pa cp W => by
    have B := cl_source W v
    unfold f_W_source at B
    rw [rX W] at B
    exact B)
  obtain ⟨b1, b2⟩ := b_X11_source h x v h1 rr e9
  exact ⟨h1, rr, e9, q9, T1, by omega, by omega⟩
theorem tq_holder (T : TW h x y m m') (I : Inv m n w a c hr) (v : Int32) : ∃ h1 rr, f_X11_holder h x v = some (h1, rr) ∧ EN hs_W_holder (if rg v w = true then 0 else 1) (m 15 v.toNatClampNeg) rr ∧ TW h1 x y m m' ∧ nk_N h1 ≤ nk_N h + 5 ∧ nk_S h1 ≤ nk_S h + 30 := by
  obtain ⟨h1, rr, e9, q9, T1, -, -⟩ := op_Q (hs := hs_W_holder) (by decide) T (f := fun g z => f_X11_holder g z v) I (fun R => fun A => n_X11_holder R A v) (fun g pa cp W => by
    have B := cl_holder W v
    unfold f_W_holder at B
    rw [rX W] at B
    exact B)
  obtain ⟨b1, b2⟩ := b_X11_holder h x v h1 rr e9
  exact ⟨h1, rr, e9, q9, T1, by omega, by omega⟩
theorem tq_done (T : TW h x y m m') (I : Inv m n w a c hr) (v u : Int32) : ∃ h1 rr, f_X11_done h x v u = some (h1, rr) ∧ EN hs_W_done (if (rg v 6 && rg u w) = true then 0 else 1) (doneS m n w v u.toNatClampNeg) rr ∧ TW h1 x y m m' ∧ nk_N h1 ≤ nk_N h + 5 ∧ nk_S h1 ≤ nk_S h + 30 := by
  obtain ⟨h1, rr, e9, q9, T1, -, -⟩ := op_Q (hs := hs_W_done) (by decide) T (f := fun g z => f_X11_done g z v u) I (fun R => fun A => n_X11_done R A v u) (fun g pa cp W => by
    have B := cl_done W v u
    unfold f_W_done at B
    rw [rX W] at B
    exact B)
  obtain ⟨b1, b2⟩ := b_X11_done h x v u h1 rr e9
  exact ⟨h1, rr, e9, q9, T1, by omega, by omega⟩
theorem tq_against (T : TW h x y m m') (I : Inv m n w a c hr) (v p u amt : Int32) : ∃ h1 rr, f_X11_against h x v p u amt = some (h1, rr) ∧ EN hs_W_against (if (rg v 6 && rg p 10 && rg u w) = true then (if wi amt 1 10000 = true then 0 else 2) else 1) (reasonS m n w v v (m 1 0) p u.toNatClampNeg (m 28 0) amt (m 27 0)) rr ∧ TW h1 x y m m' ∧ nk_N h1 ≤ nk_N h + 5 ∧ nk_S h1 ≤ nk_S h + 30 := by
  obtain ⟨h1, rr, e9, q9, T1, -, -⟩ := op_Q (hs := hs_W_against) (by decide) T (f := fun g z => f_X11_against g z v p u amt) I (fun R => fun A => n_X11_against R A v p u amt) (fun g pa cp W => by
    have B := cl_against W v p u amt
    unfold f_W_against at B
    rw [rX W] at B
    exact B)
  obtain ⟨b1, b2⟩ := b_X11_against h x v p u amt h1 rr e9
  exact ⟨h1, rr, e9, q9, T1, by omega, by omega⟩
theorem tq_choices (T : TW h x y m m') (I : Inv m n w a c hr) (v p amt : Int32) : ∃ h1 rr, f_X11_choices h x v p amt = some (h1, rr) ∧ EN hs_W_choices (if (rg v 6 && rg p 10) = true then (if wi amt 1 10000 = true then 0 else 2) else 1) (chcS m n w v p amt) rr ∧ TW h1 x y m m' ∧ nk_N h1 ≤ nk_N h + 5 ∧ nk_S h1 ≤ nk_S h + 30 := by
  obtain ⟨h1, rr, e9, q9, T1, -, -⟩ := op_Q (hs := hs_W_choices) (by decide) T (f := fun g z => f_X11_choices g z v p amt) I (fun R => fun A => n_X11_choices R A v p amt) (fun g pa cp W => by
    have B := cl_choices W v p amt
    unfold f_W_choices at B
    rw [rX W] at B
    exact B)
  obtain ⟨b1, b2⟩ := b_X11_choices h x v p amt h1 rr e9
  exact ⟨h1, rr, e9, q9, T1, by omega, by omega⟩
theorem tq_fault (T : TW h x y m m') (I : Inv m n w a c hr) (v r : Int32) : ∃ h1 rr, f_X11_fault h x v r = some (h1, rr) ∧ EN hs_W_fault (if recB m v r = true then 0 else 1) (faultS m n w (acS m v r)) rr ∧ TW h1 x y m m' ∧ nk_N h1 ≤ nk_N h + 5 ∧ nk_S h1 ≤ nk_S h + 30 := by
  obtain ⟨h1, rr, e9, q9, T1, -, -⟩ := op_Q (hs := hs_W_fault) (by decide) T (f := fun g z => f_X11_fault g z v r) I (fun R => fun A => n_X11_fault R A v r) (fun g pa cp W => by
    have B := cl_fault W v r
    unfold f_W_fault at B
    rw [rX W] at B
    exact B)
  obtain ⟨b1, b2⟩ := b_X11_fault h x v r h1 rr e9
  exact ⟨h1, rr, e9, q9, T1, by omega, by omega⟩
theorem tq_pieceOf (T : TW h x y m m') (I : Inv m n w a c hr) (v r : Int32) : ∃ h1 rr, f_X11_pieceOf h x v r = some (h1, rr) ∧ EN hs_W_pieceOf (if recB m v r = true then 0 else 1) (m 32 (acS m v r)) rr ∧ TW h1 x y m m' ∧ nk_N h1 ≤ nk_N h + 5 ∧ nk_S h1 ≤ nk_S h + 30 := by
  obtain ⟨h1, rr, e9, q9, T1, -, -⟩ := op_Q (hs := hs_W_pieceOf) (by decide) T (f := fun g z => f_X11_pieceOf g z v r) I (fun R => fun A => n_X11_pieceOf R A v r) (fun g pa cp W => by
    have B := cl_pieceOf W v r
    unfold f_W_pieceOf at B
    rw [rX W] at B
    exact B)
  obtain ⟨b1, b2⟩ := b_X11_pieceOf h x v r h1 rr e9
  exact ⟨h1, rr, e9, q9, T1, by omega, by omega⟩
theorem tq_part (T : TW h x y m m') (I : Inv m n w a c hr) (v r p : Int32) : ∃ h1 rr, f_X11_part h x v r p = some (h1, rr) ∧ EN hs_W_part (if (recB m v r && rg p 6) = true then 0 else 1) (m 33 (6 * acS m v r + p.toNatClampNeg)) rr ∧ TW h1 x y m m' ∧ nk_N h1 ≤ nk_N h + 5 ∧ nk_S h1 ≤ nk_S h + 30 := by
  obtain ⟨h1, rr, e9, q9, T1, -, -⟩ := op_Q (hs := hs_W_part) (by decide) T (f := fun g z => f_X11_part g z v r p) I (fun R => fun A => n_X11_part R A v r p) (fun g pa cp W => by
    have B := cl_part W v r p
    unfold f_W_part at B
    rw [rX W] at B
    exact B)
  obtain ⟨b1, b2⟩ := b_X11_part h x v r p h1 rr e9
  exact ⟨h1, rr, e9, q9, T1, by omega, by omega⟩
theorem tq_seal (T : TW h x y m m') (I : Inv m n w a c hr) (v r : Int32) : ∃ h1 rr, f_X11_seal h x v r = some (h1, rr) ∧ EN hs_W_seal (if recB m v r = true then 0 else 1) (m 35 (acS m v r)) rr ∧ TW h1 x y m m' ∧ nk_N h1 ≤ nk_N h + 5 ∧ nk_S h1 ≤ nk_S h + 30 := by
  obtain ⟨h1, rr, e9, q9, T1, -, -⟩ := op_Q (hs := hs_W_seal) (by decide) T (f := fun g z => f_X11_seal g z v r) I (fun R => fun A => n_X11_seal R A v r) (fun g pa cp W => by
    have B := cl_seal W v r
    unfold f_W_seal at B
    rw [rX W] at B
    exact B)
  obtain ⟨b1, b2⟩ := b_X11_seal h x v r h1 rr e9
  exact ⟨h1, rr, e9, q9, T1, by omega, by omega⟩
theorem tq_broken (T : TW h x y m m') (I : Inv m n w a c hr) (v : Int32) : ∃ h1 rr, f_X11_broken h x v = some (h1, rr) ∧ EN hs_W_broken (if rg v 6 = true then 0 else 1) (brkS m v.toNatClampNeg) rr ∧ TW h1 x y m m' ∧ nk_N h1 ≤ nk_N h + 5 ∧ nk_S h1 ≤ nk_S h + 30 := by
  obtain ⟨h1, rr, e9, q9, T1, -, -⟩ := op_Q (hs := hs_W_broken) (by decide) T (f := fun g z => f_X11_broken g z v) I (fun R => fun A => n_X11_broken R A v) (fun g pa cp W => by
    have B := cl_broken W v
    unfold f_W_broken at B
    rw [rX W] at B
    exact B)
  obtain ⟨b1, b2⟩ := b_X11_broken h x v h1 rr e9
  exact ⟨h1, rr, e9, q9, T1, by omega, by omega⟩
theorem tq_size (T : TW h x y m m') (I : Inv m n w a c hr) (v : Int32) : ∃ h1 rr, f_X11_size h x v = some (h1, rr) ∧ EN hs_W_size (if rg v c = true then 0 else 1) (m 40 v.toNatClampNeg) rr ∧ TW h1 x y m m' ∧ nk_N h1 ≤ nk_N h + 5 ∧ nk_S h1 ≤ nk_S h + 30 := by
  obtain ⟨h1, rr, e9, q9, T1, -, -⟩ := op_Q (hs := hs_W_size) (by decide) T (f := fun g z => f_X11_size g z v) I (fun R => fun A => n_X11_size R A v) (fun g pa cp W => by
    have B := cl_size W v
    unfold f_W_size at B
    rw [rX W] at B
    exact B)
  obtain ⟨b1, b2⟩ := b_X11_size h x v h1 rr e9
  exact ⟨h1, rr, e9, q9, T1, by omega, by omega⟩
theorem tq_copied (T : TW h x y m m') (I : Inv m n w a c hr) (v r p : Int32) : ∃ h1 rr, f_X11_copied h x v r p = some (h1, rr) ∧ EN hs_W_copied (if (plB m c v r && rg p 6) = true then 0 else 1) (cpdS m v.toNatClampNeg r.toNatClampNeg p.toNatClampNeg) rr ∧ TW h1 x y m m' ∧ nk_N h1 ≤ nk_N h + 5 ∧ nk_S h1 ≤ nk_S h + 30 := by
  obtain ⟨h1, rr, e9, q9, T1, -, -⟩ := op_Q (hs := hs_W_copied) (by decide) T (f := fun g z => f_X11_copied g z v r p) I (fun R => fun A => n_X11_copied R A v r p) (fun g pa cp W => by
    have B := cl_copied W v r p
    unfold f_W_copied at B
    rw [rX W] at B
    exact B)
  obtain ⟨b1, b2⟩ := b_X11_copied h x v r p h1 rr e9
  exact ⟨h1, rr, e9, q9, T1, by omega, by omega⟩
theorem tq_brokenCopy (T : TW h x y m m') (I : Inv m n w a c hr) (v : Int32) : ∃ h1 rr, f_X11_brokenCopy h x v = some (h1, rr) ∧ EN hs_W_brokenCopy (if rg v c = true then 0 else 1) (kbrS m v.toNatClampNeg) rr ∧ TW h1 x y m m' ∧ nk_N h1 ≤ nk_N h + 5 ∧ nk_S h1 ≤ nk_S h + 30 := by
  obtain ⟨h1, rr, e9, q9, T1, -, -⟩ := op_Q (hs := hs_W_brokenCopy) (by decide) T (f := fun g z => f_X11_brokenCopy g z v) I (fun R => fun A => n_X11_brokenCopy R A v) (fun g pa cp W => by
    have B := cl_brokenCopy W v
    unfold f_W_brokenCopy at B
    rw [rX W] at B
    exact B)
  obtain ⟨b1, b2⟩ := b_X11_brokenCopy h x v h1 rr e9
  exact ⟨h1, rr, e9, q9, T1, by omega, by omega⟩
theorem pz_areJoined {v u : Int32} : ∀ (g g1 : nk_H) (z : Int32 ⊕ String), f_X11_areJoined g gX v u = some (g1, z) → P01 z := fun g => by
  unfold f_X11_areJoined
  exact pz_dt fun _ _ => pz_dt fun _ _ => pz_bind fun _ => pz_bind fun _ => pz_do fun _ _ => pz_zr
theorem tq_areJoined (T : TW h x y m m') (I : Inv m n w a c hr) (v u : Int32) : ∃ h1 rr, f_X11_areJoined h x v u = some (h1, rr) ∧ EN hs_W_areJoined (if (rg v 6 && rg u 6) = true then 0 else 1) (b2i (gb (m 2 v.toNatClampNeg) u.toNatClampNeg)) rr ∧ TW h1 x y m m' ∧ nk_N h1 ≤ nk_N h + 5 ∧ nk_S h1 ≤ nk_S h + 30 := by
  obtain ⟨h1, rr, e9, q9, T1, -, -⟩ := op_QZ (hs := hs_W_areJoined) (by decide) T (f := fun g z => f_X11_areJoined g z v u) I (fun R => fun A => n_X11_areJoined R A v u) (fun g g1 z e9 => pz_areJoined g g1 z e9) (fun g pa cp W => by
    have B := cl_areJoined W v u
    unfold f_W_areJoined at B
    rw [rX W] at B
    exact B)
  obtain ⟨b1, b2⟩ := b_X11_areJoined h x v u h1 rr e9
  exact ⟨h1, rr, e9, q9, T1, by omega, by omega⟩
theorem pz_isRead {v u : Int32} : ∀ (g g1 : nk_H) (z : Int32 ⊕ String), f_X11_isRead g gX v u = some (g1, z) → P01 z := fun g => by
  unfold f_X11_isRead
  exact pz_dt fun _ _ => pz_bind fun _ => pz_dt fun _ _ => pz_bind fun _ => pz_bind fun _ => pz_do fun _ _ => pz_bind fun _ => pz_do fun _ _ => pz_zr
theorem tq_isRead (T : TW h x y m m') (I : Inv m n w a c hr) (v u : Int32) : ∃ h1 rr, f_X11_isRead h x v u = some (h1, rr) ∧ EN hs_W_isRead (if (rg v 6 && rg u n) = true then 0 else 1) (b2i (decide (m 11 (160 * v.toNatClampNeg + u.toNatClampNeg) = 1))) rr ∧ TW h1 x y m m' ∧ nk_N h1 ≤ nk_N h + 5 ∧ nk_S h1 ≤ nk_S h + 30 := by
  obtain ⟨h1, rr, e9, q9, T1, -, -⟩ := op_QZ (hs := hs_W_isRead) (by decide) T (f := fun g z => f_X11_isRead g z v u) I (fun R => fun A => n_X11_isRead R A v u) (fun g g1 z e9 => pz_isRead g g1 z e9) (fun g pa cp W => by
    have B := cl_isRead W v u
    unfold f_W_isRead at B
    rw [rX W] at B
    exact B)
  obtain ⟨b1, b2⟩ := b_X11_isRead h x v u h1 rr e9
  exact ⟨h1, rr, e9, q9, T1, by omega, by omega⟩
theorem pz_isGood {v u : Int32} : ∀ (g g1 : nk_H) (z : Int32 ⊕ String), f_X11_isGood g gX v u = some (g1, z) → P01 z := fun g => by
  unfold f_X11_isGood
  exact pz_dt fun _ _ => pz_bind fun _ => pz_dt fun _ _ => pz_bind fun _ => pz_bind fun _ => pz_do fun _ _ => pz_bind fun _ => pz_bind fun _ => pz_do fun _ _ => pz_zr
theorem tq_isGood (T : TW h x y m m') (I : Inv m n w a c hr) (v u : Int32) : ∃ h1 rr, f_X11_isGood h x v u = some (h1, rr) ∧ EN hs_W_isGood (if (rg v 6 && rg u w) = true then 0 else 1) (b2i (goodB m n w v u.toNatClampNeg)) rr ∧ TW h1 x y m m' ∧ nk_N h1 ≤ nk_N h + 5 ∧ nk_S h1 ≤ nk_S h + 30 := by
  obtain ⟨h1, rr, e9, q9, T1, -, -⟩ := op_QZ (hs := hs_W_isGood) (by decide) T (f := fun g z => f_X11_isGood g z v u) I (fun R => fun A => n_X11_isGood R A v u) (fun g g1 z e9 => pz_isGood g g1 z e9) (fun g pa cp W => by
    have B := cl_isGood W v u
    unfold f_W_isGood at B
    rw [rX W] at B
    exact B)
  obtain ⟨b1, b2⟩ := b_X11_isGood h x v u h1 rr e9
  exact ⟨h1, rr, e9, q9, T1, by omega, by omega⟩
theorem pz_stands {v r : Int32} : ∀ (g g1 : nk_H) (z : Int32 ⊕ String), f_X11_stands g gX v r = some (g1, z) → P01 z := fun g => by
  unfold f_X11_stands
  exact pz_bind fun _ => pz_dt fun _ _ => pz_bind fun _ => pz_bind fun _ => pz_bind fun _ => pz_do fun _ _ => pz_bind fun _ => pz_zr
theorem tq_stands (T : TW h x y m m') (I : Inv m n w a c hr) (v r : Int32) : ∃ h1 rr, f_X11_stands h x v r = some (h1, rr) ∧ EN hs_W_stands (if recB m v r = true then 0 else 1) (b2i (decide (m 36 (acS m v r) = 1))) rr ∧ TW h1 x y m m' ∧ nk_N h1 ≤ nk_N h + 5 ∧ nk_S h1 ≤ nk_S h + 30 := by
  obtain ⟨h1, rr, e9, q9, T1, -, -⟩ := op_QZ (hs := hs_W_stands) (by decide) T (f := fun g z => f_X11_stands g z v r) I (fun R => fun A => n_X11_stands R A v r) (fun g g1 z e9 => pz_stands g g1 z e9) (fun g pa cp W => by
    have B := cl_stands W v r
    unfold f_W_stands at B
    rw [rX W] at B
    exact B)
  obtain ⟨b1, b2⟩ := b_X11_stands h x v r h1 rr e9
  exact ⟨h1, rr, e9, q9, T1, by omega, by omega⟩
theorem pz_isTrue {v : Int32} : ∀ (g g1 : nk_H) (z : Int32 ⊕ String), f_X11_isTrue g gX v = some (g1, z) → P01 z := fun g => by
  unfold f_X11_isTrue
  exact pz_bind fun _ => pz_dt fun _ _ => pz_bind fun _ => pz_bind fun _ => pz_do fun _ _ => pz_bind fun _ => pz_bind fun _ => pz_bind fun _ => pz_bind fun _ => pz_bind fun _ => pz_do fun _ _ => pz_zr
theorem tq_isTrue (T : TW h x y m m') (I : Inv m n w a c hr) (v : Int32) : ∃ h1 rr, f_X11_isTrue h x v = some (h1, rr) ∧ EN hs_W_isTrue (if rg v c = true then 0 else 1) (b2i (ktrB m v.toNatClampNeg)) rr ∧ TW h1 x y m m' ∧ nk_N h1 ≤ nk_N h + 5 ∧ nk_S h1 ≤ nk_S h + 30 := by
  obtain ⟨h1, rr, e9, q9, T1, -, -⟩ := op_QZ (hs := hs_W_isTrue) (by decide) T (f := fun g z => f_X11_isTrue g z v) I (fun R => fun A => n_X11_isTrue R A v) (fun g g1 z e9 => pz_isTrue g g1 z e9) (fun g pa cp W => by
    have B := cl_isTrue W v
    unfold f_W_isTrue at B
    rw [rX W] at B
    exact B)
  obtain ⟨b1, b2⟩ := b_X11_isTrue h x v h1 rr e9
  exact ⟨h1, rr, e9, q9, T1, by omega, by omega⟩
theorem tq_hour (T : TW h x y m m') (I : Inv m n w a c hr) : ∃ h1, f_X11_hour h x = some (h1, (m 1 0)) ∧ TW h1 x y m m' ∧ nk_N h1 ≤ nk_N h + 5 ∧ nk_S h1 ≤ nk_S h + 30 := by
  obtain ⟨h1, e, T1, b1, b2⟩ := op_P T (f := fun g z => f_X11_hour g z) I (fun R => fun A => n_X11_hour R A) (fun g pa cp W => cl_hour W)
  exact ⟨h1, e, T1, by omega, by omega⟩
theorem tq_news (T : TW h x y m m') (I : Inv m n w a c hr) : ∃ h1, f_X11_news h x = some (h1, (Int32.ofNat n)) ∧ TW h1 x y m m' ∧ nk_N h1 ≤ nk_N h + 5 ∧ nk_S h1 ≤ nk_S h + 30 := by
  obtain ⟨h1, e, T1, b1, b2⟩ := op_P T (f := fun g z => f_X11_news g z) I (fun R => fun A => n_X11_news R A) (fun g pa cp W => cl_news W)
  exact ⟨h1, e, T1, by omega, by omega⟩
theorem tq_powers (T : TW h x y m m') (I : Inv m n w a c hr) : ∃ h1, f_X11_powers h x = some (h1, (Int32.ofNat w)) ∧ TW h1 x y m m' ∧ nk_N h1 ≤ nk_N h + 5 ∧ nk_S h1 ≤ nk_S h + 30 := by
  obtain ⟨h1, e, T1, b1, b2⟩ := op_P T (f := fun g z => f_X11_powers g z) I (fun R => fun A => n_X11_powers R A) (fun g pa cp W => cl_powers W)
  exact ⟨h1, e, T1, by omega, by omega⟩
theorem tq_standing (T : TW h x y m m') (I : Inv m n w a c hr) : ∃ h1, f_X11_standing h x = some (h1, (sumB (fun e => m 36 e) a)) ∧ TW h1 x y m m' ∧ nk_N h1 ≤ nk_N h + 5 ∧ nk_S h1 ≤ nk_S h + 30 := by
  obtain ⟨h1, e, T1, b1, b2⟩ := op_P T (f := fun g z => f_X11_standing g z) I (fun R => fun A => n_X11_standing R A) (fun g pa cp W => cl_standing W)
  exact ⟨h1, e, T1, by omega, by omega⟩
end T3
