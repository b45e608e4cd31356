/-! ===== the law's loop ===== -/
section U9
variable {h : nk_H} {x y N S k : Nat} {m : Nat → Nat → Int32} {Q : nk_H → Int32 → Prop} {G : nk_G} {u : Int32} {r21 : nk_H → Option Nat → Option Nat → Int32 → Int32 → Option (nk_H × Int32)}
theorem cell_run (hL : nk_gL G ≤ 260) (h : nk_H) {i : Nat} (hi : i < 61) : ∃ v, f_L_cell G h (Int32.ofNat i) = some (h, v) := by
  unfold f_L_cell f_L_cell_c27
  by_cases z : nk_gL G ≤ i
  · exact ⟨_, if_pos ((ia_le (by omega) (by omega)).mpr z)⟩
  · rw [if_neg (fun e => z ((ia_le (by omega) (by omega)).mp e))]
    unfold nk_sx
    rw [if_pos ⟨ia_n0 (by omega), by rw [ia_nn (by omega)]; omega⟩]
    exact ⟨_, rfl⟩
theorem md_eq {k d r : Nat} (hk : k < 2147483648) (hd : 0 < d) (hd2 : d < 2147483648) (hr : r < 2147483648) : (Int32.ofNat k - Int32.ofNat k / Int32.ofNat d * Int32.ofNat d = Int32.ofNat r) ↔ k % d = r := by
  have := Nat.mod_lt k hd
  rw [ia_mod hk hd2, ia_eq (by omega) hr]
theorem wi_1 {j : Nat} (hj : j < 10000) : wi (1 + Int32.ofNat j) 1 10000 = true := by
  have e : (1 : Int32) + Int32.ofNat j = Int32.ofNat (1 + j) := by rw [show (1 : Int32) = Int32.ofNat 1 from rfl, ia_add]
  rw [e]
  unfold wi
  rw [decide_eq_true (show (1 : Int32) ≤ Int32.ofNat (1 + j) from (ia_le (a := 1) (by omega) (by omega)).mpr (by omega)), decide_eq_true (show Int32.ofNat (1 + j) ≤ (10000 : Int32) from (ia_le (b := 10000) (by omega) (by omega)).mpr (by omega))]; rfl
def tc (d r k v : Nat) : Nat := if k % d = r then v else 0
theorem l239 (hk : k < 100) (B : TB h x y m m N S) (kk : ∀ h1 m1, TB h1 x y m1 m1 (N + tc 23 15 k 11800) (S + tc 23 15 k 80000) → WI Q (r21 h1 (some x) (some y) 1 (Int32.ofNat (k + 1)))) : WI Q (f_L_law_c239 G r21 h (some x) (some y) 1 (Int32.ofNat k) u) := by
  unfold f_L_law_c239
  unfold tc at kk
  by_cases z : k % 23 = 15
  · rw [if_pos z, if_pos z] at kk
    refine WI.pos ((md_eq (d := 23) (r := 15) (by omega) (by omega) (by omega) (by omega)).mpr z) (WI.neg (by decide) ?_)
    refine WI.low (k := 4) rfl (by omega) (by omega) (fun j1 h1 _ => ?_)
    refine WI.low (k := 64) rfl (by omega) (by omega) (fun j2 h2 _ => ?_)
    refine WI.call (copy_run B (show j1 < 6 by omega) h2) (fun h9 r hr => ?_)
    obtain ⟨rfl, m1, B1⟩ := hr
    refine WI.neg (by decide) ?_
    unfold f_L_law_c285 f_L_law_c286
    rw [ia_1]
    exact kk h9 m1 B1
  · rw [if_neg z, if_neg z] at kk
    refine WI.neg (fun e => z ((md_eq (d := 23) (r := 15) (by omega) (by omega) (by omega) (by omega)).mp e)) ?_
    unfold f_L_law_c286
    rw [ia_1]
    exact kk h m B
theorem l180 (hk : k < 100) (B : TB h x y m m N S) (kk : ∀ h1 m1, TB h1 x y m1 m1 (N + tc 9 7 k 5000 + tc 23 15 k 11800) (S + tc 9 7 k 50000 + tc 23 15 k 80000) → WI Q (r21 h1 (some x) (some y) 1 (Int32.ofNat (k + 1)))) : WI Q (f_L_law_c180 G r21 h (some x) (some y) 1 (Int32.ofNat k) u) := by
  unfold f_L_law_c180
  have e1 : tc 9 7 k 5000 = if k % 9 = 7 then 5000 else 0 := rfl
  have e2 : tc 9 7 k 50000 = if k % 9 = 7 then 50000 else 0 := rfl
  rw [e1, e2] at kk
  by_cases z : k % 9 = 7
  · rw [if_pos z, if_pos z] at kk
    refine WI.pos ((md_eq (d := 9) (r := 7) (by omega) (by omega) (by omega) (by omega)).mpr z) (WI.neg (by decide) ?_)
    refine WI.low (k := 4) rfl (by omega) (by omega) (fun j1 h1 _ => ?_)
    refine WI.low (k := 3) rfl (by omega) (by omega) (fun j2 h2 _ => ?_)
    refine WI.low (k := 10000) rfl (by omega) (by omega) (fun j3 h3 _ => ?_)
    refine WI.call (tampered_run B (show j1 < 6 by omega) (wi_1 h3) (show j2 < 160 by omega)) (fun h9 r hr => ?_)
    obtain ⟨rfl, B1⟩ := hr
    refine WI.neg (by decide) ?_
    unfold f_L_law_c238
    exact l239 hk B1 kk
  · rw [if_neg z, if_neg z] at kk
    refine WI.neg (fun e => z ((md_eq (d := 9) (r := 7) (by omega) (by omega) (by omega) (by omega)).mp e)) ?_
    exact l239 hk B kk
theorem l121 (hk : k < 100) (B : TB h x y m m N S) (kk : ∀ h1 m1, TB h1 x y m1 m1 (N + tc 5 2 k 2400 + tc 9 7 k 5000 + tc 23 15 k 11800) (S + tc 5 2 k 24000 + tc 9 7 k 50000 + tc 23 15 k 80000) → WI Q (r21 h1 (some x) (some y) 1 (Int32.ofNat (k + 1)))) : WI Q (f_L_law_c116 G r21 h (some x) (some y) (Int32.ofNat k) u) := by
  unfold f_L_law_c116 f_L_law_c121
  have e1 : tc 5 2 k 2400 = if k % 5 = 2 then 2400 else 0 := rfl
  have e2 : tc 5 2 k 24000 = if k % 5 = 2 then 24000 else 0 := rfl
  rw [e1, e2] at kk
  by_cases z : k % 5 = 2
  · rw [if_pos z, if_pos z] at kk
    refine WI.pos ((md_eq (d := 5) (r := 2) (by omega) (by omega) (by omega) (by omega)).mpr z) (WI.neg (by decide) ?_)
    refine WI.low (k := 4) rfl (by omega) (by omega) (fun j1 h1 _ => ?_)
    refine WI.low (k := 40) rfl (by omega) (by omega) (fun j2 h2 _ => ?_)
    refine WI.low (k := 2000) rfl (by omega) (by omega) (fun j3 h3 _ => ?_)
    refine WI.call (isAct_run B (show j1 < 6 by omega) h2 (wi_1 (show j3 < 10000 by omega))) (fun h9 r hr => ?_)
    obtain ⟨rfl, m1, B1⟩ := hr
    refine WI.neg (by decide) ?_
    unfold f_L_law_c179
    exact l180 hk B1 kk
  · rw [if_neg z, if_neg z] at kk
    refine WI.neg (fun e => z ((md_eq (d := 5) (r := 2) (by omega) (by omega) (by omega) (by omega)).mp e)) ?_
    exact l180 hk B kk
theorem l96 (hk : k < 100) (B : TB h x y m m N S) (kk : ∀ h1 m1, TB h1 x y m1 m1 (N + tc 4 1 k 4000 + tc 5 2 k 2400 + tc 9 7 k 5000 + tc 23 15 k 11800) (S + tc 4 1 k 24000 + tc 5 2 k 24000 + tc 9 7 k 50000 + tc 23 15 k 80000) → WI Q (r21 h1 (some x) (some y) 1 (Int32.ofNat (k + 1)))) : WI Q (f_L_law_c96 G r21 h (some x) (some y) (Int32.ofNat k) u) := by
  unfold f_L_law_c96
  have e1 : tc 4 1 k 4000 = if k % 4 = 1 then 4000 else 0 := rfl
  have e2 : tc 4 1 k 24000 = if k % 4 = 1 then 24000 else 0 := rfl
  rw [e1, e2] at kk
  by_cases z : k % 4 = 1
  · rw [if_pos z, if_pos z] at kk
    refine WI.pos ((md_eq (d := 4) (r := 1) (by omega) (by omega) (by omega) (by omega)).mpr z) ?_
    refine WI.call (news_run _ B) (fun h9 r hr => ?_)
    obtain ⟨rfl, B1⟩ := hr
    refine WI.neg (by decide) ?_
    exact l121 hk B1 kk
  · rw [if_neg z, if_neg z] at kk
    refine WI.neg (fun e => z ((md_eq (d := 4) (r := 1) (by omega) (by omega) (by omega) (by omega)).mp e)) ?_
    exact l121 hk B kk
theorem l79 (hk : k < 100) (B : TB h x y m m N S) (kk : ∀ h1 m1, TB h1 x y m1 m1 (N + tc 6 3 k 460 + tc 4 1 k 4000 + tc 5 2 k 2400 + tc 9 7 k 5000 + tc 23 15 k 11800) (S + tc 6 3 k 2760 + tc 4 1 k 24000 + tc 5 2 k 24000 + tc 9 7 k 50000 + tc 23 15 k 80000) → WI Q (r21 h1 (some x) (some y) 1 (Int32.ofNat (k + 1)))) : WI Q (f_L_law_c79 G r21 h (some x) (some y) (Int32.ofNat k) u) := by
  unfold f_L_law_c79
  have e1 : tc 6 3 k 460 = if k % 6 = 3 then 460 else 0 := rfl
  have e2 : tc 6 3 k 2760 = if k % 6 = 3 then 2760 else 0 := rfl
  rw [e1, e2] at kk
  by_cases z : k % 6 = 3
  · rw [if_pos z, if_pos z] at kk
    refine WI.pos ((md_eq (d := 6) (r := 3) (by omega) (by omega) (by omega) (by omega)).mpr z) ?_
    refine WI.call (alike_run B) (fun h9 r hr => ?_)
    obtain ⟨rfl, B1⟩ := hr
    refine WI.neg (by decide) ?_
    exact l96 hk B1 kk
  · rw [if_neg z, if_neg z] at kk
    refine WI.neg (fun e => z ((md_eq (d := 6) (r := 3) (by omega) (by omega) (by omega) (by omega)).mp e)) ?_
    exact l96 hk B kk
/-- what the turns before cost -/
def preN : Nat → Nat
  | 0 => 0
  | k + 1 => preN k + 2030 + tc 6 3 k 460 + tc 4 1 k 4000 + tc 5 2 k 2400 + tc 9 7 k 5000 + tc 23 15 k 11800
def preS : Nat → Nat
  | 0 => 0
  | k + 1 => preS k + 20300 + tc 6 3 k 2760 + tc 4 1 k 24000 + tc 5 2 k 24000 + tc 9 7 k 50000 + tc 23 15 k 80000
theorem preN_s (k : Nat) : preN (k + 1) = preN k + 2030 + tc 6 3 k 460 + tc 4 1 k 4000 + tc 5 2 k 2400 + tc 9 7 k 5000 + tc 23 15 k 11800 := rfl
theorem preS_s (k : Nat) : preS (k + 1) = preS k + 20300 + tc 6 3 k 2760 + tc 4 1 k 24000 + tc 5 2 k 24000 + tc 9 7 k 50000 + tc 23 15 k 80000 := rfl
theorem WI.eq {f : Option (nk_H × Int32)} {h1 : nk_H} {t : Int32} (e : f = some (h1, t)) {K : nk_H → Int32 → Option (nk_H × Int32)} (q : WI Q (K h1 t)) : WI Q (nk_do f K) := by rw [e]; exact q
theorem l21 (hL : nk_gL G ≤ 260) (hk : k < 100) (B : TB h x y m m N S) (kk : ∀ h1 m1, TB h1 x y m1 m1 (N + 2030 + tc 6 3 k 460 + tc 4 1 k 4000 + tc 5 2 k 2400 + tc 9 7 k 5000 + tc 23 15 k 11800) (S + 20300 + tc 6 3 k 2760 + tc 4 1 k 24000 + tc 5 2 k 24000 + tc 9 7 k 50000 + tc 23 15 k 80000) → WI Q (r21 h1 (some x) (some y) 1 (Int32.ofNat (k + 1)))) : WI Q (f_L_law_c21 G r21 h (some x) (some y) 1 (Int32.ofNat k)) := by
  obtain ⟨n, w, a, c, hr, I⟩ := B.1.inv
  unfold f_L_law_c21
  refine WI.neg (fun e => by have := (ia_le (a := 100) (by omega) (by omega)).mp e; omega) (WI.neg (by decide) ?_)
  have e61 : Int32.ofNat k - Int32.ofNat k / 61 * 61 = Int32.ofNat (k % 61) := ia_mod (k := 61) (by omega) (by omega)
  obtain ⟨v, ev⟩ := cell_run hL h (Nat.mod_lt k (show 0 < 61 by omega))
  rw [e61]
  refine WI.eq ev ?_
  generalize v + 1321 * (Int32.ofNat k / 61) = u
  obtain ⟨m2, t, ht, run⟩ := ua_act I u
  obtain ⟨h1, e1, T1, n1, s1⟩ := run h x y m B.1
  refine WI.eq e1 ?_
  have b1 := B.2.1
  have b2 := B.2.2
  by_cases z : t = -9999999
  · refine WI.pos z ?_
    have := ht z
    subst this
    exact l79 hk (⟨T1, by omega, by omega⟩ : TB h1 x y m2 m2 (N + 2030) (S + 20300)) kk
  · refine WI.neg z ?_
    obtain ⟨h2, e2, T2, n2, s2⟩ := run h1 y x m2 T1.symm
    refine WI.eq e2 (WI.pos rfl ?_)
    exact l79 hk (⟨T2.symm, by omega, by omega⟩ : TB h2 x y m2 m2 (N + 2030) (S + 20300)) kk
theorem l292 (B : TB h x y m m N S) : WI (fun h1 r => r = 1 ∧ nk_N h1 ≤ N + 4460 ∧ nk_S h1 ≤ S + 26760) (f_L_law_c292 G h (some x) (some y) 1) := by
  unfold f_L_law_c292
  refine WI.neg (by decide) ?_
  refine WI.call (alike_run B) (fun h1 r hr => ?_)
  obtain ⟨rfl, B1⟩ := hr
  refine WI.neg (by decide) ?_
  refine WI.call (news_run _ B1) (fun h2 r hr => ?_)
  obtain ⟨rfl, B2⟩ := hr
  refine WI.neg (by decide) ?_
  unfold f_L_law_c317
  have B3 : TB h2 x y m m (N + 4460) (S + 26760) := B2.up (by omega) (by omega)
  exact WI.zr1 ⟨rfl, B3.2⟩
theorem law_loop (hL : nk_gL G ≤ 260) : ∀ (kf k : Nat) (h : nk_H) (m : Nat → Nat → Int32), TB h x y m m (N + preN k) (S + preS k) → k ≤ 100 → 100 - k < kf → WI (fun h1 r => r = 1 ∧ nk_N h1 ≤ N + preN 100 + 4460 ∧ nk_S h1 ≤ S + preS 100 + 26760) (f_L_law_b21 G kf h (some x) (some y) 1 (Int32.ofNat k)) := by
  intro kf
  induction kf with
  | zero => intro k h m B h1 h2; omega
  | succ kf ih =>
    intro k h m B h1 h2
    show WI _ (f_L_law_c21 G (f_L_law_b21 G kf) h (some x) (some y) 1 (Int32.ofNat k))
    by_cases hk : k < 100
    · exact l21 hL hk B (fun h9 m9 B9 => ih (k + 1) h9 m9 (B9.up (by rw [preN_s]; omega) (by rw [preS_s]; omega)) (by omega) (by omega))
    · have : k = 100 := by omega
      subst this
      unfold f_L_law_c21
      exact WI.pos (show (100 : Int32) ≤ Int32.ofNat 100 by decide) (l292 B)
theorem pre_100 : preN 100 ≤ 480000 ∧ preS 100 ≤ 4400000 := by decide +kernel
end U9
