section PT
variable {h h' g : nk_H} {X n w a c hr : Nat} {pa cp : Nat → Nat} {s s' m : Nat → Nat → Int32}
/-- the state behind p hours; how many comings -/
def hS (s : Nat → Nat → Int32) (n hr : Nat) : Nat → (Nat → Nat → Int32)
  | 0 => s
  | p + 1 => ptS (nk_u2 (hS s n hr p) 1 0 (Int32.ofNat (hr + p + 1))) (hr + p + 1) n
def hA (s : Nat → Nat → Int32) (n hr : Nat) : Nat → Int32
  | 0 => 0
  | p + 1 => hA s n hr p + sumB (fun j => cnt (frB (hS s n hr p) j)) n
theorem frB_e (e : eq0 s s') : frB s' = frB s := by
  funext j k
  unfold frB
  rw [e.f 10 (by decide), e.f 2 (by decide)]
theorem ptS_e (e : eq0 s s') (t i : Nat) : eq0 (ptS s t i) (ptS s' t i) := fun x y hx => by
  unfold ptS
  rw [frB_e e, e x y hx]
theorem hS_e (e : eq0 s s') (n hr : Nat) : ∀ p, eq0 (hS s n hr p) (hS s' n hr p) := by
  intro p
  induction p with
  | zero => exact e
  | succ p ih => exact ptS_e (eq0_u2 ih _ _ _) _ _
theorem hA_e (e : eq0 s s') (n hr : Nat) : ∀ p, hA s' n hr p = hA s n hr p := by
  intro p
  induction p with
  | zero => rfl
  | succ p ih =>
    show hA s' n hr p + _ = hA s n hr p + _
    rw [ih, frB_e (hS_e e n hr p)]
theorem hS_O (s : Nat → Nat → Int32) (n hr p : Nat) {x : Nat} (h1 : x ≠ 1) (h10 : x ≠ 10) : hS s n hr p x = s x := by
  induction p with
  | zero => rfl
  | succ p ih =>
    show ptS _ _ _ x = _
    rw [ptS_O _ _ _ h10, u2_K _ _ _ _ h1, ih]
theorem hA_k (s : Nat → Nat → Int32) {n : Nat} (hr : Nat) (hn : n ≤ 160) : ∀ p, ∃ k, k ≤ 960 * p ∧ hA s n hr p = Int32.ofNat k := by
  intro p
  induction p with
  | zero => exact ⟨0, by omega, rfl⟩
  | succ p ih =>
    obtain ⟨k, hk, e⟩ := ih
    obtain ⟨l, hl, e2⟩ := sum_k (g := fun j => cnt (frB (hS s n hr p) j)) 6 (n := n) (fun j _ => by
      obtain ⟨z, hz, ez⟩ := cnt_k (frB (hS s n hr p) j)
      exact ⟨z, by omega, ez⟩)
    refine ⟨k + l, by omega, ?_⟩
    show hA s n hr p + sumB (fun j => cnt (frB (hS s n hr p) j)) n = _
    rw [e, e2, ia_add]
theorem hA_nn (s : Nat → Nat → Int32) {n : Nat} (hr : Nat) (hn : n ≤ 160) {p : Nat} (hp : p ≤ 400) : ¬ hA s n hr p < 0 := by
  obtain ⟨k, hk, e⟩ := hA_k s hr hn p
  rw [e]; exact ia_n0 (by omega)
theorem hS_0 (s : Nat → Nat → Int32) (n hr p : Nat) : hS s n hr p 0 0 = s 0 0 := by
  induction p with
  | zero => rfl
  | succ p ih =>
    show ptS _ _ _ 0 0 = _
    rw [ptS_O _ _ _ (by decide), u2_k _ _ _ _ _ (by decide), ih]
theorem ps_step (W : WR h X n w a c hr pa cp s m) (hh : hr < 400) (r33 : nk_H → Nat → Int32 → Int32 → Int32 → Option (nk_H × (Int32 ⊕ String))) (v1 v2 v3 : Int32) (hv : ¬ v1 ≤ v3) : ∃ h', f_X11_pass_c33 r33 h X v1 v2 v3 = r33 h' X v1 (v2 + sumB (fun j => cnt (frB s j)) n) (v3 + 1) ∧ WR h' X n w a c (hr + 1) pa cp (ptS (nk_u2 s 1 0 (Int32.ofNat (hr + 1))) (hr + 1) n) m ∧ nk_N h' = nk_N h ∧ nk_S h' = nk_S h := by
  have hI := W.I
  have hb := W.b
  have s10 : s 1 0 = Int32.ofNat hr := hI.1.2.2.2.2.2.2.2.2.2.1
  obtain ⟨k1, k2, k3, -⟩ := W.1.1.1
  have F1 : CF (nk_sI h X 5 (Int32.ofNat (hr + 1))) X := W.1.1.1
  have g5 : nk_I h X 5 = Int32.ofNat hr := by rw [W.1.2.1.1]; exact s10
  have k18 : nk_K h X ∈ [18] := by rw [k1]; decide
  have k15' : nk_K h (X + 4) ∈ [15] := by rw [W.1.1.1.2.2.2.2.2.2.2.1.1]; decide
  have k14 : nk_K h (X + 1) ∈ [14] := by rw [W.1.1.1.2.2.2.2.2.2.1.1]; decide
  have W1 := W.w0.hour hh (va_cpy (nk_I (nk_sI h X 5 (Int32.ofNat (hr + 1))) (X + 2)) (nk_I (nk_sI h X 5 (Int32.ofNat (hr + 1))) (X + 3)) 0 (6 * (hr + 1)) 6)
  have i2 : nk_I (nk_sI h X 5 (Int32.ofNat (hr + 1))) (X + 2) = nk_I h (X + 2) := by rw [nk_I_sI]; funext y; rw [nk_u2_ne _ _ _ _ _ (by omega)]
  have i3 : nk_I (nk_sI h X 5 (Int32.ofNat (hr + 1))) (X + 3) = nk_I h (X + 3) := by rw [nk_I_sI]; funext y; rw [nk_u2_ne _ _ _ _ _ (by omega)]
  have e2 : ∀ x, x < 6 → nk_u2 s 1 0 (Int32.ofNat (hr + 1)) 2 x = s 2 x := fun x _ => u2_k _ _ _ _ _ (by decide)
  have r6 : nk_I (nk_cI (nk_sI h X 5 (Int32.ofNat (hr + 1))) (X + 3) (va_cpy (nk_I (nk_sI h X 5 (Int32.ofNat (hr + 1))) (X + 2)) (nk_I (nk_sI h X 5 (Int32.ofNat (hr + 1))) (X + 3)) 0 (6 * (hr + 1)) 6)) (X + 3) = fun k => if 6 * (hr + 1) ≤ k ∧ k < 6 * (hr + 1) + 6 then nk_I h (X + 2) (0 + (k - 6 * (hr + 1))) else nk_I h (X + 3) k := by
    rw [i2, i3]
    show nk_u1 _ (X + 3) _ (X + 3) = _
    rw [nk_u1_eq]; rfl
  have g4 := W.1.2.1.2.2.2
  have rowsN : ∀ x, x < 6 → nk_I (nk_cI (nk_sI h X 5 (Int32.ofNat (hr + 1))) (X + 3) (va_cpy (nk_I (nk_sI h X 5 (Int32.ofNat (hr + 1))) (X + 2)) (nk_I (nk_sI h X 5 (Int32.ofNat (hr + 1))) (X + 3)) 0 (6 * (hr + 1)) 6)) (X + 3) (6 * (hr + 1) + x) = s 2 x := fun x hx => by
    rw [r6]
    show (if 6 * (hr + 1) ≤ 6 * (hr + 1) + x ∧ 6 * (hr + 1) + x < 6 * (hr + 1) + 6 then nk_I h (X + 2) (0 + (6 * (hr + 1) + x - 6 * (hr + 1))) else _) = _
    rw [if_pos ⟨by omega, by omega⟩]
    have : 0 + (6 * (hr + 1) + x - 6 * (hr + 1)) = x := by omega
    rw [this]; exact (g4 x hx).1
  have rowsO : ∀ y, y < 6 * (hr + 1) → nk_I (nk_cI (nk_sI h X 5 (Int32.ofNat (hr + 1))) (X + 3) (va_cpy (nk_I (nk_sI h X 5 (Int32.ofNat (hr + 1))) (X + 2)) (nk_I (nk_sI h X 5 (Int32.ofNat (hr + 1))) (X + 3)) 0 (6 * (hr + 1)) 6)) (X + 3) y = nk_I h (X + 3) y := fun y hy => by
    rw [r6]
    show (if 6 * (hr + 1) ≤ y ∧ y < 6 * (hr + 1) + 6 then _ else _) = _
    rw [if_neg (by omega)]
  have keep := q_keep F1 (t := hr + 1) (by omega)
  have x5 : nk_I (nk_cI (nk_sI h X 5 (Int32.ofNat (hr + 1))) (X + 3) (va_cpy (nk_I (nk_sI h X 5 (Int32.ofNat (hr + 1))) (X + 2)) (nk_I (nk_sI h X 5 (Int32.ofNat (hr + 1))) (X + 3)) 0 (6 * (hr + 1)) 6)) X 5 = Int32.ofNat (hr + 1) := by
    rw [W1.1.2.1.1]; exact u2_eq _ _ _ _
  have hd : SI h (nk_cI (nk_sI h X 5 (Int32.ofNat (hr + 1))) (X + 3) (va_cpy (nk_I (nk_sI h X 5 (Int32.ofNat (hr + 1))) (X + 2)) (nk_I (nk_sI h X 5 (Int32.ofNat (hr + 1))) (X + 3)) 0 (6 * (hr + 1)) 6)) := ⟨rfl, rfl, rfl, rfl, rfl, rfl, rfl⟩
  generalize nk_cI (nk_sI h X 5 (Int32.ofNat (hr + 1))) (X + 3) (va_cpy (nk_I (nk_sI h X 5 (Int32.ofNat (hr + 1))) (X + 2)) (nk_I (nk_sI h X 5 (Int32.ofNat (hr + 1))) (X + 3)) 0 (6 * (hr + 1)) 6) = g at W1 rowsN rowsO keep x5 hd
  have hI1 := hour_I hI hh
  obtain ⟨g', e9, W9, S9, r9⟩ := sp_loop hI1 4096 0 g (by rw [ptS_0]; exact W1) (fun x hx => by rw [e2 x hx]; exact rowsN x hx) (by omega) (by omega)
  rw [frB_1] at e9
  have e9' : f_X7_spread_b5 4096 g (X + 4) (some (X + 1)) (Int32.ofNat (hr + 1)) 0 0 = some (g', sumB (fun j => cnt (frB s j)) n) := e9
  refine ⟨g', ?_, W9.ww (CJ_hour W.1.2.2.2.2.2.2.1 hI (fun y hy => by rw [r9]; exact rowsO y hy) (fun x hx => by rw [r9]; exact rowsN x hx)), by rw [S9.2.2.2.1, hd.2.2.2.1], by rw [S9.2.2.2.2.1, hd.2.2.2.2.1]⟩
  unfold f_X11_pass_c33 f_X7_spread
  have kg : ∀ x, nk_K g x = nk_K h x := fun x => by rw [hd.1]
  have pg : ∀ x, nk_P g x = nk_P h x := fun x => by rw [hd.2.1]
  rw [if_neg hv, rd_I [18] k18 g5, ia_1, wr_I [18] 5 _ k18, rd_P (h := nk_sI h X 5 (Int32.ofNat (hr + 1))) [18] k18 k2, rd_I (h := nk_sI h X 5 (Int32.ofNat (hr + 1))) (v := Int32.ofNat (hr + 1)) [18] k18 (by rw [nk_I_sI, nk_u2_eq]), rd_r (h := nk_sI h X 5 (Int32.ofNat (hr + 1))) [14] k14, do_eq keep, rd_P (h := g) (b := some (X + 4)) [18] (by rw [kg]; exact k18) (by rw [pg]; exact k3), rd_P (h := g) (b := some (X + 1)) [18] (by rw [kg]; exact k18) (by rw [pg]; exact k2), rd_I (h := g) [18] (by rw [kg]; exact k18) x5, rd_r (h := g) [15] (by rw [kg]; exact k15'), do_eq e9']
theorem ps_loop {v : Nat} (hv : v ≤ 50) (hh : hr + v ≤ 400) : ∀ (kf p : Nat) (h : nk_H), WR h X n w a c (hr + p) pa cp (hS s n hr p) m → p ≤ v → v - p < kf → ∃ h', f_X11_pass_b33 kf h X (Int32.ofNat v) (hA s n hr p) (Int32.ofNat p) = some (h', .inl (hA s n hr v)) ∧ WR h' X n w a c (hr + v) pa cp (hS s n hr v) m ∧ nk_N h' = nk_N h ∧ nk_S h' = nk_S h := by
  intro kf
  induction kf with
  | zero => intro p h _ _ h9; omega
  | succ kf ih =>
    intro p h W hp hf
    by_cases z : v ≤ p
    · have : p = v := by omega
      subst this
      refine ⟨h, ?_, W, rfl, rfl⟩
      show f_X11_pass_c33 (f_X11_pass_b33 kf) h X (Int32.ofNat p) _ (Int32.ofNat p) = _
      unfold f_X11_pass_c33
      rw [if_pos ((ia_le (by omega) (by omega)).mpr (Nat.le_refl _))]
    · obtain ⟨h1, e1, W1, n1, s1⟩ := ps_step W (by omega) (f_X11_pass_b33 kf) (Int32.ofNat v) (hA s n hr p) (Int32.ofNat p) (fun e => by have := (ia_le (by omega) (by omega)).mp e; omega)
      obtain ⟨h2, e2, W2, n2, s2⟩ := ih (p + 1) h1 W1 (by omega) (by omega)
      refine ⟨h2, ?_, W2, by omega, by omega⟩
      show f_X11_pass_c33 (f_X11_pass_b33 kf) h X (Int32.ofNat v) _ (Int32.ofNat p) = _
      rw [e1, ia_1]
      exact e2
/-- the reference -/
theorem go_pt (s : Nat → Nat → Int32) (t : Nat) {i : Nat} (hi : i < 160) : goS (ptS s t i) t i 36 = ptS s t (i + 1) ∧ frB (ptS s t i) i = frB s i := by
  have e10 : ∀ k, k < 6 → ptS s t i 10 (160 * k + i) = s 10 (160 * k + i) := fun k hk => by rw [ptS_at s t i hk hi, if_neg (by omega)]
  have e2 : ptS s t i 2 = s 2 := ptS_O _ _ _ (by decide)
  have fr : ∀ k, k < 6 → frB (ptS s t i) i k = frB s i k := fun k hk => by
    unfold frB
    rw [e10 k hk, e2]
    congr 1
    exact anyB_congr (fun f hf => by rw [e10 f hf])
  constructor
  · funext x y
    by_cases z : x = 10 ∧ y < 960
    · obtain ⟨rfl, hy⟩ := z
      have ey : y = 160 * (y / 160) + y % 160 := by omega
      have hk : y / 160 < 6 := by omega
      have hj : y % 160 < 160 := by omega
      generalize y / 160 = k at ey hk
      generalize y % 160 = j at ey hj
      subst ey
      by_cases q : j = i
      · subst q
        rw [goS_at _ _ _ hk hj, frK_36 _ _ hk, fr k hk, e10 k hk, ptS_at s t (j + 1) hk hj]
        by_cases z : frB s j k = true
        · rw [if_pos z, if_pos ⟨by omega, z⟩]
        · rw [if_neg z, if_neg (fun q => z q.2)]
      · unfold goS
        rw [if_neg (by omega), ptS_at s t i hk hj, ptS_at s t (i + 1) hk hj]
        by_cases z : j < i ∧ frB s j k = true
        · rw [if_pos z, if_pos ⟨by omega, z.2⟩]
        · rw [if_neg z, if_neg (fun q => z ⟨by omega, q.2⟩)]
    · unfold goS ptS
      rw [if_neg (fun q => z ⟨q.1, q.2.1⟩), if_neg (fun q => z ⟨q.1, q.2.1⟩), if_neg (fun q => z ⟨q.1, q.2.1⟩)]
  · funext k
    unfold frB
    by_cases hk : k < 6
    · have := fr k hk
      unfold frB at this
      exact this
    · have q : ptS s t i 10 (160 * k + i) = s 10 (160 * k + i) := by
        unfold ptS
        rw [if_neg (by omega)]
      rw [q, e2]
      congr 1
      exact anyB_congr (fun f hf => by rw [e10 f hf])
theorem mp_inner {M : Nat} (hI : Inv s n w a c hr) (hh : hr < 400) (r44 : nk_H → Nat → Int32 → Int32 → Int32 → Option (nk_H × Int32)) (v1 v3 acc : Int32) : ∀ (kf i : Nat) (h : nk_H), St h M (ptS (nk_u2 s 1 0 (Int32.ofNat (hr + 1))) (hr + 1) i) → i ≤ n → n - i < kf → ∃ h', f_X12_pass_b62 r44 kf h M v1 (acc + sumB (fun j => cnt (frB s j)) i) v3 (Int32.ofNat i) = r44 h' M v1 (acc + sumB (fun j => cnt (frB s j)) n) (v3 + 1) ∧ MO h M h' ∧ St h' M (ptS (nk_u2 s 1 0 (Int32.ofNat (hr + 1))) (hr + 1) n) := by
  intro kf
  have hn := hI.1.2.1
  induction kf with
  | zero => intro i h _ _ h9; omega
  | succ kf ih =>
    intro i h H hi hf
    show ∃ h', f_X12_pass_c62 r44 (f_X12_pass_b62 r44 kf) h M v1 (acc + sumB (fun j => cnt (frB s j)) i) v3 (Int32.ofNat i) = _ ∧ _
    unfold f_X12_pass_c62
    have e : ∀ k, k ≠ 1 → nk_u2 s 1 0 (Int32.ofNat (hr + 1)) k = s k := fun k hk => funext fun y => u2_k _ _ _ _ _ hk
    rw [w_gIv H 3 (v := Int32.ofNat n) (by rw [ptS_O _ _ _ (by decide), e 3 (by decide)]; exact hI.1.1)]
    by_cases z : n ≤ i
    · have : i = n := by omega
      subst this
      rw [if_pos ((ia_le (by omega) (by omega)).mpr (Nat.le_refl _))]
      exact ⟨h, rfl, MO.refl h M, H⟩
    · obtain ⟨q1, q2⟩ := go_pt (nk_u2 s 1 0 (Int32.ofNat (hr + 1))) (hr + 1) (i := i) (by omega)
      obtain ⟨h1, e1, o1, H1⟩ := m_goesOn hh (j := i) (by omega) (by rw [ptS_O _ _ _ (by decide)]; exact u2_eq _ _ _ _) (fun f hf9 => by
        rw [ptS_at _ _ _ hf9 (by omega), if_neg (by omega), e 10 (by decide)]
        rcases (hI.2.2.1 f hf9 i (by omega)).1 with q | ⟨-, t, t1, -, t2⟩
        · exact Or.inl q
        · exact Or.inr ⟨t, t1, t2⟩) H
      rw [q1] at H1
      rw [q2, frB_1] at e1
      obtain ⟨h2, e2, o2, H2⟩ := ih (i + 1) h1 H1 (by omega) (by omega)
      refine ⟨h2, ?_, o1.trans o2, H2⟩
      rw [if_neg (fun q => z ((ia_le (by omega) (by omega)).mp q)), w_rcv H, do_eq e1, ia_1, Int32.add_assoc]
      exact e2
theorem mp_loop {M v : Nat} (hv : v ≤ 50) (hh : hr + v ≤ 400) : ∀ (kf p : Nat) (h : nk_H), Inv (hS s n hr p) n w a c (hr + p) → St h M (hS s n hr p) → p ≤ v → v - p < kf → Ok h M (hS s n hr v) (hA s n hr v) (f_X12_pass_b44 kf h M (Int32.ofNat v) (hA s n hr p) (Int32.ofNat p)) := by
  intro kf
  induction kf with
  | zero => intro p h _ _ _ h9; omega
  | succ kf ih =>
    intro p h hI H hp hf
    show Ok h M _ _ (f_X12_pass_c44 (f_X12_pass_b44 kf) h M (Int32.ofNat v) (hA s n hr p) (Int32.ofNat p))
    unfold f_X12_pass_c44
    by_cases z : v ≤ p
    · have : p = v := by omega
      subst this
      rw [if_pos ((ia_le (by omega) (by omega)).mpr (Nat.le_refl _))]
      exact Ok.here H
    · have hn := hI.1.2.1
      rw [if_neg (fun q => z ((ia_le (by omega) (by omega)).mp q)), w_gIv H 1 hI.1.2.2.2.2.2.2.2.2.2.1, ia_1]
      refine w_pI H 1 _ (fun h1 H1 => ?_)
      obtain ⟨h2, e2, o2, H2⟩ := mp_inner (M := M) hI (by omega) (f_X12_pass_b44 kf) (Int32.ofNat v) (Int32.ofNat p) (hA s n hr p) 4096 0 h1 (by rw [ptS_0]; exact H1) (by omega) (by omega)
      have e2' : f_X12_pass_b62 (f_X12_pass_b44 kf) 4096 h1 M (Int32.ofNat v) (hA s n hr p) (Int32.ofNat p) 0 = f_X12_pass_b44 kf h2 M (Int32.ofNat v) (hA s n hr (p + 1)) (Int32.ofNat p + 1) := by
        have z0 : hA s n hr p + sumB (fun j => cnt (frB (hS s n hr p) j)) 0 = hA s n hr p := Int32.add_zero _
        rw [z0] at e2
        exact e2
      rw [e2', ia_1]
      exact (ih (p + 1) h2 (pt_I (hour_I hI (by omega)) (Nat.le_refl _)) H2 (by omega) (by omega)).after o2
theorem bi_pass (W : WR h X n w a c hr pa cp s s) (v : Int32) : BI h X s (f_W_pass h (some X) v (some (X + 56))) (fun h1 => f_X12_pass h1 (X + 23) v) := by
  have hb := W.b
  have hI := W.I
  have s10 : s 1 0 = Int32.ofNat hr := hI.1.2.2.2.2.2.2.2.2.2.1
  obtain ⟨p1, p2, p3⟩ := k15 W
  have g5 : nk_I h X 5 = Int32.ofNat hr := by rw [W.1.2.1.1]; exact s10
  have eM : ∀ h1, St h1 (X + 23) s → f_X12_pass h1 (X + 23) v = f_X12_pass_c32 h1 (X + 23) v (if wi v 1 50 = true then (if Int32.ofNat hr + v ≤ 400 then 0 else 2) else 1) (some (X + 23)) := fun h1 H1 => by
    unfold f_X12_pass
    rw [do_eq (m_in h1 v 1 50), ite_b]
    change (if wi v 1 50 = true then _ else _) = _
    cases wi v 1 50 with
    | false => rfl
    | true =>
      rw [if_pos rfl, w_gIv H1 1 s10, if_pos rfl]
      by_cases z : Int32.ofNat hr + v ≤ 400
      · rw [if_pos z, if_pos z]
      · rw [if_neg z, if_neg z]
  have err : ∀ (h1 : nk_H) (H1 : St h1 (X + 23) s) (k : Int32), k ≠ 0 → Ok h1 (X + 23) (nk_u2 s 0 0 k) 0 (f_X12_pass_c32 h1 (X + 23) v k (some (X + 23))) := fun h1 H1 k hk => by
    unfold f_X12_pass_c32
    rw [w_rcv H1]
    refine w_do (w_holds H1 _) (fun h2 H2 => ?_)
    rw [decide_eq_false hk]
    exact Ok.here H2
  unfold f_W_pass
  rw [rX W]
  cases h0 : wi v 1 50 with
  | false =>
    refine BI.errV W (E := nk_IA) (v := 1) ?_ rfl rfl (by decide) (fun h1 H1 => ⟨0, ?_⟩)
    · unfold f_X11_pass
      rw [dt_if (mb_within h v 1 50), h0]
      exact VOK.thrown W _
    · rw [eM h1 H1, h0]; exact err h1 H1 1 (by decide)
  | true =>
    by_cases z : Int32.ofNat hr + v ≤ 400
    · obtain ⟨k, rfl, hk⟩ : ∃ k, v = Int32.ofNat k ∧ k ≤ 50 := by
        refine wi_ex (by decide) ?_
        unfold wi at h0 ⊢
        rw [Bool.and_eq_true, decide_eq_true_eq, decide_eq_true_eq] at h0
        rw [Bool.and_eq_true, decide_eq_true_eq, decide_eq_true_eq]
        exact ⟨Int32.le_trans (by decide) h0.1, h0.2⟩
      have hh : hr + k ≤ 400 := by
        rw [ia_add] at z
        exact (ia_le (b := 400) (by omega) (by omega)).mp z
      obtain ⟨h9, e9, W9, n9, s9⟩ := ps_loop (v := k) (s := s) hk hh 4096 0 h W (by omega) (by omega)
      refine BI.okV (v := hA s n hr k) (s' := hS s n hr k) (s2 := hS (nk_u2 s 0 0 0) n hr k) (n' := n) (w' := w) (a' := a) (c' := c) (hr' := hr + k) ?_ (fun h1' H1 => ?_) (hS_e (eq0_u s 0) n hr k) ?_ (JX.of (eq0_u s 0) (fun x hx => hS_O _ _ _ _ (by unfold nxf at hx; omega) (by unfold nxf at hx; omega)) (fun _ => hA_nn _ _ W.I.1.2.1 (by omega)))
      · refine ⟨h9, pa, cp, ?_, W9, by omega, by omega⟩
        unfold f_X11_pass
        rw [dt_if (mb_within h _ 1 50), h0, if_pos rfl, rd_I [18] p3 g5, if_pos z]
        exact e9
      · show Ok h1' (X + 23) _ _ (f_X12_pass h1' (X + 23) _)
        rw [eM h1' H1, h0, if_pos rfl, if_pos z]
        unfold f_X12_pass_c32
        rw [w_rcv H1]
        refine w_do (w_holds H1 _) (fun h2 H2 => ?_)
        show Ok h2 (X + 23) _ _ (if (1 : Int32) = 0 then _ else _)
        rw [if_neg (by decide), ← hA_e (eq0_u s 0) n hr k]
        exact mp_loop hk hh 4096 0 h2 (hI.eq0 (eq0_u s 0)) H2 (by omega) (by omega)
      · rw [hS_0, u2_eq]
    · refine BI.errV W (E := nk_IS) (v := 2) ?_ rfl rfl (by decide) (fun h1 H1 => ⟨0, ?_⟩)
      · unfold f_X11_pass
        rw [dt_if (mb_within h v 1 50), h0, if_pos rfl, rd_I [18] p3 g5, if_neg z]
        exact VOK.thrown W _
      · rw [eM h1 H1, h0, if_pos rfl, if_neg z]; exact err h1 H1 2 (by decide)
end PT
