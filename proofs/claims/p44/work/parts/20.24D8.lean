section QQ
variable {h : nk_H} {X n w a c hr : Nat} {pa cp : Nat → Nat} {s s' m : Nat → Nat → Int32}
/-- standing -/
theorem q_countStanding (W : WR h X n w a c hr pa cp s m) {k : Nat} (hk : k < 6) : f_X1_countStanding h (X + 9 + 2 * k) = some (h, sumB (fun r => s 36 (sN s 31 (160 * k + r))) (sN s 30 k)) := by
  have hb := W.b
  obtain ⟨f1, f2, f3, L⟩ := ch_at W hk
  obtain ⟨x, ex, hx, hact⟩ := W.I.2.2.2.2.2.1.1 k hk
  have er : sN s 30 k = x := sN_of ex (by omega)
  unfold f_X1_countStanding
  have key := loop_sum (g := fun r => s 36 (sN s 31 (160 * k + r))) (N := sN s 30 k) (F := fun k9 acc z => f_X1_countStanding_b4 k9 h (X + 9 + 2 * k) acc z) (A := fun acc => some (h, acc)) (fun k9 i acc hi => by
      show f_X1_countStanding_c4 (f_X1_countStanding_b4 k9) h (X + 9 + 2 * k) acc (Int32.ofNat i) = _
      unfold f_X1_countStanding_c4 f_X1_countStanding_c35
      rw [rd_P [9] (by rw [f2]; decide) f3, rd_r [7] (by rw [L.1]; decide), do_eq (ls_size L)]
      by_cases h1 : sN s 30 k ≤ i
      · rw [if_pos ((ia_le (by omega) (by omega)).mpr h1), if_pos h1]
      · obtain ⟨e, he, ee⟩ := hact i (by omega)
        have es : sN s 31 (160 * k + i) = e := sN_of ee (by omega)
        obtain ⟨b, eb⟩ := (W.I.2.2.2.2.1 e he).2.2.2.2
        rw [if_neg (fun e => h1 ((ia_le (by omega) (by omega)).mp e)), if_neg h1, rd_P [9] (by rw [f2]; decide) f3, rd_r [7] (by rw [L.1]; decide), do_eq (ls_get L (i := i) (by omega)), es, rd_c [8] (by rw [(act_K W he).1]; decide), rd_I [8] (by rw [(act_K W he).1]; decide) (W.1.1.2.2.2.2.2.2.2.2.2 e he).2.1, eb, ite_not, ia_1]
        cases b with
        | false => rw [if_pos rfl]; simp [b2i]
        | true => rw [if_neg (by decide)]; rfl) 4096 0 (by omega) (by omega)
  exact key
theorem cl_standing (W : WR h X n w a c hr pa cp s m) : f_X11_standing h X = some (h, sumB (fun e => s 36 e) a) := by
  obtain ⟨k1, -, -, -, k2, -, -, -, ⟨k3, k4⟩, -⟩ := W.1.1.1
  rw [← W.I.2.2.2.2.2.2.2.2.2]
  unfold f_X11_standing
  have key := loop_sum (g := fun k => sumB (fun r => s 36 (sN s 31 (160 * k + r))) (sN s 30 k)) (N := 6) (F := fun k9 acc z => f_X11_standing_b4 k9 h X acc z) (A := fun acc => some (h, acc)) (fun k9 i acc hi => by
      show f_X11_standing_c4 (f_X11_standing_b4 k9) h X acc (Int32.ofNat i) = _
      unfold f_X11_standing_c4
      by_cases h1 : 6 ≤ i
      · rw [if_pos (show (6 : Int32) ≤ Int32.ofNat i from (ia_le (a := 6) (by omega) (by omega)).mpr h1), if_pos h1]
      · obtain ⟨f1, f2, f3, L⟩ := ch_at W (k := i) (by omega)
        rw [if_neg (fun e9 : (6 : Int32) ≤ Int32.ofNat i => h1 ((ia_le (a := 6) (by omega) (by omega)).mp e9)), if_neg h1, rd_P [18] (by rw [k1]; decide) k2, rd_q 3 k3 (by omega) (by omega) f1, rd_r [9] (by rw [f2]; decide), do_eq (q_countStanding W (k := i) (by omega)), ia_1]) 4096 0 (by omega) (by omega)
  exact key
theorem md_standing {M : Nat} (H : St h M s) (hI : Inv s n w a c hr) : Ok h M (nk_u2 s 0 0 0) (sumB (fun e => s 36 e) a) (f_X12_standing h M) := by
  have ha := hI.1.2.2.2.2.2.2.1
  have hn := hI.1.2.1
  unfold f_X12_standing
  refine w_pI H 0 0 (fun h1 H1 => ?_)
  have key := loop_sum (g := fun e => s 36 e) (N := a) (F := fun k9 acc z => f_X12_standing_b9 k9 h1 M acc z) (A := fun acc => some (h1, acc)) (fun k9 i acc hi => by
      show f_X12_standing_c9 (f_X12_standing_b9 k9) h1 M acc (Int32.ofNat i) = _
      unfold f_X12_standing_c9 f_X12_standing_c32
      rw [w_gI H1 29, u2_k _ _ _ _ _ (by decide), hI.1.2.2.2.2.2.1]
      by_cases h1 : a ≤ i
      · rw [if_pos ((ia_le (by omega) (by omega)).mpr h1), if_pos h1]
      · obtain ⟨b, eb⟩ := (hI.2.2.2.2.1 i (by omega)).2.2.2.2
        rw [if_neg (fun e => h1 ((ia_le (by omega) (by omega)).mp e)), if_neg h1, w_gP H1 36, w_aZ H1 36 (by show i < 160; omega), u2_k _ _ _ _ _ (by decide), eb, ite_not, ia_1]
        cases b <;> rfl) 4096 0 (by omega) (by omega)
  show Ok h1 M _ _ (f_X12_standing_b9 4096 h1 M (sumB (fun e => s 36 e) 0) (Int32.ofNat 0))
  rw [key]
  exact Ok.here H1
/-- hour, news, powers -/
theorem cl_hour (W : WR h X n w a c hr pa cp s m) : f_X11_hour h X = some (h, s 1 0) := by
  unfold f_X11_hour
  rw [rd_I [18] (by rw [W.1.1.1.1]; decide) W.1.2.1.1]
theorem cl_news (W : WR h X n w a c hr pa cp s m) : f_X11_news h X = some (h, Int32.ofNat n) := by
  obtain ⟨p1, p2, p3⟩ := k15 W
  have k2 := W.1.1.1.2.2.2.2.2.2.2.1.2.1
  have L := W.1.1.2.1
  unfold f_X11_news f_X7_count
  rw [rd_P [18] p3 p1, rd_r [15] p2, rd_P [15] p2 k2, rd_r [7] (by rw [L.1]; decide), do_eq (ls_size L)]
  rfl
theorem cl_powers (W : WR h X n w a c hr pa cp s m) : f_X11_powers h X = some (h, Int32.ofNat w) := by
  obtain ⟨k1, -, -, k2, -⟩ := W.1.1.1
  have L := W.1.2.2.2.2.2.1.2.1
  unfold f_X11_powers
  rw [rd_P [18] (by rw [k1]; decide) k2, rd_r [7] (by rw [L.1]; decide), do_eq (ls_size L)]
theorem md_hour {M : Nat} (H : St h M s) : Ok h M (nk_u2 s 0 0 0) (s 1 0) (f_X12_hour h M) := by
  unfold f_X12_hour
  refine w_pI H 0 0 (fun h1 H1 => ?_)
  rw [w_gI H1 1, u2_k _ _ _ _ _ (by decide)]
  exact Ok.here H1
theorem md_news {M : Nat} (H : St h M s) : Ok h M (nk_u2 s 0 0 0) (s 3 0) (f_X12_news h M) := by
  unfold f_X12_news
  refine w_pI H 0 0 (fun h1 H1 => ?_)
  rw [w_gI H1 3, u2_k _ _ _ _ _ (by decide)]
  exact Ok.here H1
theorem md_powers {M : Nat} (H : St h M s) : Ok h M (nk_u2 s 0 0 0) (s 12 0) (f_X12_powers h M) := by
  unfold f_X12_powers
  refine w_pI H 0 0 (fun h1 H1 => ?_)
  rw [w_gI H1 12, u2_k _ _ _ _ _ (by decide)]
  exact Ok.here H1
/-- seals, in the class -/
theorem q_sealFrom {x : Nat} (hx : nk_K h x = 1) (hl : nk_L h x = 6) (ah : Int32) (k r : Int32) (lo : Int32) (hlo : ∀ p, p < 6 → True) : f_X11_sealFrom h ah k r (some x) lo = some (h, sealS ah (foldS (fun p => if gb lo p = true then nk_I h x p else markS k r (Int32.ofNat p) (nk_I h x p)) 6)) := by
  unfold f_X11_sealFrom
  have key := loop_fold (g := fun p => if gb lo p = true then nk_I h x p else markS k r (Int32.ofNat p) (nk_I h x p)) (N := 6) (F := fun k9 acc z => f_X11_sealFrom_b6 k9 h ah k r (some x) lo acc z) (A := fun acc => some (h, sealS ah acc)) (fun k9 i acc hi => by
      show f_X11_sealFrom_c6 (f_X11_sealFrom_b6 k9) h ah k r (some x) lo acc (Int32.ofNat i) = _
      unfold f_X11_sealFrom_c6 f_X11_sealFrom_c48 f_X11_sealFrom_c65
      by_cases h1 : 6 ≤ i
      · rw [if_pos (show (6 : Int32) ≤ Int32.ofNat i from (ia_le (a := 6) (by omega) (by omega)).mpr h1), if_pos h1]
        rfl
      · rw [if_neg (fun e9 : (6 : Int32) ≤ Int32.ofNat i => h1 ((ia_le (a := 6) (by omega) (by omega)).mp e9)), if_neg h1, rd_l (by omega) (by omega), hl, if_neg (fun e => by have := (ia_le (by omega) (by omega)).mp e; omega), do_eq (cls_hasBit h lo (k := i) (by omega)), ite_not, rd_a 1 hx (by omega) (by omega) rfl, rd_a 1 hx (by omega) (by omega) rfl, ia_1]
        cases gb lo i <;> rfl) 4096 0 (by omega) (by omega)
  have e1 : (1 : Int32) = foldS (fun p => if gb lo p = true then nk_I h x p else markS k r (Int32.ofNat p) (nk_I h x p)) 0 := rfl
  have e0 : (0 : Int32) = Int32.ofNat 0 := rfl
  rw [e1]
  exact key
theorem q_sealAhead (W : WR h X n w a c hr pa cp s m) {k r : Nat} (hk : k < 6) (hr9 : r ≤ sN s 30 k) : f_X1_sealAhead h (X + 9 + 2 * k) (Int32.ofNat r) = some (h, aheadS s k r) := by
  have hb := W.b
  obtain ⟨f1, f2, f3, L⟩ := ch_at W hk
  obtain ⟨x, ex, hx, hact⟩ := W.I.2.2.2.2.2.1.1 k hk
  have er : sN s 30 k = x := sN_of ex (by omega)
  unfold f_X1_sealAhead f_X1_sealAhead_c31 aheadS
  by_cases h0 : r = 0
  · subst h0
    rw [if_pos (by decide), if_pos rfl, rd_I [9] (by rw [f2]; decide) (W.1.2.1.2.2.2 k hk).2]
  · obtain ⟨e, he, ee⟩ := hact (r - 1) (by omega)
    have es : sN s 31 (160 * k + (r - 1)) = e := sN_of ee (by omega)
    have h1 : ¬ Int32.ofNat r ≤ 0 := fun e9 => h0 (by have := (ia_le (a := r) (b := 0) (by omega) (by omega)).mp e9; omega)
    have h2 : Int32.ofNat r - 1 = Int32.ofNat (r - 1) := by rw [show (1 : Int32) = Int32.ofNat 1 from rfl, ia_sub (by omega)]
    rw [if_neg h1, if_neg h0, rd_P [9] (by rw [f2]; decide) f3, rd_r [7] (by rw [L.1]; decide), h2, do_eq (ls_get L (i := r - 1) (by omega)), es, rd_c [8] (by rw [(act_K W he).1]; decide), rd_I [8] (by rw [(act_K W he).1]; decide) (W.1.1.2.2.2.2.2.2.2.2.2 e he).1]
theorem q_sealNow (W : WR h X n w a c hr pa cp s m) {k r e : Nat} (hk : k < 6) (hr9 : r < sN s 30 k) (he : e < a) (es : sN s 31 (160 * k + r) = e) : f_X1_sealNow h (X + 9 + 2 * k) (Int32.ofNat r) (some (ac s pa e)) = some (h, nowS s k r) := by
  obtain ⟨f1, f2, f3, L⟩ := ch_at W hk
  obtain ⟨-, -, -, a8, a9, a10, -⟩ := W.1.1.2.2.2.2.2.2.2.2.1 e he
  have b3 := (W.1.1.2.2.2.2.2.2.2.2.2 e he).2.2.1
  unfold f_X1_sealNow
  rw [rd_r [9] (by rw [f2]; decide), do_eq (q_sealAhead W hk (Nat.le_of_lt hr9)), rd_I [9] (by rw [f2]; decide) (W.1.2.1.2.2.2 k hk).2, rd_P [8] (by rw [(act_K W he).1]; decide) a8, do_eq (q_sealFrom a9 a10 _ _ _ 0 (fun _ _ => trivial))]
  have e9 := foldS_congr (n := 6) (f := fun p => if gb 0 p = true then nk_I h (ac s pa e + 2) p else markS (Int32.ofNat k) (Int32.ofNat r) (Int32.ofNat p) (nk_I h (ac s pa e + 2) p)) (g := fun p => markS (Int32.ofNat k) (Int32.ofNat r) (Int32.ofNat p) (s 33 (6 * e + p))) (fun p hp => by
    show (if gb 0 p = true then _ else _) = _
    rw [gb_0, if_neg (by decide), b3 p hp])
  rw [e9]
  unfold nowS
  rw [es]
end QQ
