section MP
variable {h h' g : nk_H} {X n w a c hr : Nat} {pa pa' cp : Nat → Nat} {s s' s2 m : Nat → Nat → Int32}
/-- the mail is read, the first i pieces of it -/
def rdS (s : Nat → Nat → Int32) (k i : Nat) : Nat → Nat → Int32 := fun x y => if x = 11 ∧ 160 * k ≤ y ∧ y < 160 * k + i then (if s 10 y = -1 then 0 else 1) else s x y
theorem rdS_0 (s : Nat → Nat → Int32) (k : Nat) : rdS s k 0 = s := by
  funext x y
  unfold rdS
  rw [if_neg (by omega)]
theorem rdS_s (s : Nat → Nat → Int32) (k i : Nat) : nk_u2 (rdS s k i) 11 (160 * k + i) (if s 10 (160 * k + i) = -1 then 0 else 1) = rdS s k (i + 1) := by
  funext x y
  show (if x = 11 ∧ y = 160 * k + i then (if s 10 (160 * k + i) = -1 then (0 : Int32) else 1) else (if x = 11 ∧ 160 * k ≤ y ∧ y < 160 * k + i then (if s 10 y = -1 then 0 else 1) else s x y)) = (if x = 11 ∧ 160 * k ≤ y ∧ y < 160 * k + (i + 1) then (if s 10 y = -1 then 0 else 1) else s x y)
  by_cases z : x = 11 ∧ y = 160 * k + i
  · obtain ⟨rfl, rfl⟩ := z
    rw [if_pos ⟨rfl, rfl⟩, if_pos (show 11 = 11 ∧ 160 * k ≤ 160 * k + i ∧ 160 * k + i < 160 * k + (i + 1) from ⟨rfl, by omega, by omega⟩)]
  · rw [if_neg z]
    by_cases z2 : x = 11 ∧ 160 * k ≤ y ∧ y < 160 * k + i
    · rw [if_pos z2, if_pos (show x = 11 ∧ 160 * k ≤ y ∧ y < 160 * k + (i + 1) from ⟨z2.1, z2.2.1, by omega⟩)]
    · rw [if_neg z2, if_neg (fun e => by
        by_cases q : y = 160 * k + i
        · exact z ⟨e.1, q⟩
        · exact z2 ⟨e.1, e.2.1, by omega⟩)]
theorem rdS_O (s : Nat → Nat → Int32) (k i : Nat) {x : Nat} (hx : x ≠ 11) : rdS s k i x = s x := by
  funext y
  unfold rdS
  rw [if_neg (fun e => hx e.1)]
theorem rdS_at (s : Nat → Nat → Int32) (k i : Nat) {k' j : Nat} (hj : j < 160) (hi : i ≤ 160) : rdS s k i 11 (160 * k' + j) = if k' = k ∧ j < i then (if s 10 (160 * k' + j) = -1 then 0 else 1) else s 11 (160 * k' + j) := by
  unfold rdS
  by_cases z : k' = k ∧ j < i
  · rw [if_pos z, if_pos ⟨rfl, by omega, by omega⟩]
  · rw [if_neg z, if_neg (by omega)]
theorem rdS_e (e : eq0 s s') (k i : Nat) : eq0 (rdS s k i) (rdS s' k i) := fun x y hx => by
  unfold rdS
  rw [e 10 y (by decide), e x y hx]
theorem rdS_I (hI : Inv s n w a c hr) {k i : Nat} (hi : i ≤ n) : Inv (rdS s k i) n w a c hr := by
  have hn := hI.1.2.1
  have e : ∀ x, x ≠ 11 → rdS s k i x = s x := fun x hx => rdS_O s k i hx
  obtain ⟨i0, i1, i2, i3, i4, i5, i6, i7, i8, i9⟩ := hI
  refine ⟨i0.cg (fun k hk => e k (by omega)), i1.cg (fun k hk => e k (by omega)), fun k' hk' j hj => ?_, i3.cg (fun k hk => e k (by omega)), i4.cg (fun k hk => e k (by omega)), i5.cg (fun k hk => e k (by omega)), i6.cg (fun k hk => e k (by omega)), i7.cg (fun k hk => e k (by omega)), i8.cg (fun k hk => e k (by omega)), i9.cg (fun k hk => e k (by omega))⟩
  obtain ⟨q1, q2⟩ := i2 k' hk' j hj
  have e6 : ∀ j, sN (rdS s k i) 6 j = sN s 6 j := fun j => by unfold sN; rw [e 6 (by decide)]
  rw [e 10 (by decide), e6]
  refine ⟨q1, ?_⟩
  rw [rdS_at s k i hj (by omega)]
  by_cases z : k' = k ∧ j < i
  · rw [if_pos z]
    by_cases y : s 10 (160 * k' + j) = -1
    · rw [if_pos y]; exact Or.inl rfl
    · rw [if_neg y]; exact Or.inr ⟨rfl, y⟩
  · rw [if_neg z]; exact q2
theorem CJ.same (J : CJ h X n hr s) (hI3 : nk_I h' (X + 3) = nk_I h (X + 3)) (e5 : s' 5 = s 5) (e6 : s' 6 = s 6) (e10 : s' 10 = s 10) : CJ h' X n hr s' := by
  unfold CJ Rt sN at *
  rw [hI3, e5, e6, e10]; exact J
theorem rd_step {k i : Nat} (W : WR h X n w a c hr pa cp (rdS s k i) m) (hk : k < 6) (hi : i < n) (hIs : Inv s n w a c hr) : (unrB (rdS s k i) k i = true → WR (nk_sI h (pa i) 4 (nk_I h (pa i) 4 ||| (1 <<< (Int32.ofNat k &&& 31)))) X n w a c hr pa cp (rdS s k (i + 1)) m) ∧ (unrB (rdS s k i) k i = false → rdS s k (i + 1) = rdS s k i) := by
  have hn := W.b.1
  have e11 : rdS s k i 11 (160 * k + i) = s 11 (160 * k + i) := by
    rw [rdS_at s k i (by omega) (by omega), if_neg (by omega)]
  have e10 : rdS s k i 10 = s 10 := rdS_O s k i (by decide)
  constructor
  · intro hu
    unfold unrB at hu
    rw [Bool.and_eq_true, e10] at hu
    have came : s 10 (160 * k + i) ≠ -1 := by simpa using hu.1
    have st := rdS_s s k i
    rw [if_neg came] at st
    have A := W.1.1.2.2.1
    have J := W.1.2.2.2.2.2.2.1
    have pX := (A i hi).1
    refine WR0.ww (W.w0.pint hi ((SI.refl h).sI _ _ _) (fun x y h1 h2 => ?_) (fun x h1 h2 => ?_) (fun j h1 h2 k' hk' => ?_) ?_ (rdS_I hIs (by omega))) (J.same ?_ ?_ ?_ ?_)
    · rw [nk_I_sI]
      by_cases z : x = pa i
      · rw [z, nk_u2_nk _ _ _ _ _ (h2 z).2]
      · rw [nk_u2_ne _ _ _ _ _ z]
    · rw [rdS_O _ _ _ h2, rdS_O _ _ _ h2]
    · rw [rdS_O s k (i + 1) (by decide), e10, ← st, u2_j _ _ _ _ _ (by omega)]
      exact ⟨rfl, rfl⟩
    · obtain ⟨a1, a2, a3, a4, a5, a6⟩ := W.1.1.2.2.2.2.1 i hi
      have o5 : rdS s k (i + 1) 5 = rdS s k i 5 := by rw [rdS_O _ _ _ (by decide), rdS_O _ _ _ (by decide)]
      have o6 : rdS s k (i + 1) 6 = rdS s k i 6 := by rw [rdS_O _ _ _ (by decide), rdS_O _ _ _ (by decide)]
      have o10 : rdS s k (i + 1) 10 = rdS s k i 10 := by rw [rdS_O _ _ _ (by decide), rdS_O _ _ _ (by decide)]
      unfold PI1
      rw [nk_I_sI, nk_u2_nk _ _ _ _ _ (by decide), nk_u2_nk _ _ _ _ _ (by decide), nk_u2_nk _ _ _ _ _ (by decide), nk_u2_nk _ _ _ _ _ (by decide), nk_u2_eq, o5, o6, o10]
      refine ⟨a1, a2, a3, a4, fun k' hk' => ?_, fun k' hk' => by rw [nk_u2_ne _ _ _ _ _ (by omega)]; exact a6 k' hk'⟩
      rw [gb_or, a5 k' hk', gb_bit hk]
      by_cases z : k' = k
      · subst z
        rw [← st, u2_eq, decide_eq_true hk]
        simp
      · rw [decide_eq_false z, Bool.or_false, ← st, u2_j _ _ _ _ _ (by omega)]
    · rw [nk_I_sI]; funext y; rw [nk_u2_ne _ _ _ _ _ (by omega)]
    · rw [rdS_O _ _ _ (by decide), rdS_O _ _ _ (by decide)]
    · rw [rdS_O _ _ _ (by decide), rdS_O _ _ _ (by decide)]
    · rw [rdS_O _ _ _ (by decide), rdS_O _ _ _ (by decide)]
  · intro hu
    unfold unrB at hu
    rw [e10, e11] at hu
    rw [← rdS_s]
    have v : (if s 10 (160 * k + i) = -1 then (0 : Int32) else 1) = rdS s k i 11 (160 * k + i) := by
      rw [e11]
      obtain ⟨-, q2⟩ := hIs.2.2.1 k hk i (by omega)
      by_cases z : s 10 (160 * k + i) = -1
      · rw [if_pos z]
        rcases q2 with q2 | ⟨-, q2⟩
        · exact q2.symm
        · exact absurd z q2
      · rw [if_neg z]
        rw [decide_eq_false z] at hu
        have hu2 : s 11 (160 * k + i) = 1 := by simpa using hu
        exact hu2.symm
    rw [v]
    funext x y
    unfold nk_u2
    by_cases z : x = 11 ∧ y = 160 * k + i
    · rw [if_pos z, z.1, z.2]
    · rw [if_neg z]
theorem rd_loop {k : Nat} (hk : k < 6) (hIs : Inv s n w a c hr) (acc : Int32) : ∀ (kf i : Nat) (h : nk_H), WR h X n w a c hr pa cp (rdS s k i) m → i ≤ n → n - i < kf → ∃ h', f_X7_readMail_b8 kf h (X + 4) (Int32.ofNat k) acc (Int32.ofNat i) = some (h', acc) ∧ WR h' X n w a c hr pa cp (rdS s k n) m ∧ SI h h' := by
  intro kf
  induction kf with
  | zero => intro i h _ _ h9; omega
  | succ kf ih =>
    intro i h W hi hf
    have hn := W.b.1
    obtain ⟨k1, k2, -⟩ := W.1.1.1.2.2.2.2.2.2.2.1
    have L := W.1.1.2.1
    show ∃ h', f_X7_readMail_c8 (f_X7_readMail_b8 kf) h (X + 4) (Int32.ofNat k) acc (Int32.ofNat i) = some (h', acc) ∧ _
    unfold f_X7_readMail_c8 f_X7_readMail_c55
    rw [rd_P [15] (by rw [k1]; decide) k2, rd_r [7] (by rw [L.1]; decide), do_eq (ls_size L)]
    by_cases h1 : n ≤ i
    · have : i = n := by omega
      subst this
      rw [if_pos ((ia_le (by omega) (by omega)).mpr h1)]
      exact ⟨h, rfl, W, SI.refl h⟩
    · have hi' : i < n := by omega
      obtain ⟨st1, st2⟩ := rd_step W hk hi' hIs
      have kp := pa_K W.1.1 W.I hi'
      rw [if_neg (fun e => h1 ((ia_le (by omega) (by omega)).mp e)), rd_P [15] (by rw [k1]; decide) k2, rd_r [7] (by rw [L.1]; decide), do_eq (ls_get L hi'), q_piece W.1.1 W.I hi', do_eq (q_inMail W hk hi')]
      cases hu : unrB (rdS s k i) k i with
      | false =>
        rw [b2i_false, if_pos rfl, ia_1]
        have W2 : WR h X n w a c hr pa cp (rdS s k (i + 1)) m := by rw [st2 hu]; exact W
        exact ih (i + 1) h W2 (by omega) (by omega)
      | true =>
        have ebit : ∀ {α : Type} (h : nk_H) (k : Nat) (K : nk_H → Int32 → Option (nk_H × α)), nk_do (f_X11_bit h (Int32.ofNat k)) K = K h (1 <<< (Int32.ofNat k &&& 31)) := fun h k K => rfl
        rw [b2i_true, if_neg (by decide), rd_I _ kp rfl, ebit, wr_I _ 4 _ kp, ia_1]
        obtain ⟨h', e1, e2, e3⟩ := ih (i + 1) _ (st1 hu) (by omega) (by omega)
        exact ⟨h', e1, e2, (SI.refl h).sI _ _ _ |>.trans e3⟩
theorem rm_loop {M : Nat} {k : Nat} (hk : k < 6) (hn : n ≤ 160) (e3 : s 3 0 = Int32.ofNat n) (acc : Int32) : ∀ (kf i : Nat) (h : nk_H), St h M (rdS s k i) → i ≤ n → n - i < kf → Ok h M (rdS s k n) acc (f_X12_read_b29 kf h M (Int32.ofNat k) acc (Int32.ofNat i)) := by
  intro kf
  induction kf with
  | zero => intro i h _ _ h9; omega
  | succ kf ih =>
    intro i h H hi hf
    show Ok h M (rdS s k n) acc (f_X12_read_c29 (f_X12_read_b29 kf) h M (Int32.ofNat k) acc (Int32.ofNat i))
    unfold f_X12_read_c29 f_X12_read_c69
    rw [w_gIv H 3 (v := Int32.ofNat n) (by rw [rdS_O _ _ _ (by decide)]; exact e3)]
    by_cases h1 : n ≤ i
    · have : i = n := by omega
      subst this
      rw [if_pos ((ia_le (by omega) (by omega)).mpr h1)]
      exact Ok.here H
    · rw [if_neg (fun e => h1 ((ia_le (by omega) (by omega)).mp e)), w_gP H 11, w_gP H 10, ia_160, w_aI H 10 (by show 160 * k + i < 960; omega), rdS_O s k i (by decide), ia_1]
      have st := rdS_s s k i
      by_cases z : s 10 (160 * k + i) = -1
      · rw [if_pos z] at st ⊢
        refine w_wZ H 11 false (by show 160 * k + i < 960; omega) (fun h2 H2 => ?_)
        exact ih (i + 1) h2 (by rw [← st]; exact H2) (by omega) (by omega)
      · rw [if_neg z] at st ⊢
        refine w_wZ H 11 true (by show 160 * k + i < 960; omega) (fun h2 H2 => ?_)
        exact ih (i + 1) h2 (by rw [← st]; exact H2) (by omega) (by omega)
theorem bi_read (W : WR h X n w a c hr pa cp s s) (v : Int32) : BI h X s (f_W_read h (some X) v (some (X + 56))) (fun h1 => f_X12_read h1 (X + 23) v) := by
  have hb := W.b
  have hI := W.I
  have eM : ∀ h1, f_X12_read h1 (X + 23) v = f_X12_read_c13 h1 (X + 23) v (if rg v 6 = true then 0 else 1) (some (X + 23)) := fun h1 => by
    unfold f_X12_read
    rw [do_eq (m_isKiosk h1 v), ite_b]
    cases rg v 6 <;> rfl
  unfold f_W_read
  rw [rX W]
  cases h0 : rg v 6 with
  | false =>
    refine BI.errV W (E := nk_IX) (v := 1) ?_ rfl rfl (by decide) (fun h1 H1 => ⟨0, ?_⟩)
    · unfold f_X11_read
      rw [dt_if (mb_kiosk h v), h0]
      exact VOK.thrown W _
    · rw [eM h1, h0]
      unfold f_X12_read_c13
      rw [if_neg (by decide), w_rcv H1]
      exact w_do (w_holds H1 _) (fun h2 H2 => Ok.here H2)
  | true =>
    have h0' := h0
    obtain ⟨k, rfl, hk⟩ := rg_ex (by decide) h0'
    obtain ⟨p1, p2, p3⟩ := k15 W
    obtain ⟨h9, e9, W9, S9⟩ := rd_loop (k := k) (s := s) (acc := unrS s n k) hk hI 4096 0 h (by rw [rdS_0]; exact W) (by omega) (by omega)
    refine BI.okV (v := unrS s n k) (s' := rdS s k n) (s2 := rdS (nk_u2 s 0 0 0) k n) (n' := n) (w' := w) (a' := a) (c' := c) (hr' := hr) ?_ (fun h1' H1 => ?_) (rdS_e (eq0_u s 0) k n) ?_ (JX.of (eq0_u s 0) (fun x hx => rdS_O _ _ _ (by unfold nxf at hx; omega)) (fun _ => unr_nn W.I.1.2.1))
    · refine ⟨h9, pa, cp, ?_, W9, by rw [S9.2.2.2.1]; omega, by rw [S9.2.2.2.2.1]; omega⟩
      unfold f_X11_read f_X7_readMail
      have e9' : f_X7_readMail_b8 4096 h (X + 4) (Int32.ofNat k) (unrS s n k) 0 = some (h9, unrS s n k) := e9
      rw [dt_if (mb_kiosk h _), h0, if_pos rfl, rd_P [18] p3 p1, rd_r [15] p2, rd_r [15] p2, do_eq (q_unread W hk), do_eq e9']
    · show Ok h1' (X + 23) _ _ (f_X12_read h1' (X + 23) _)
      rw [eM h1', h0]
      unfold f_X12_read_c13
      rw [if_pos rfl, w_rcv H1]
      refine w_do (w_holds H1 _) (fun h2 H2 => ?_)
      show Ok h2 (X + 23) _ _ (if (1 : Int32) = 0 then _ else _)
      rw [if_neg (by decide), w_rcv H2, do_eq (m_unread H2 (hI.eq0 (eq0_u s 0)) hk), unrS_0 (eq0_u s 0)]
      exact rm_loop hk hb.1 (by rw [u2_k _ _ _ _ _ (by decide)]; exact hI.1.1) _ 4096 0 h2 (by rw [rdS_0]; exact H2) (by omega) (by omega)
    · rw [rdS_O _ _ _ (by decide), u2_eq]
end MP
