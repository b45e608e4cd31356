/-! ===== two objects alike ===== -/
section U3
variable {h : nk_H} {x y N S : Nat} {m m' : Nat → Nat → Int32} {n w a c hr : Nat} {Q : nk_H → Int32 → Prop}
theorem UQ.mk {f : nk_H → Nat → Option (nk_H × (Int32 ⊕ String))} {L hs : nk_Hs} {code val : Int32} (ok : hsok L hs) (z : Int32 → Int32)
    (tq : ∀ {h : nk_H} {x y : Nat} {m' : Nat → Nat → Int32}, TW h x y m m' → ∃ h1 rr, f h x = some (h1, rr) ∧ EN hs code val rr ∧ TW h1 x y m m' ∧ nk_N h1 ≤ nk_N h + 5 ∧ nk_S h1 ≤ nk_S h + 30) :
    UQ m (fun h x => (nk_rcv [18] h (some x)).bind fun a => nk_tr L (f h a) fun h2 x3 => some (h2, z x3)) := by
  refine ⟨if code = 0 then z val else -9999999, fun h x y m' T => ?_⟩
  obtain ⟨h1, rr, e, q, T1, n1, s1⟩ := tq T
  refine ⟨h1, ?_, T1, n1, s1⟩
  dsimp only
  rw [T.rc]
  rcases q with ⟨hc, rfl⟩ | ⟨hc, E, hE, rfl⟩
  · rw [tr_l e, if_pos hc]
  · rw [tr_r ok hE e, if_neg hc]
theorem uq_done (I : Inv m n w a c hr) (v u : Int32) : UQ m (fun h o => f_L_looks h (some o) 1 v u) := by
  have U := UQ.mk (m := m) (L := hs_L_looks) (hs := hs_W_done) (f := fun h o => f_X11_done h o v u) (hsok_all (by decide +kernel)) (fun z => z) (fun T => tq_done T I v u)
  unfold f_L_looks f_L_looks_c65
  simp only [if_neg (show ¬ (1 : Int32) = 0 by decide), if_pos]
  exact U
theorem uq_brokenCopy (I : Inv m n w a c hr) (v u : Int32) : UQ m (fun h o => f_L_looks h (some o) 3 v u) := by
  have U := UQ.mk (m := m) (L := hs_L_looks) (hs := hs_W_brokenCopy) (f := fun h o => f_X11_brokenCopy h o v) (hsok_all (by decide +kernel)) (fun z => z) (fun T => tq_brokenCopy T I v)
  unfold f_L_looks f_L_looks_c65
  simp only [if_neg (show ¬ (3 : Int32) = 0 by decide), if_neg (show ¬ (3 : Int32) = 1 by decide), if_neg (show ¬ (3 : Int32) = 2 by decide), if_pos]
  exact U
theorem uq_isTrue (I : Inv m n w a c hr) (v u : Int32) : UQ m (fun h o => f_L_looks h (some o) 4 v u) := by
  have U := UQ.mk (m := m) (L := hs_L_looks) (hs := hs_W_isTrue) (f := fun h o => f_X11_isTrue h o v) (hsok_all (by decide +kernel)) (fun z => if z = 0 then 0 else 1) (fun T => tq_isTrue T I v)
  unfold f_L_looks f_L_looks_c65
  simp only [if_neg (show ¬ (4 : Int32) = 0 by decide), if_neg (show ¬ (4 : Int32) = 1 by decide), if_neg (show ¬ (4 : Int32) = 2 by decide), if_neg (show ¬ (4 : Int32) = 3 by decide)]
  have e : ∀ (h2 : nk_H) (z : Int32), (if z = 0 then some (h2, (0 : Int32)) else some (h2, 1)) = some (h2, if z = 0 then 0 else 1) := fun h2 z => by split <;> rfl
  simp only [e]
  exact U
/-- what is to come: an answer 1, the two objects as they were -/
def WA (x y : Nat) (m m' : Nat → Nat → Int32) (N S : Nat) : nk_H → Int32 → Prop := fun h r => r = 1 ∧ TB h x y m m' N S
theorem al_step (I : Inv m n w a c hr) {k : Nat} (hk : k < 6) (R : nk_H → Option Nat → Option Nat → Int32 → Int32 → Option (nk_H × Int32)) (B : TB h x y m m N S) (kk : ∀ h1, TB h1 x y m m (N + 70) (S + 420) → WI Q (R h1 (some x) (some y) 1 (Int32.ofNat (k + 1)))) : WI Q (f_L_areAlike_c52 R h (some x) (some y) 1 (Int32.ofNat k)) := by
  unfold f_L_areAlike_c52
  have k6 : rg (Int32.ofNat k) 6 = true := rg_of (by omega) hk
  have c1 : (if rg (Int32.ofNat k) 6 = true then (0 : Int32) else 1) = 0 := if_pos k6
  refine WI.neg (show ¬ (6 : Int32) ≤ Int32.ofNat k from fun e => by have := (ia_le (a := 6) (by omega) (by omega)).mp e; omega) (WI.neg (by decide) ?_)
  refine wq_records B I c1 (fun h1 B1 => ?_)
  refine wq_records B1.symm I c1 (fun h2 B2 => ?_)
  refine WI.pos rfl ?_
  refine wq_mail B2.symm I c1 (fun h3 B3 => ?_)
  refine wq_mail B3.symm I c1 (fun h4 B4 => ?_)
  refine WI.pos rfl ?_
  refine wq_broken B4.symm I c1 (fun h5 B5 => ?_)
  refine wq_broken B5.symm I c1 (fun h6 B6 => ?_)
  refine WI.pos rfl ?_
  obtain ⟨t1, u1⟩ := uq_done I (Int32.ofNat k) 0
  refine WI.uq B6.symm u1 (fun h7 B7 => ?_)
  refine WI.uq B7.symm u1 (fun h8 B8 => ?_)
  refine WI.pos rfl ?_
  obtain ⟨t2, u2⟩ := uq_brokenCopy I (Int32.ofNat k) 0
  refine WI.uq B8.symm u2 (fun h9 B9 => ?_)
  refine WI.uq B9.symm u2 (fun h10 B10 => ?_)
  refine WI.pos rfl ?_
  obtain ⟨t3, u3⟩ := uq_isTrue I (Int32.ofNat k) 0
  refine WI.uq B10.symm u3 (fun h11 B11 => ?_)
  refine WI.uq B11.symm u3 (fun h12 B12 => ?_)
  refine WI.pos rfl ?_
  have c2 : (if (rg (Int32.ofNat k) 6 && rg 0 6) = true then (0 : Int32) else 1) = 0 := by rw [k6]; rfl
  refine wq_areJoined B12.symm I c2 (fun h13 B13 => ?_)
  refine wq_areJoined B13.symm I c2 (fun h14 B14 => ?_)
  refine WI.pos rfl ?_
  unfold f_L_areAlike_c172
  rw [ia_1]
  exact kk h14 (B14.symm.up (by omega) (by omega))
theorem al_loop (I : Inv m n w a c hr) : ∀ (kf k : Nat) (h : nk_H) (N S : Nat), TB h x y m m N S → k ≤ 6 → 6 - k < kf → WI (WA x y m m (N + 70 * (6 - k)) (S + 420 * (6 - k))) (f_L_areAlike_b52 kf h (some x) (some y) 1 (Int32.ofNat k)) := by
  intro kf
  induction kf with
  | zero => intro k h N S B h1 h2; omega
  | succ kf ih =>
    intro k h N S B h1 h2
    show WI _ (f_L_areAlike_c52 (f_L_areAlike_b52 kf) h (some x) (some y) 1 (Int32.ofNat k))
    by_cases hk : k < 6
    · refine al_step I hk _ B (fun h1' B1 => ?_)
      obtain ⟨h9, r, e, q1, q2⟩ := ih (k + 1) h1' _ _ B1 (by omega) (by omega)
      exact ⟨h9, r, e, q1, q2.up (by omega) (by omega)⟩
    · have : k = 6 := by omega
      subst this
      unfold f_L_areAlike_c52 f_L_areAlike_c179
      refine WI.pos (show (6 : Int32) ≤ Int32.ofNat 6 by decide) (WI.zr1 ⟨rfl, B.up (by omega) (by omega)⟩)
theorem alike_run (B : TB h x y m m N S) : WI (WA x y m m (N + 460) (S + 2760)) (f_L_areAlike h (some x) (some y)) := by
  obtain ⟨n, w, a, c, hr, I⟩ := B.1.inv
  unfold f_L_areAlike
  refine wq_hour B I (fun h1 B1 => ?_)
  refine wq_hour B1.symm I (fun h2 B2 => ?_)
  refine WI.pos rfl ?_
  refine wq_news B2.symm I (fun h3 B3 => ?_)
  refine wq_news B3.symm I (fun h4 B4 => ?_)
  refine WI.pos rfl ?_
  refine wq_powers B4.symm I (fun h5 B5 => ?_)
  refine wq_powers B5.symm I (fun h6 B6 => ?_)
  refine WI.pos rfl ?_
  refine wq_standing B6.symm I (fun h7 B7 => ?_)
  refine wq_standing B7.symm I (fun h8 B8 => ?_)
  refine WI.pos rfl ?_
  unfold f_L_areAlike_c49
  obtain ⟨h9, r, e, q1, q2⟩ := al_loop I 4096 0 h8 _ _ B8.symm (by omega) (by omega)
  exact ⟨h9, r, e, q1, q2.up (by omega) (by omega)⟩
end U3
