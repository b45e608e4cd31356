/-! ===== runs on two objects, step by step ===== -/
section U2b
def TB (h : nk_H) (x y : Nat) (m m' : Nat → Nat → Int32) (N S : Nat) : Prop := TW h x y m m' ∧ nk_N h ≤ N ∧ nk_S h ≤ S
variable {h : nk_H} {x y N S : Nat} {m m' : Nat → Nat → Int32} {n w a c hr : Nat}
theorem TB.symm (B : TB h x y m m' N S) : TB h y x m' m N S := ⟨B.1.symm, B.2⟩
theorem TB.up {N' S' : Nat} (B : TB h x y m m' N S) (a : N ≤ N') (b : S ≤ S') : TB h x y m m' N' S' := ⟨B.1, Nat.le_trans B.2.1 a, Nat.le_trans B.2.2 b⟩
/-- a run comes to its end -/
def WI (Q : nk_H → Int32 → Prop) (e : Option (nk_H × Int32)) : Prop := ∃ h r, e = some (h, r) ∧ Q h r
variable {Q : nk_H → Int32 → Prop}
theorem WI.ret {r : Int32} (q : Q h r) : WI Q (some (h, r)) := ⟨h, r, rfl, q⟩
theorem WI.zr1 (q : Q h 1) : WI Q (nk_zr 1 (h, 1)) := ⟨h, 1, rfl, q⟩
theorem WI.zr0 (q : Q h 0) : WI Q (nk_zr 0 (h, 0)) := ⟨h, 0, rfl, q⟩
theorem WI.pos {P : Prop} [Decidable P] {A B : Option (nk_H × Int32)} (p : P) (q : WI Q A) : WI Q (if P then A else B) := by rw [if_pos p]; exact q
theorem WI.neg {P : Prop} [Decidable P] {A B : Option (nk_H × Int32)} (p : ¬ P) (q : WI Q B) : WI Q (if P then A else B) := by rw [if_neg p]; exact q
theorem WI.q {f : nk_H → Nat → Option (nk_H × (Int32 ⊕ String))} {hs : nk_Hs} {code val : Int32} (B : TB h x y m m' N S) (t : ∃ h1 rr, f h x = some (h1, rr) ∧ EN hs code val rr ∧ TW h1 x y m m' ∧ nk_N h1 ≤ nk_N h + 5 ∧ nk_S h1 ≤ nk_S h + 30) (hc : code = 0) {K : nk_H → Int32 → Option (nk_H × Int32)} (kk : ∀ h1, TB h1 x y m m' (N + 5) (S + 30) → WI Q (K h1 val)) : WI Q ((nk_rcv [18] h (some x)).bind fun a => nk_do (nk_st (f h a)) K) := by
  obtain ⟨h1, rr, e, q, T1, n1, s1⟩ := t
  have er := q.l hc
  subst er
  rw [B.1.rc, st_l e]
  exact kk h1 ⟨T1, by have := B.2.1; omega, by have := B.2.2; omega⟩
theorem WI.p {f : nk_H → Nat → Option (nk_H × Int32)} {val : Int32} (B : TB h x y m m' N S) (t : ∃ h1, f h x = some (h1, val) ∧ TW h1 x y m m' ∧ nk_N h1 ≤ nk_N h + 5 ∧ nk_S h1 ≤ nk_S h + 30) {K : nk_H → Int32 → Option (nk_H × Int32)} (kk : ∀ h1, TB h1 x y m m' (N + 5) (S + 30) → WI Q (K h1 val)) : WI Q ((nk_rcv [18] h (some x)).bind fun a => nk_do (f h a) K) := by
  obtain ⟨h1, e, T1, n1, s1⟩ := t
  rw [B.1.rc, e]
  exact kk h1 ⟨T1, by have := B.2.1; omega, by have := B.2.2; omega⟩
theorem WI.low {v n : Int32} {k : Nat} (en : n = Int32.ofNat k) (h0 : 0 < k) (hk : k < 2147483648) {K : nk_H → Int32 → Option (nk_H × Int32)} (kk : ∀ j, j < k → lowS v n = Int32.ofNat j → WI Q (K h (Int32.ofNat j))) : WI Q (nk_do (f_L_low h v n) K) := by
  obtain ⟨j, hj, e⟩ := low_ex v en h0 hk
  rw [low_run h v en h0 hk, e]
  exact kk j hj e
theorem WI.call {f : Option (nk_H × Int32)} {Q1 : nk_H → Int32 → Prop} (a : WI Q1 f) {K : nk_H → Int32 → Option (nk_H × Int32)} (kk : ∀ h1 r, Q1 h1 r → WI Q (K h1 r)) : WI Q (nk_do f K) := by
  obtain ⟨h1, r, e, q⟩ := a
  rw [e]
  exact kk h1 r q
/-- a question of the law's, told by the state -/
def UQ (m : Nat → Nat → Int32) (F : nk_H → Nat → Option (nk_H × Int32)) : Prop := ∃ t, ∀ (h : nk_H) (x y : Nat) (m' : Nat → Nat → Int32), TW h x y m m' → ∃ h1, F h x = some (h1, t) ∧ TW h1 x y m m' ∧ nk_N h1 ≤ nk_N h + 5 ∧ nk_S h1 ≤ nk_S h + 30
theorem WI.uq {F : nk_H → Nat → Option (nk_H × Int32)} {t : Int32} (B : TB h x y m m' N S) (u : ∀ (h : nk_H) (x y : Nat) (m' : Nat → Nat → Int32), TW h x y m m' → ∃ h1, F h x = some (h1, t) ∧ TW h1 x y m m' ∧ nk_N h1 ≤ nk_N h + 5 ∧ nk_S h1 ≤ nk_S h + 30) {K : nk_H → Int32 → Option (nk_H × Int32)} (kk : ∀ h1, TB h1 x y m m' (N + 5) (S + 30) → WI Q (K h1 t)) : WI Q (nk_do (F h x) K) := by
  obtain ⟨h1, e, T1, n1, s1⟩ := u h x y m' B.1
  rw [e]
  exact kk h1 ⟨T1, by have := B.2.1; omega, by have := B.2.2; omega⟩
theorem wq_records (B : TB h x y m m' N S) (I : Inv m n w a c hr) {v : Int32} (hc : (if rg v 6 = true then (0 : Int32) else 1) = 0) {K : nk_H → Int32 → Option (nk_H × Int32)} (kk : ∀ h1, TB h1 x y m m' (N + 5) (S + 30) → WI Q (K h1 (m 30 v.toNatClampNeg))) : WI Q ((nk_rcv [18] h (some x)).bind fun a9 => nk_do (nk_st (f_X11_records h a9 v)) K) :=
  WI.q (f := fun h a9 => f_X11_records h a9 v) B (tq_records B.1 I v) hc kk
theorem wq_came (B : TB h x y m m' N S) (I : Inv m n w a c hr) {v u : Int32} (hc : (if (rg v 6 && rg u n) = true then (0 : Int32) else 1) = 0) {K : nk_H → Int32 → Option (nk_H × Int32)} (kk : ∀ h1, TB h1 x y m m' (N + 5) (S + 30) → WI Q (K h1 (m 10 (160 * v.toNatClampNeg + u.toNatClampNeg)))) : WI Q ((nk_rcv [18] h (some x)).bind fun a9 => nk_do (nk_st (f_X11_came h a9 v u)) K) :=
  WI.q (f := fun h a9 => f_X11_came h a9 v u) B (tq_came B.1 I v u) hc kk
theorem wq_cameByLinks (B : TB h x y m m' N S) (I : Inv m n w a c hr) {v u : Int32} (hc : (if (rg v 6 && rg u n) = true then (0 : Int32) else 1) = 0) {K : nk_H → Int32 → Option (nk_H × Int32)} (kk : ∀ h1, TB h1 x y m m' (N + 5) (S + 30) → WI Q (K h1 (m 10 (160 * v.toNatClampNeg + u.toNatClampNeg)))) : WI Q ((nk_rcv [18] h (some x)).bind fun a9 => nk_do (nk_st (f_X11_cameByLinks h a9 v u)) K) :=
  WI.q (f := fun h a9 => f_X11_cameByLinks h a9 v u) B (tq_cameByLinks B.1 I v u) hc kk
theorem wq_mail (B : TB h x y m m' N S) (I : Inv m n w a c hr) {v : Int32} (hc : (if rg v 6 = true then (0 : Int32) else 1) = 0) {K : nk_H → Int32 → Option (nk_H × Int32)} (kk : ∀ h1, TB h1 x y m m' (N + 5) (S + 30) → WI Q (K h1 (unrS m n v.toNatClampNeg))) : WI Q ((nk_rcv [18] h (some x)).bind fun a9 => nk_do (nk_st (f_X11_mail h a9 v)) K) :=
  WI.q (f := fun h a9 => f_X11_mail h a9 v) B (tq_mail B.1 I v) hc kk
theorem wq_source (B : TB h x y m m' N S) (I : Inv m n w a c hr) {v : Int32} (hc : (if rg v w = true then (0 : Int32) else 1) = 0) {K : nk_H → Int32 → Option (nk_H × Int32)} (kk : ∀ h1, TB h1 x y m m' (N + 5) (S + 30) → WI Q (K h1 (m 16 v.toNatClampNeg))) : WI Q ((nk_rcv [18] h (some x)).bind fun a9 => nk_do (nk_st (f_X11_source h a9 v)) K) :=
  WI.q (f := fun h a9 => f_X11_source h a9 v) B (tq_source B.1 I v) hc kk
theorem wq_holder (B : TB h x y m m' N S) (I : Inv m n w a c hr) {v : Int32} (hc : (if rg v w = true then (0 : Int32) else 1) = 0) {K : nk_H → Int32 → Option (nk_H × Int32)} (kk : ∀ h1, TB h1 x y m m' (N + 5) (S + 30) → WI Q (K h1 (m 15 v.toNatClampNeg))) : WI Q ((nk_rcv [18] h (some x)).bind fun a9 => nk_do (nk_st (f_X11_holder h a9 v)) K) :=
  WI.q (f := fun h a9 => f_X11_holder h a9 v) B (tq_holder B.1 I v) hc kk
theorem wq_done (B : TB h x y m m' N S) (I : Inv m n w a c hr) {v u : Int32} (hc : (if (rg v 6 && rg u w) = true then (0 : Int32) else 1) = 0) {K : nk_H → Int32 → Option (nk_H × Int32)} (kk : ∀ h1, TB h1 x y m m' (N + 5) (S + 30) → WI Q (K h1 (doneS m n w v u.toNatClampNeg))) : WI Q ((nk_rcv [18] h (some x)).bind fun a9 => nk_do (nk_st (f_X11_done h a9 v u)) K) :=
  WI.q (f := fun h a9 => f_X11_done h a9 v u) B (tq_done B.1 I v u) hc kk
theorem wq_against (B : TB h x y m m' N S) (I : Inv m n w a c hr) {v p u amt : Int32} (hc : (if (rg v 6 && rg p 10 && rg u w) = true then (if wi amt 1 10000 = true then (0 : Int32) else 2) else 1) = 0) {K : nk_H → Int32 → Option (nk_H × Int32)} (kk : ∀ h1, TB h1 x y m m' (N + 5) (S + 30) → WI Q (K h1 (reasonS m n w v v (m 1 0) p u.toNatClampNeg (m 28 0) amt (m 27 0)))) : WI Q ((nk_rcv [18] h (some x)).bind fun a9 => nk_do (nk_st (f_X11_against h a9 v p u amt)) K) :=
  WI.q (f := fun h a9 => f_X11_against h a9 v p u amt) B (tq_against B.1 I v p u amt) hc kk
theorem wq_choices (B : TB h x y m m' N S) (I : Inv m n w a c hr) {v p amt : Int32} (hc : (if (rg v 6 && rg p 10) = true then (if wi amt 1 10000 = true then (0 : Int32) else 2) else 1) = 0) {K : nk_H → Int32 → Option (nk_H × Int32)} (kk : ∀ h1, TB h1 x y m m' (N + 5) (S + 30) → WI Q (K h1 (chcS m n w v p amt))) : WI Q ((nk_rcv [18] h (some x)).bind fun a9 => nk_do (nk_st (f_X11_choices h a9 v p amt)) K) :=
  WI.q (f := fun h a9 => f_X11_choices h a9 v p amt) B (tq_choices B.1 I v p amt) hc kk
theorem wq_fault (B : TB h x y m m' N S) (I : Inv m n w a c hr) {v r : Int32} (hc : (if recB m v r = true then (0 : Int32) else 1) = 0) {K : nk_H → Int32 → Option (nk_H × Int32)} (kk : ∀ h1, TB h1 x y m m' (N + 5) (S + 30) → WI Q (K h1 (faultS m n w (acS m v r)))) : WI Q ((nk_rcv [18] h (some x)).bind fun a9 => nk_do (nk_st (f_X11_fault h a9 v r)) K) :=
  WI.q (f := fun h a9 => f_X11_fault h a9 v r) B (tq_fault B.1 I v r) hc kk
theorem wq_pieceOf (B : TB h x y m m' N S) (I : Inv m n w a c hr) {v r : Int32} (hc : (if recB m v r = true then (0 : Int32) else 1) = 0) {K : nk_H → Int32 → Option (nk_H × Int32)} (kk : ∀ h1, TB h1 x y m m' (N + 5) (S + 30) → WI Q (K h1 (m 32 (acS m v r)))) : WI Q ((nk_rcv [18] h (some x)).bind fun a9 => nk_do (nk_st (f_X11_pieceOf h a9 v r)) K) :=
  WI.q (f := fun h a9 => f_X11_pieceOf h a9 v r) B (tq_pieceOf B.1 I v r) hc kk
theorem wq_part (B : TB h x y m m' N S) (I : Inv m n w a c hr) {v r p : Int32} (hc : (if (recB m v r && rg p 6) = true then (0 : Int32) else 1) = 0) {K : nk_H → Int32 → Option (nk_H × Int32)} (kk : ∀ h1, TB h1 x y m m' (N + 5) (S + 30) → WI Q (K h1 (m 33 (6 * acS m v r + p.toNatClampNeg)))) : WI Q ((nk_rcv [18] h (some x)).bind fun a9 => nk_do (nk_st (f_X11_part h a9 v r p)) K) :=
  WI.q (f := fun h a9 => f_X11_part h a9 v r p) B (tq_part B.1 I v r p) hc kk
theorem wq_seal (B : TB h x y m m' N S) (I : Inv m n w a c hr) {v r : Int32} (hc : (if recB m v r = true then (0 : Int32) else 1) = 0) {K : nk_H → Int32 → Option (nk_H × Int32)} (kk : ∀ h1, TB h1 x y m m' (N + 5) (S + 30) → WI Q (K h1 (m 35 (acS m v r)))) : WI Q ((nk_rcv [18] h (some x)).bind fun a9 => nk_do (nk_st (f_X11_seal h a9 v r)) K) :=
  WI.q (f := fun h a9 => f_X11_seal h a9 v r) B (tq_seal B.1 I v r) hc kk
theorem wq_broken (B : TB h x y m m' N S) (I : Inv m n w a c hr) {v : Int32} (hc : (if rg v 6 = true then (0 : Int32) else 1) = 0) {K : nk_H → Int32 → Option (nk_H × Int32)} (kk : ∀ h1, TB h1 x y m m' (N + 5) (S + 30) → WI Q (K h1 (brkS m v.toNatClampNeg))) : WI Q ((nk_rcv [18] h (some x)).bind fun a9 => nk_do (nk_st (f_X11_broken h a9 v)) K) :=
  WI.q (f := fun h a9 => f_X11_broken h a9 v) B (tq_broken B.1 I v) hc kk
theorem wq_size (B : TB h x y m m' N S) (I : Inv m n w a c hr) {v : Int32} (hc : (if rg v c = true then (0 : Int32) else 1) = 0) {K : nk_H → Int32 → Option (nk_H × Int32)} (kk : ∀ h1, TB h1 x y m m' (N + 5) (S + 30) → WI Q (K h1 (m 40 v.toNatClampNeg))) : WI Q ((nk_rcv [18] h (some x)).bind fun a9 => nk_do (nk_st (f_X11_size h a9 v)) K) :=
  WI.q (f := fun h a9 => f_X11_size h a9 v) B (tq_size B.1 I v) hc kk
theorem wq_copied (B : TB h x y m m' N S) (I : Inv m n w a c hr) {v r p : Int32} (hc : (if (plB m c v r && rg p 6) = true then (0 : Int32) else 1) = 0) {K : nk_H → Int32 → Option (nk_H × Int32)} (kk : ∀ h1, TB h1 x y m m' (N + 5) (S + 30) → WI Q (K h1 (cpdS m v.toNatClampNeg r.toNatClampNeg p.toNatClampNeg))) : WI Q ((nk_rcv [18] h (some x)).bind fun a9 => nk_do (nk_st (f_X11_copied h a9 v r p)) K) :=
  WI.q (f := fun h a9 => f_X11_copied h a9 v r p) B (tq_copied B.1 I v r p) hc kk
theorem wq_brokenCopy (B : TB h x y m m' N S) (I : Inv m n w a c hr) {v : Int32} (hc : (if rg v c = true then (0 : Int32) else 1) = 0) {K : nk_H → Int32 → Option (nk_H × Int32)} (kk : ∀ h1, TB h1 x y m m' (N + 5) (S + 30) → WI Q (K h1 (kbrS m v.toNatClampNeg))) : WI Q ((nk_rcv [18] h (some x)).bind fun a9 => nk_do (nk_st (f_X11_brokenCopy h a9 v)) K) :=
  WI.q (f := fun h a9 => f_X11_brokenCopy h a9 v) B (tq_brokenCopy B.1 I v) hc kk
theorem wq_areJoined (B : TB h x y m m' N S) (I : Inv m n w a c hr) {v u : Int32} (hc : (if (rg v 6 && rg u 6) = true then (0 : Int32) else 1) = 0) {K : nk_H → Int32 → Option (nk_H × Int32)} (kk : ∀ h1, TB h1 x y m m' (N + 5) (S + 30) → WI Q (K h1 (b2i (gb (m 2 v.toNatClampNeg) u.toNatClampNeg)))) : WI Q ((nk_rcv [18] h (some x)).bind fun a9 => nk_do (nk_st (f_X11_areJoined h a9 v u)) K) :=
  WI.q (f := fun h a9 => f_X11_areJoined h a9 v u) B (tq_areJoined B.1 I v u) hc kk
theorem wq_isRead (B : TB h x y m m' N S) (I : Inv m n w a c hr) {v u : Int32} (hc : (if (rg v 6 && rg u n) = true then (0 : Int32) else 1) = 0) {K : nk_H → Int32 → Option (nk_H × Int32)} (kk : ∀ h1, TB h1 x y m m' (N + 5) (S + 30) → WI Q (K h1 (b2i (decide (m 11 (160 * v.toNatClampNeg + u.toNatClampNeg) = 1))))) : WI Q ((nk_rcv [18] h (some x)).bind fun a9 => nk_do (nk_st (f_X11_isRead h a9 v u)) K) :=
  WI.q (f := fun h a9 => f_X11_isRead h a9 v u) B (tq_isRead B.1 I v u) hc kk
theorem wq_isGood (B : TB h x y m m' N S) (I : Inv m n w a c hr) {v u : Int32} (hc : (if (rg v 6 && rg u w) = true then (0 : Int32) else 1) = 0) {K : nk_H → Int32 → Option (nk_H × Int32)} (kk : ∀ h1, TB h1 x y m m' (N + 5) (S + 30) → WI Q (K h1 (b2i (goodB m n w v u.toNatClampNeg)))) : WI Q ((nk_rcv [18] h (some x)).bind fun a9 => nk_do (nk_st (f_X11_isGood h a9 v u)) K) :=
  WI.q (f := fun h a9 => f_X11_isGood h a9 v u) B (tq_isGood B.1 I v u) hc kk
theorem wq_stands (B : TB h x y m m' N S) (I : Inv m n w a c hr) {v r : Int32} (hc : (if recB m v r = true then (0 : Int32) else 1) = 0) {K : nk_H → Int32 → Option (nk_H × Int32)} (kk : ∀ h1, TB h1 x y m m' (N + 5) (S + 30) → WI Q (K h1 (b2i (decide (m 36 (acS m v r) = 1))))) : WI Q ((nk_rcv [18] h (some x)).bind fun a9 => nk_do (nk_st (f_X11_stands h a9 v r)) K) :=
  WI.q (f := fun h a9 => f_X11_stands h a9 v r) B (tq_stands B.1 I v r) hc kk
theorem wq_isTrue (B : TB h x y m m' N S) (I : Inv m n w a c hr) {v : Int32} (hc : (if rg v c = true then (0 : Int32) else 1) = 0) {K : nk_H → Int32 → Option (nk_H × Int32)} (kk : ∀ h1, TB h1 x y m m' (N + 5) (S + 30) → WI Q (K h1 (b2i (ktrB m v.toNatClampNeg)))) : WI Q ((nk_rcv [18] h (some x)).bind fun a9 => nk_do (nk_st (f_X11_isTrue h a9 v)) K) :=
  WI.q (f := fun h a9 => f_X11_isTrue h a9 v) B (tq_isTrue B.1 I v) hc kk
theorem wq_hour (B : TB h x y m m' N S) (I : Inv m n w a c hr) {K : nk_H → Int32 → Option (nk_H × Int32)} (kk : ∀ h1, TB h1 x y m m' (N + 5) (S + 30) → WI Q (K h1 (m 1 0))) : WI Q ((nk_rcv [18] h (some x)).bind fun a9 => nk_do (f_X11_hour h a9) K) :=
  WI.p (f := fun h a9 => f_X11_hour h a9) B (tq_hour B.1 I) kk
theorem wq_news (B : TB h x y m m' N S) (I : Inv m n w a c hr) {K : nk_H → Int32 → Option (nk_H × Int32)} (kk : ∀ h1, TB h1 x y m m' (N + 5) (S + 30) → WI Q (K h1 (Int32.ofNat n))) : WI Q ((nk_rcv [18] h (some x)).bind fun a9 => nk_do (f_X11_news h a9) K) :=
  WI.p (f := fun h a9 => f_X11_news h a9) B (tq_news B.1 I) kk
theorem wq_powers (B : TB h x y m m' N S) (I : Inv m n w a c hr) {K : nk_H → Int32 → Option (nk_H × Int32)} (kk : ∀ h1, TB h1 x y m m' (N + 5) (S + 30) → WI Q (K h1 (Int32.ofNat w))) : WI Q ((nk_rcv [18] h (some x)).bind fun a9 => nk_do (f_X11_powers h a9) K) :=
  WI.p (f := fun h a9 => f_X11_powers h a9) B (tq_powers B.1 I) kk
theorem wq_standing (B : TB h x y m m' N S) (I : Inv m n w a c hr) {K : nk_H → Int32 → Option (nk_H × Int32)} (kk : ∀ h1, TB h1 x y m m' (N + 5) (S + 30) → WI Q (K h1 (sumB (fun e => m 36 e) a))) : WI Q ((nk_rcv [18] h (some x)).bind fun a9 => nk_do (f_X11_standing h a9) K) :=
  WI.p (f := fun h a9 => f_X11_standing h a9) B (tq_standing B.1 I) kk
end U2b
