section MP
variable {h h' g : nk_H} {X n w a c hr : Nat} {pa pa' cp : Nat → Nat} {s s' s2 m : Nat → Nat → Int32}
/-- a power's object is made -/
theorem pc_power (W : WR h X n w a c hr pa cp s m) {d : Nat} (hd : nk_P h X 6 = some d) (o : Option Nat) (gi ho : Int32) : ∃ g, f_X9_init (nk_al h 16 0 15) (nk_N h) (Int32.ofNat w) o gi ho (some d) (s 1 0) = some (g, ()) ∧ Gn h g no no ∧ nk_N g = nk_N h + 2 ∧ nk_S g = nk_S h + 21 ∧ nk_K g (nk_N h) = 16 ∧ nk_P g (nk_N h) 5 = some (nk_N h + 1) ∧ nk_P g (nk_N h) 7 = o ∧ nk_K g (nk_N h + 1) = 1 ∧ nk_L g (nk_N h + 1) = 6 ∧ (∀ j, j < 6 → nk_I g (nk_N h + 1) j = -1) ∧ nk_I g (nk_N h) 3 = 0 ∧
    nk_I g (nk_N h) 6 = Int32.ofNat w ∧ nk_I g (nk_N h) 8 = gi ∧ nk_I g (nk_N h) 9 = ho ∧ nk_I g (nk_N h) 10 = s 22 0 ∧ nk_I g (nk_N h) 11 = s 23 0 ∧ nk_I g (nk_N h) 12 = s 24 0 ∧ nk_I g (nk_N h) 13 = s 1 0 + s 25 0 ∧ nk_I g (nk_N h) 14 = s 26 0 := by
  have hN := W.N
  generalize hp : nk_N h = p at *
  have k16 : nk_K (nk_al h 16 0 15) p = 16 := by rw [← hp]; exact al_K h 16 0 15
  have Na : nk_N (nk_al h 16 0 15) = p + 1 := by rw [nk_N_al, hp]
  obtain ⟨g, eg, Gg, Pg, Kg, Lg, Ig, Ng, Sg⟩ := pc_init (h := nk_al h 16 0 15) (p := p) (by rw [k16]; decide) (by omega)
  rw [Na] at Pg Kg Lg Ig Ng
  obtain ⟨d', e1, e2, -, e3, f0, f1, f2, f3, f4⟩ := W.1.2.2.1
  rw [hd] at e1
  cases e1
  have G0 : Gn h g no no := ((Gn.refl h no no).al 16 0 15).on Gg (fun x z => z.elim) (fun x z => Or.inr (by omega))
  have hpp : no p ∨ nk_N h ≤ p := Or.inr (by omega)
  let g1 := nk_sI g p 6 (Int32.ofNat w)
  let g2 := nk_sP g1 p 7 o
  let g3 := nk_sI g2 p 8 gi
  let g4 := nk_sI g3 p 9 ho
  let g5 := nk_sI g4 p 10 (s 22 0)
  let g6 := nk_sI g5 p 11 (s 23 0)
  let g7 := nk_sI g6 p 12 (s 24 0)
  let g8 := nk_sI g7 p 13 (s 1 0 + s 25 0)
  let g9 := nk_sI g8 p 14 (s 26 0)
  have G1 : Gn h g1 no no := G0.sI _ _ hpp
  have G2 : Gn h g2 no no := G1.sP _ _ hpp
  have G3 : Gn h g3 no no := G2.sI _ _ hpp
  have G4 : Gn h g4 no no := G3.sI _ _ hpp
  have G5 : Gn h g5 no no := G4.sI _ _ hpp
  have G6 : Gn h g6 no no := G5.sI _ _ hpp
  have G7 : Gn h g7 no no := G6.sI _ _ hpp
  have G8 : Gn h g8 no no := G7.sI _ _ hpp
  have G9 : Gn h g9 no no := G8.sI _ _ hpp
  have dk : ∀ {gx : nk_H}, Gn h gx no no → nk_K gx d ∈ [13] ∧ nk_I gx d = nk_I h d := fun G => by
    obtain ⟨q1, -, -, q4⟩ := G.2.2.2 d (by omega)
    exact ⟨by rw [q1, e3]; decide, q4 id⟩
  have kp : nk_K g p = 16 := (Gg.2.2.2 p (by omega)).1.trans k16
  have kpp : nk_K g p ∈ [16] := by rw [kp]; decide
  have i3 : nk_I g p 3 = 0 := by
    rw [(Gg.2.2.2 p (by omega)).2.2.2 id, nk_I_al, hp, nk_u1_eq]
  have hpq : p + 1 ≠ p := by omega
  have iq : nk_I g9 (p + 1) = nk_I g (p + 1) := by
    funext y
    show nk_u2 (nk_u2 (nk_u2 (nk_u2 (nk_u2 (nk_u2 (nk_u2 (nk_u2 (nk_I g) _ _ _) _ _ _) _ _ _) _ _ _) _ _ _) _ _ _) _ _ _) _ _ _ _ _ = _
    rw [nk_u2_ne _ _ _ _ _ hpq, nk_u2_ne _ _ _ _ _ hpq, nk_u2_ne _ _ _ _ _ hpq, nk_u2_ne _ _ _ _ _ hpq, nk_u2_ne _ _ _ _ _ hpq, nk_u2_ne _ _ _ _ _ hpq, nk_u2_ne _ _ _ _ _ hpq, nk_u2_ne _ _ _ _ _ hpq]
  have ip : ∀ y, nk_I g9 p y = if y = 14 then s 26 0 else if y = 13 then s 1 0 + s 25 0 else if y = 12 then s 24 0 else if y = 11 then s 23 0 else if y = 10 then s 22 0 else if y = 9 then ho else if y = 8 then gi else if y = 6 then Int32.ofNat w else nk_I g p y := fun y => by
    show nk_u2 (nk_u2 (nk_u2 (nk_u2 (nk_u2 (nk_u2 (nk_u2 (nk_u2 (nk_I g) _ _ _) _ _ _) _ _ _) _ _ _) _ _ _) _ _ _) _ _ _) _ _ _ _ _ = _
    simp [nk_u2]
  have pp : ∀ y, nk_P g9 p y = if y = 7 then o else nk_P g p y := fun y => by
    show nk_u2 (nk_P g) p 7 o p y = _
    simp [nk_u2]
  refine ⟨g9, ?_, G9, Ng, by show nk_S g = _; rw [Sg, nk_S_al], kp, by rw [pp, Pg]; rfl, by rw [pp]; rfl, Kg, Lg, fun j hj => by rw [iq]; exact Ig j hj, by rw [ip]; exact i3, by rw [ip]; rfl, by rw [ip]; rfl, by rw [ip]; rfl, by rw [ip]; rfl, by rw [ip]; rfl, by rw [ip]; rfl, by rw [ip]; rfl, by rw [ip]; rfl⟩
  unfold f_X9_init
  have fd : ∀ {gx : nk_H} (G : Gn h gx no no) (k : Nat) (v : Int32), nk_I h d k = v → nk_I gx d k = v := fun G k v e => by rw [(dk G).2]; exact e
  rw [do_eq eg, wr_I [16] 6 _ kpp, wr_P (h := g1) [16] 7 _ kpp, wr_I (h := g2) [16] 8 _ kpp, wr_I (h := g3) [16] 9 _ kpp, rd_I (h := g4) [13] (dk G4).1 (fd G4 0 _ f0), wr_I (h := g4) [16] 10 _ kpp, rd_I (h := g5) [13] (dk G5).1 (fd G5 1 _ f1), wr_I (h := g5) [16] 11 _ kpp, rd_I (h := g6) [13] (dk G6).1 (fd G6 2 _ f2), wr_I (h := g6) [16] 12 _ kpp, rd_I (h := g7) [13] (dk G7).1 (fd G7 3 _ f3), wr_I (h := g7) [16] 13 _ kpp, rd_I (h := g8) [13] (dk G8).1 (fd G8 4 _ f4), wr_I (h := g8) [16] 14 _ kpp]
/-- the reference's state with one more power -/
def uG8 (s : Nat → Nat → Int32) (w : Nat) (gi ho so : Int32) : Nat → Nat → Int32 :=
  nk_u2 (nk_u2 (nk_u2 (nk_u2 (nk_u2 (nk_u2 (nk_u2 (nk_u2 s 14 w gi) 15 w ho) 16 w so) 17 w (s 22 0)) 18 w (s 23 0)) 19 w (s 24 0)) 20 w (s 1 0 + s 25 0)) 21 w (s 26 0)
def uG (s : Nat → Nat → Int32) (n w k : Nat) (gi ho so : Int32) : Nat → Nat → Int32 := nk_u2 (nk_u2 (uMk (uG8 s w gi ho so) n k 0 (Int32.ofNat w)) 13 w (Int32.ofNat n)) 12 0 (Int32.ofNat (w + 1))
theorem uG8_O (s : Nat → Nat → Int32) (w : Nat) (gi ho so : Int32) {x : Nat} (hx : x < 14 ∨ 21 < x) : uG8 s w gi ho so x = s x := by
  funext y
  have q1 : x ≠ 14 := by omega
  have q2 : x ≠ 15 := by omega
  have q3 : x ≠ 16 := by omega
  have q4 : x ≠ 17 := by omega
  have q5 : x ≠ 18 := by omega
  have q6 : x ≠ 19 := by omega
  have q7 : x ≠ 20 := by omega
  have q8 : x ≠ 21 := by omega
  simp [uG8, nk_u2, q1, q2, q3, q4, q5, q6, q7, q8]
theorem uG_O (s : Nat → Nat → Int32) (n w k : Nat) (gi ho so : Int32) {x : Nat} (hx : x < 3 ∨ 21 < x) : uG s n w k gi ho so x = s x := by
  funext y
  unfold uG
  rw [u2_k _ _ _ _ _ (by omega), u2_k _ _ _ _ _ (by omega), uMk_O _ _ _ _ _ (by omega), uG8_O _ _ _ _ _ (by omega)]
theorem uG_w (s : Nat → Nat → Int32) (n w k : Nat) (gi ho so : Int32) : uG s n w k gi ho so 13 w = Int32.ofNat n ∧ uG s n w k gi ho so 14 w = gi ∧ uG s n w k gi ho so 15 w = ho ∧ uG s n w k gi ho so 16 w = so ∧ uG s n w k gi ho so 17 w = s 22 0 ∧ uG s n w k gi ho so 18 w = s 23 0 ∧ uG s n w k gi ho so 19 w = s 24 0 ∧ uG s n w k gi ho so 20 w = s 1 0 + s 25 0 ∧ uG s n w k gi ho so 21 w = s 26 0 := by
  have key : ∀ x, 14 ≤ x → x ≤ 21 → uG s n w k gi ho so x w = uG8 s w gi ho so x w := fun x x1 x2 => by
    unfold uG
    rw [u2_k _ _ _ _ _ (by omega), u2_k _ _ _ _ _ (by omega), uMk_O _ _ _ _ _ (by omega)]
  refine ⟨?_, ?_, ?_, ?_, ?_, ?_, ?_, ?_, ?_⟩
  · unfold uG; rw [u2_k _ _ _ _ _ (by decide), u2_eq]
  all_goals rw [key _ (by decide) (by decide)]; simp [uG8, nk_u2]
theorem uG_q (s : Nat → Nat → Int32) {n w k q : Nat} (gi ho so : Int32) (hq : q ≠ w) {x : Nat} (x1 : 13 ≤ x) (x2 : x ≤ 21) : uG s n w k gi ho so x q = s x q := by
  unfold uG
  rw [u2_k _ _ _ _ _ (by omega), u2_j _ _ _ _ _ hq, uMk_O _ _ _ _ _ (by omega)]
  simp [uG8, nk_u2, hq]
theorem uG_j (s : Nat → Nat → Int32) (n w k : Nat) (gi ho so : Int32) {x : Nat} (x1 : x ≤ 11) (y : Nat) : uG s n w k gi ho so x y = uMk (uG8 s w gi ho so) n k 0 (Int32.ofNat w) x y := by
  unfold uG
  rw [u2_k _ _ _ _ _ (by omega), u2_k _ _ _ _ _ (by omega)]
theorem uG_F (hI : Inv s n w a c hr) {k : Nat} (hn : n < 160) (hk : k < 6) (gi ho so : Int32) : MkF s (uG s n w k gi ho so) n k (Int32.ofNat hr) := by
  have hs10 : s 1 0 = Int32.ofNat hr := hI.1.2.2.2.2.2.2.2.2.2.1
  have e : ∀ x, x < 14 ∨ 21 < x → uG8 s w gi ho so x = s x := fun x hx => uG8_O _ _ _ _ _ hx
  have F := uMk_F hI hn hk 0 (Int32.ofNat w)
  have key : ∀ x y, x ≤ 11 → uG s n w k gi ho so x y = uMk s n k 0 (Int32.ofNat w) x y := fun x y hx => by
    rw [uG_j _ _ _ _ _ _ _ hx]
    have e1 : uG8 s w gi ho so 1 0 = s 1 0 := by rw [e 1 (by omega)]
    unfold uMk
    rw [e1]
    simp only [nk_u2]
    rw [e x (by omega)]
  obtain ⟨f1, f2, f3, f4, f5, f6⟩ := F
  exact ⟨by rw [key _ _ (by decide)]; exact f1, by rw [key _ _ (by decide)]; exact f2, fun k' hk' => by rw [key _ _ (by decide)]; exact f3 k' hk', fun k' hk' => by rw [key _ _ (by decide)]; exact f4 k' hk', fun j hj hj2 k' hk' => by rw [key _ _ (by decide), key _ _ (by decide)]; exact f5 j hj hj2 k' hk', fun j hj x x1 x2 => by rw [key _ _ (by omega)]; exact f6 j hj x x1 x2⟩
theorem uG_0 (e : eq0 s s') (n w k : Nat) (gi ho so : Int32) : eq0 (uG s n w k gi ho so) (uG s' n w k gi ho so) := by
  have e1 : ∀ x, x ≠ 0 → s' x 0 = s x 0 := fun x hx => e x 0 hx
  unfold uG
  refine eq0_u2 (eq0_u2 (uMk_0 ?_ _ _ _ _) _ _ _) _ _ _
  unfold uG8
  rw [e1 22 (by decide), e1 23 (by decide), e1 24 (by decide), e1 1 (by decide), e1 25 (by decide), e1 26 (by decide)]
  exact eq0_u2 (eq0_u2 (eq0_u2 (eq0_u2 (eq0_u2 (eq0_u2 (eq0_u2 (eq0_u2 e _ _ _) _ _ _) _ _ _) _ _ _) _ _ _) _ _ _) _ _ _) _ _ _
theorem JX.ofG {s t : Nat → Nat → Int32} {code : Int32} (e : eq0 s t) {n w k : Nat} {gi ho so : Int32} (hw : s 12 0 = Int32.ofNat w) (w2 : w < 40) (hh : rg ho 10 = true) : JX s (uG t n w k gi ho so) code (Int32.ofNat w) := fun N => by
  obtain ⟨n1, n2, n3, n4, n5, n6⟩ := N
  have ex : ∀ z, (z < 3 ∨ 21 < z) → z ≠ 0 → uG t n w k gi ho so z = s z := fun z h1 h2 => (uG_O _ _ _ _ _ _ _ h1).trans (funext fun j => e z j h2)
  have e15 : ∀ q, uG t n w k gi ho so 15 q = if q = w then ho else s 15 q := fun q => by
    unfold uG uG8
    rw [u2_k _ _ _ _ _ (by decide), u2_k _ _ _ _ _ (by decide), uMk_O _ _ _ _ _ (by omega), u2_k _ _ _ _ _ (by decide), u2_k _ _ _ _ _ (by decide), u2_k _ _ _ _ _ (by decide), u2_k _ _ _ _ _ (by decide), u2_k _ _ _ _ _ (by decide), u2_k _ _ _ _ _ (by decide)]
    by_cases z : q = w
    · rw [if_pos z, z, u2_eq]
    · rw [if_neg z, u2_j _ _ _ _ _ z, u2_k _ _ _ _ _ (by decide), e 15 _ (by decide)]
  have e12 : uG t n w k gi ho so 12 0 = Int32.ofNat (w + 1) := by unfold uG; rw [u2_eq]
  refine ⟨⟨?_, ?_, ?_, ?_, fun q hq => ?_, ?_⟩, fun _ => ia_n0 (by omega)⟩
  · rw [ex 2 (by omega) (by decide)]; exact n1
  · unfold sN at n2 ⊢
    rw [ex 29 (by omega) (by decide), ex 33 (by omega) (by decide)]; exact n2
  · rw [ex 33 (by omega) (by decide)]; exact n3
  · unfold sN at n4 ⊢
    rw [ex 37 (by omega) (by decide), ex 40 (by omega) (by decide), ex 41 (by omega) (by decide), ex 43 (by omega) (by decide)]; exact n4
  · rw [sN_of e12 (by omega)] at hq
    rw [e15]
    by_cases z : q = w
    · rw [if_pos z]; exact hh
    · rw [if_neg z]
      refine n5 q ?_
      rw [sN_of hw (by omega)]; omega
  · unfold sN at n6 ⊢
    rw [ex 29 (by omega) (by decide), ex 30 (by omega) (by decide), ex 31 (by omega) (by decide)]; exact n6
end MP
