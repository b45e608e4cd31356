section CI
variable {h g : nk_H} {X : Nat}
theorem sP_e (h : nk_H) (a k : Nat) (v : Option Nat) : nk_P (nk_sP h a k v) a k = v := nk_u2_eq _ _ _ _
theorem sP_o (h : nk_H) (a k : Nat) (v : Option Nat) {j : Nat} (hj : j ≠ k) : nk_P (nk_sP h a k v) a j = nk_P h a j := nk_u2_nk _ _ _ _ _ hj
theorem dr_init {p : Nat} (hk : nk_K h p = 13) : ∃ g, f_X5_init h p 63 10000 100000 100 0 = some (g, ()) ∧ SI h g ∧ (∀ x, x ≠ p → nk_I g x = nk_I h x) ∧ nk_I g p 0 = 63 ∧ nk_I g p 1 = 10000 ∧ nk_I g p 2 = 100000 ∧ nk_I g p 3 = 100 ∧ nk_I g p 4 = 0 := by
  have hk' : nk_K h p ∈ [13] := by rw [hk]; decide
  let h1 := nk_sI h p 0 63
  let h2 := nk_sI h1 p 1 10000
  let h3 := nk_sI h2 p 2 100000
  let h4 := nk_sI h3 p 3 100
  let h5 := nk_sI h4 p 4 0
  have i5 : ∀ y, nk_I h5 p y = if y = 4 then 0 else if y = 3 then 100 else if y = 2 then 100000 else if y = 1 then 10000 else if y = 0 then 63 else nk_I h p y := fun y => by
    show nk_u2 (nk_u2 (nk_u2 (nk_u2 (nk_u2 (nk_I h) _ _ _) _ _ _) _ _ _) _ _ _) _ _ _ p y = _
    simp [nk_u2]
  refine ⟨h5, ?_, (((((SI.refl h).sI _ _ _).sI _ _ _).sI _ _ _).sI _ _ _).sI _ _ _, fun x hx => ?_, by rw [i5]; rfl, by rw [i5]; rfl, by rw [i5]; rfl, by rw [i5]; rfl, by rw [i5]; rfl⟩
  · unfold f_X5_init
    rw [wr_I [13] 0 _ hk', wr_I (h := h1) [13] 1 _ hk', wr_I (h := h2) [13] 2 _ hk', wr_I (h := h3) [13] 3 _ hk', wr_I (h := h4) [13] 4 _ hk']
  · funext y
    show nk_u2 (nk_u2 (nk_u2 (nk_u2 (nk_u2 (nk_I h) _ _ _) _ _ _) _ _ _) _ _ _) _ _ _ x y = _
    rw [nk_u2_ne _ _ _ _ _ hx, nk_u2_ne _ _ _ _ _ hx, nk_u2_ne _ _ _ _ _ hx, nk_u2_ne _ _ _ _ _ hx, nk_u2_ne _ _ _ _ _ hx]
theorem SI.gn {DP : Nat → Prop} {p : Nat} (S : SI h g) (o : ∀ x, x ≠ p → nk_I g x = nk_I h x) : Gn h g (fun y => y = p) DP := by
  obtain ⟨e1, e2, e3, e4, e5, e6, e7⟩ := S
  exact ⟨by rw [e4]; exact Nat.le_refl _, e6, e7, fun x _ => ⟨by rw [e1], by rw [e3], fun _ => by rw [e2], fun z => o x z⟩⟩
/-- the object's own cell alone -/
def dX (X : Nat) : Nat → Prop := fun x => x = X
def LK (b : nk_H) (X : Nat) : Prop := nk_K b (X + 1) = 14 ∧ nk_P b (X + 1) 0 = some (X + 2) ∧ nk_P b (X + 1) 1 = some (X + 3) ∧ nk_K b (X + 2) = 1 ∧ nk_L b (X + 2) = 6 ∧ (∀ y, nk_I b (X + 2) y = 0) ∧ nk_K b (X + 3) = 1 ∧ nk_L b (X + 3) = 2406
def NW (b : nk_H) (X : Nat) : Prop := nk_K b (X + 4) = 15 ∧ nk_P b (X + 4) 0 = some (X + 5) ∧ nk_P b (X + 4) 1 = some (X + 6) ∧ LZ b (X + 5) ∧ nk_K b (X + 6) = 2 ∧ nk_L b (X + 6) = 160
def DF (b : nk_H) (X : Nat) : Prop := nk_K b (X + 22) = 13 ∧ nk_I b (X + 22) 0 = 63 ∧ nk_I b (X + 22) 1 = 10000 ∧ nk_I b (X + 22) 2 = 100000 ∧ nk_I b (X + 22) 3 = 100 ∧ nk_I b (X + 22) 4 = 0
theorem LK.gn {DI DP : Nat → Prop} (H : LK h X) (G : Gn h g DI DP) (hN : X + 4 ≤ nk_N h) (d1 : ¬ DP (X + 1)) (d2 : ¬ DI (X + 2)) : LK g X := by
  obtain ⟨a1, a2, a3, a4, a5, a6, a7, a8⟩ := H
  have u1 := G.2.2.2 (X + 1) (by omega)
  have u2 := G.2.2.2 (X + 2) (by omega)
  have u3 := G.2.2.2 (X + 3) (by omega)
  exact ⟨u1.1.trans a1, by rw [u1.2.2.1 d1]; exact a2, by rw [u1.2.2.1 d1]; exact a3, u2.1.trans a4, u2.2.1.trans a5, fun y => by rw [u2.2.2.2 d2]; exact a6 y, u3.1.trans a7, u3.2.1.trans a8⟩
theorem NW.gn {DI DP : Nat → Prop} (H : NW h X) (G : Gn h g DI DP) (hN : X + 7 ≤ nk_N h) (d1 : ¬ DP (X + 4)) (d2 : ¬ DI (X + 5)) (d3 : ¬ DP (X + 5)) : NW g X := by
  obtain ⟨a1, a2, a3, a4, a5, a6⟩ := H
  have u1 := G.2.2.2 (X + 4) (by omega)
  have u3 := G.2.2.2 (X + 6) (by omega)
  exact ⟨u1.1.trans a1, by rw [u1.2.2.1 d1]; exact a2, by rw [u1.2.2.1 d1]; exact a3, a4.gn G (by omega) d2 d3, u3.1.trans a5, u3.2.1.trans a6⟩
/-- one field of the object, the rest as it was -/
def OX (h g : nk_H) (X k v : Nat) : Prop := nk_P g X k = some v ∧ (∀ y, y ≠ k → nk_P g X y = nk_P h X y) ∧ nk_I g X = nk_I h X
theorem ox_at {a : nk_H} {k v : Nat} (e1 : nk_P a X = nk_P h X) (e2 : nk_I a X = nk_I h X) : OX h (nk_sP a X k (some v)) X k v := ⟨sP_e _ _ _ _, fun y hy => by rw [sP_o _ _ _ _ hy, e1], e2⟩
theorem st_lk {Q : Option (nk_H × Unit) → Prop} (kX : nk_K h X = 18) (hN : nk_N h = X + 1) {F : nk_H → Option (nk_H × Unit)} (hF : ∀ b, Gn h b (dX X) (dX X) → nk_N b = X + 4 → nk_S b ≤ nk_S h + 2414 → OX h b X 0 (X + 1) → LK b X → Q (F b)) : Q ((some (nk_al h 14 0 2)).bind fun h17 => (nk_do (f_X6_init h17 (nk_N h)) fun h18 _ => ((nk_pP [18] 0 h18 (some X) (some (nk_N h))).bind F))) := by
  have A1 := Gn_al h 14 0 2 no no
  have k1 : nk_K (nk_al h 14 0 2) (X + 1) = 14 := by rw [← hN]; exact al_K h 14 0 2
  have s1 : nk_S (nk_al h 14 0 2) = nk_S h + 2 := rfl
  have Na1 : nk_N (nk_al h 14 0 2) = X + 2 := by show nk_N h + 1 = _; omega
  generalize nk_al h 14 0 2 = a1 at *
  obtain ⟨b1, eb1, B1, Nb1, Sb1, p10, p11, k2, l2, i2, k3, l3⟩ := lk_init (h := a1) (p := X + 1) k1 (by omega)
  rw [Na1] at p10 p11 k2 l2 i2 k3 l3 Nb1
  have B : Gn h b1 no no := A1.on B1 (fun x z => z.elim) (fun x z => Or.inr (by have z' : x = X + 1 := z; omega))
  have uX := B.2.2.2 X (by omega)
  have k1b : nk_K b1 (X + 1) = 14 := (B1.2.2.2 (X + 1) (by omega)).1.trans k1
  rw [Option.bind_some, hN, do_eq eb1, wr_P [18] 0 _ (by rw [uX.1, kX]; decide)]
  refine hF _ ((B.mono (fun _ z => z.elim) (fun _ z => z.elim)).sP 0 _ (Or.inl rfl)) Nb1 (by show nk_S b1 ≤ _; omega) (ox_at (uX.2.2.1 id) (uX.2.2.2 id)) ⟨k1b, ?_, ?_, k2, l2, i2, k3, l3⟩
  · show nk_u2 (nk_P b1) X 0 _ (X + 1) 0 = _
    rw [nk_u2_ne _ _ _ _ _ (by omega)]; exact p10
  · show nk_u2 (nk_P b1) X 0 _ (X + 1) 1 = _
    rw [nk_u2_ne _ _ _ _ _ (by omega)]; exact p11
theorem st_nw {Q : Option (nk_H × Unit) → Prop} (E : EH h) (kX : nk_K h X = 18) (hN : nk_N h = X + 4) {F : nk_H → Option (nk_H × Unit)} (hF : ∀ b, Gn h b (dX X) (dX X) → nk_N b = X + 7 → nk_S b ≤ nk_S h + 165 → OX h b X 1 (X + 4) → NW b X → Q (F b)) : Q ((some (nk_al h 15 0 2)).bind fun h17 => (nk_do (f_X7_init h17 (nk_N h)) fun h18 _ => ((nk_pP [18] 1 h18 (some X) (some (nk_N h))).bind F))) := by
  have A1 := Gn_al h 15 0 2 no no
  have k1 : nk_K (nk_al h 15 0 2) (X + 4) = 15 := by rw [← hN]; exact al_K h 15 0 2
  have s1 : nk_S (nk_al h 15 0 2) = nk_S h + 2 := rfl
  have Na1 : nk_N (nk_al h 15 0 2) = X + 5 := by show nk_N h + 1 = _; omega
  have E1 := E.gn A1
  generalize nk_al h 15 0 2 = a1 at *
  obtain ⟨b1, eb1, B1, Nb1, Sb1, p10, p11, L5, k3, l3⟩ := nw_init (h := a1) (p := X + 4) E1 k1 (by omega)
  rw [Na1] at p10 p11 L5 k3 l3 Nb1
  have B : Gn h b1 no no := A1.on B1 (fun x z => z.elim) (fun x z => Or.inr (by have z' : x = X + 4 := z; omega))
  have uX := B.2.2.2 X (by omega)
  have k1b : nk_K b1 (X + 4) = 15 := (B1.2.2.2 (X + 4) (by omega)).1.trans k1
  rw [Option.bind_some, hN, do_eq eb1, wr_P [18] 1 _ (by rw [uX.1, kX]; decide)]
  have G9 : Gn b1 (nk_sP b1 X 1 (some (X + 4))) no (dX X) := Gn_sP b1 X 1 (some (X + 4)) no (DP := dX X) (Or.inl rfl)
  refine hF _ ((B.mono (fun _ z => z.elim) (fun _ z => z.elim)).sP 1 _ (Or.inl rfl)) Nb1 (by show nk_S b1 ≤ _; omega) (ox_at (uX.2.2.1 id) (uX.2.2.2 id)) ⟨k1b, ?_, ?_, L5.gn G9 (by omega) id (by show ¬ X + 5 = X; omega), k3, l3⟩
  · show nk_u2 (nk_P b1) X 1 _ (X + 4) 0 = _
    rw [nk_u2_ne _ _ _ _ _ (by omega)]; exact p10
  · show nk_u2 (nk_P b1) X 1 _ (X + 4) 1 = _
    rw [nk_u2_ne _ _ _ _ _ (by omega)]; exact p11
theorem st_nl {Q : Option (nk_H × Unit) → Prop} {n : Nat} (E : EH h) (kX : nk_K h X = 18) (hN : nk_N h = n) (hX : X < n) (k : Nat) {F : nk_H → Option (nk_H × Unit)} (hF : ∀ b, Gn h b (dX X) (dX X) → nk_N b = n + 1 → nk_S b ≤ nk_S h + 3 → OX h b X k n → LZ b n → Q (F b)) : Q ((some (nk_al h 7 0 3)).bind fun h17 => (nk_do (f_Jx4a65c_init_da8c8 h17 (nk_N h)) fun h18 _ => ((nk_pP [18] k h18 (some X) (some (nk_N h))).bind F))) := by
  obtain ⟨b1, eb1, B, Nb1, Sb1, L⟩ := nl_init E
  rw [hN] at L Nb1
  have uX := B.2.2.2 X (by omega)
  rw [Option.bind_some, do_eq eb1, hN, wr_P [18] k _ (by rw [uX.1, kX]; decide)]
  have G9 : Gn b1 (nk_sP b1 X k (some n)) no (dX X) := Gn_sP b1 X k (some n) no (DP := dX X) (Or.inl rfl)
  exact hF _ ((B.mono (fun _ z => z.elim) (fun _ z => z.elim)).sP k _ (Or.inl rfl)) Nb1 (by show nk_S b1 ≤ _; omega) (ox_at (uX.2.2.1 id) (uX.2.2.2 id)) (L.gn G9 (by omega) id (by show ¬ n = X; omega))
theorem st_row {Q : Option (nk_H × Unit) → Prop} (kX : nk_K h X = 18) (hN : nk_N h = X + 8) {F : nk_H → Option (nk_H × Unit)} (hF : ∀ b, Gn h b (dX X) (dX X) → nk_N b = X + 9 → nk_S b ≤ nk_S h + 6 → OX h b X 3 (X + 8) → nk_K b (X + 8) = 3 → nk_L b (X + 8) = 6 → Q (F b)) : Q ((nk_na 3 h 6).bind fun h29 => (nk_pP [18] 3 h29 (some X) (some (nk_N h))).bind F) := by
  have A1 := Gn_al h 3 6 6 no no
  have uX := A1.2.2.2 X (by omega)
  have e1 : nk_na 3 h 6 = some (nk_al h 3 6 6) := na_v 3 (n := 6) (by decide) h
  have k8 : nk_K (nk_al h 3 6 6) (X + 8) = 3 := by rw [← hN]; exact al_K h 3 6 6
  have l8 : nk_L (nk_al h 3 6 6) (X + 8) = 6 := by rw [← hN, nk_L_al, nk_u1_eq]
  have s1 : nk_S (nk_al h 3 6 6) = nk_S h + 6 := rfl
  have Na1 : nk_N (nk_al h 3 6 6) = X + 9 := by show nk_N h + 1 = _; omega
  generalize nk_al h 3 6 6 = a1 at *
  rw [e1, Option.bind_some, hN, wr_P [18] 3 _ (by rw [uX.1, kX]; decide)]
  exact hF _ ((A1.mono (fun _ z => z.elim) (fun _ z => z.elim)).sP 3 _ (Or.inl rfl)) Na1 (by show nk_S a1 ≤ _; omega) (ox_at (uX.2.2.1 id) (uX.2.2.2 id)) k8 l8
theorem st_pI {Q : Option (nk_H × Unit) → Prop} (kX : nk_K h X = 18) (k : Nat) (v : Int32) {F : nk_H → Option (nk_H × Unit)} (hF : ∀ b, Gn h b (dX X) (dX X) → nk_N b = nk_N h → nk_S b = nk_S h → nk_P b = nk_P h → (∀ y, nk_I b X y = if y = k then v else nk_I h X y) → Q (F b)) : Q ((nk_pI [18] k h (some X) v).bind F) := by
  rw [wr_I [18] k v (by rw [kX]; decide)]
  refine hF _ ((Gn.refl h _ _).sI k v (Or.inl rfl)) rfl rfl rfl (fun y => ?_)
  show nk_u2 (nk_I h) X k v X y = _
  by_cases e : y = k
  · rw [e, nk_u2_eq, if_pos rfl]
  · rw [nk_u2_nk _ _ _ _ _ e, if_neg e]
theorem st_dr {Q : Option (nk_H × Unit) → Prop} (kX : nk_K h X = 18) (hN : nk_N h = X + 22) {F : nk_H → Option (nk_H × Unit)} (hF : ∀ b, Gn h b (dX X) (dX X) → nk_N b = X + 23 → nk_S b ≤ nk_S h + 5 → OX h b X 6 (X + 22) → DF b X → Q (F b)) : Q ((some (nk_al h 13 0 5)).bind fun h17 => (nk_do (f_X5_init h17 (nk_N h) 63 10000 100000 100 0) fun h18 _ => ((nk_pP [18] 6 h18 (some X) (some (nk_N h))).bind F))) := by
  have A1 := Gn_al h 13 0 5 no no
  have k1 : nk_K (nk_al h 13 0 5) (X + 22) = 13 := by rw [← hN]; exact al_K h 13 0 5
  have s1 : nk_S (nk_al h 13 0 5) = nk_S h + 5 := rfl
  have Na1 : nk_N (nk_al h 13 0 5) = X + 23 := by show nk_N h + 1 = _; omega
  generalize nk_al h 13 0 5 = a1 at *
  obtain ⟨b1, eb1, S6, o6, i0, i1, i2, i3, i4⟩ := dr_init (h := a1) (p := X + 22) k1
  have B1 : Gn a1 b1 (fun y => y = X + 22) no := SI.gn S6 o6
  have Nb1 : nk_N b1 = X + 23 := by rw [S6.2.2.2.1]; exact Na1
  have Sb1 : nk_S b1 = nk_S a1 := S6.2.2.2.2.1
  have k22 : nk_K b1 (X + 22) = 13 := by rw [S6.1]; exact k1
  have B : Gn h b1 no no := A1.on B1 (fun x z => Or.inr (by have z' : x = X + 22 := z; omega)) (fun x z => z.elim)
  have uX := B.2.2.2 X (by omega)
  rw [Option.bind_some, hN, do_eq eb1, wr_P [18] 6 _ (by rw [uX.1, kX]; decide)]
  exact hF _ ((B.mono (fun _ z => z.elim) (fun _ z => z.elim)).sP 6 _ (Or.inl rfl)) Nb1 (by show nk_S b1 ≤ _; omega) (ox_at (uX.2.2.1 id) (uX.2.2.2 id)) ⟨k22, i0, i1, i2, i3, i4⟩
/-- what the class's constructor leaves -/
def CIQ (h : nk_H) (X : Nat) (o : Option (nk_H × Unit)) : Prop := ∃ g, o = some (g, ()) ∧ Gn h g no no ∧ nk_N g = X + 23 ∧ nk_S g ≤ nk_S h + 3000 ∧ CF g X ∧ (nk_I g X 5 = 0 ∧ nk_I g X 7 = 0 ∧ nk_I g X 8 = 0) ∧ (∀ k, nk_I g (X + 2) k = 0) ∧ (∀ k, k < 6 → nk_I g (X + 9 + 2 * k) 0 = Int32.ofNat k) ∧ (nk_P g X 6 = some (X + 22) ∧ DF g X) ∧ LZ g (X + 5) ∧ LZ g (X + 7) ∧ LZ g (X + 21) ∧ ∀ k, k < 6 → LZ g (X + 10 + 2 * k)
theorem cls_fin {a b c d e f f1 f2 f3 f4 f5 : nk_H} (hX : nk_N h = X) (A : Gn h a no no) (Na : nk_N a = X + 1) (kX : nk_K a X = 18)
    (Gb : Gn a b (dX X) (dX X)) (Nb : nk_N b = X + 4) (ob : OX a b X 0 (X + 1)) (lb : LK b X)
    (Gc : Gn b c (dX X) (dX X)) (Nc : nk_N c = X + 7) (oc : OX b c X 1 (X + 4)) (lc : NW c X)
    (Gd : Gn c d (dX X) (dX X)) (Nd : nk_N d = X + 8) (od : OX c d X 2 (X + 7)) (ld : LZ d (X + 7))
    (Ge : Gn d e (dX X) (dX X)) (Ne : nk_N e = X + 9) (oe : OX d e X 3 (X + 8)) (k8 : nk_K e (X + 8) = 3) (l8 : nk_L e (X + 8) = 6)
    (Gf : Gn e f no (fun y => y = X + 8)) (Nf : nk_N f = X + 21) (CHf : ∀ j, j < 6 → CH1 f X j)
    (G1 : Gn f f1 (dX X) (dX X)) (N1 : nk_N f1 = X + 22) (o1 : OX f f1 X 4 (X + 21)) (l1 : LZ f1 (X + 21))
    (G2 : Gn f1 f2 (dX X) (dX X)) (N2 : nk_N f2 = nk_N f1) (P2 : nk_P f2 = nk_P f1) (I2 : ∀ y, nk_I f2 X y = if y = 5 then 0 else nk_I f1 X y)
    (G3 : Gn f2 f3 (dX X) (dX X)) (N3 : nk_N f3 = X + 23) (o3 : OX f2 f3 X 6 (X + 22)) (d3 : DF f3 X)
    (G4 : Gn f3 f4 (dX X) (dX X)) (N4 : nk_N f4 = nk_N f3) (P4 : nk_P f4 = nk_P f3) (I4 : ∀ y, nk_I f4 X y = if y = 7 then 0 else nk_I f3 X y)
    (G5 : Gn f4 f5 (dX X) (dX X)) (N5 : nk_N f5 = nk_N f4) (P5 : nk_P f5 = nk_P f4) (I5 : ∀ y, nk_I f5 X y = if y = 8 then 0 else nk_I f4 X y)
    (hS : nk_S f5 ≤ nk_S h + 3000) : CIQ h X (some (f5, ())) := by
  have D : ∀ x, X < x → ¬ dX X x := fun x hx z => by
    have z' : x = X := z
    omega
  have D8 : ∀ x, X < x → x ≠ X + 8 → ¬ (x = X ∨ x = X + 8) := fun x hx h8 z => by omega
  let E2 : Nat → Prop := fun x => x = X ∨ x = X + 8
  have G35 : Gn f3 f5 (dX X) (dX X) := G4.trans G5
  have G15 : Gn f1 f5 (dX X) (dX X) := (G2.trans G3).trans G35
  have Gf5 : Gn f f5 (dX X) (dX X) := G1.trans G15
  have Ge5 : Gn e f5 (dX X) E2 := (Gf.mono (DI' := dX X) (DP' := E2) (fun _ z => z.elim) (fun x z => Or.inr z)).trans (Gf5.mono (fun _ z => z) (fun _ z => Or.inl z))
  have Gd5 : Gn d f5 (dX X) E2 := (Ge.mono (DI' := dX X) (DP' := E2) (fun _ z => z) (fun x z => Or.inl z)).trans Ge5
  have Gc5 : Gn c f5 (dX X) E2 := (Gd.mono (DI' := dX X) (DP' := E2) (fun _ z => z) (fun x z => Or.inl z)).trans Gd5
  have Gb5 : Gn b f5 (dX X) E2 := (Gc.mono (DI' := dX X) (DP' := E2) (fun _ z => z) (fun x z => Or.inl z)).trans Gc5
  have Ga5 : Gn a f5 (dX X) E2 := (Gb.mono (DI' := dX X) (DP' := E2) (fun _ z => z) (fun x z => Or.inl z)).trans Gb5
  have Gh5 : Gn h f5 no no := A.on Ga5 (fun x z => Or.inr (by have z' : x = X := z; omega)) (fun x z => Or.inr (by rcases z with z | z <;> omega))
  have pf : nk_P f X = nk_P e X := (Gf.2.2.2 X (by omega)).2.2.1 (by omega)
  have if9 : nk_I f1 X = nk_I f X := o1.2.2
  have u8 := Ge5.2.2.2 (X + 8) (by omega)
  have v8 := Gf5.2.2.2 (X + 8) (by omega)
  have CH5 : ∀ j, j < 6 → CH1 f5 X j := fun j hj => (CHf j hj).gn Gf5 (by omega) (by rw [v8.2.2.1 (D _ (by omega))]) (D _ (by omega)) (D _ (by omega)) (D _ (by omega)) (D _ (by omega))
  have L5 : LK f5 X := lb.gn Gb5 (by omega) (D8 _ (by omega) (by omega)) (D _ (by omega))
  have M5 : NW f5 X := lc.gn Gc5 (by omega) (D8 _ (by omega) (by omega)) (D _ (by omega)) (D8 _ (by omega) (by omega))
  have q35 : nk_P f5 X = nk_P f3 X := by rw [P5, P4]
  have q6 : nk_P f5 X 6 = some (X + 22) := by rw [q35]; exact o3.1
  have q4 : nk_P f5 X 4 = some (X + 21) := by rw [q35, o3.2.1 4 (by decide), P2]; exact o1.1
  have qe : ∀ y, y ≠ 6 → y ≠ 4 → nk_P f5 X y = nk_P e X y := fun y h6 h4 => by rw [q35, o3.2.1 y h6, P2, o1.2.1 y h4, pf]
  have q3 : nk_P f5 X 3 = some (X + 8) := by rw [qe 3 (by decide) (by decide)]; exact oe.1
  have q2 : nk_P f5 X 2 = some (X + 7) := by rw [qe 2 (by decide) (by decide), oe.2.1 2 (by decide)]; exact od.1
  have q1 : nk_P f5 X 1 = some (X + 4) := by rw [qe 1 (by decide) (by decide), oe.2.1 1 (by decide), od.2.1 1 (by decide)]; exact oc.1
  have q0 : nk_P f5 X 0 = some (X + 1) := by rw [qe 0 (by decide) (by decide), oe.2.1 0 (by decide), od.2.1 0 (by decide), oc.2.1 0 (by decide)]; exact ob.1
  have w22 := G35.2.2.2 (X + 22) (by omega)
  obtain ⟨d0, d1, d2, d4, d5, d6⟩ := d3
  have iw : ∀ y, nk_I f5 (X + 22) y = nk_I f3 (X + 22) y := fun y => by rw [w22.2.2.2 (D _ (by omega))]
  obtain ⟨m1, m2, m3, m4, m5, m6, m7, m8⟩ := L5
  obtain ⟨n1, n2, n3, n4, n5, n6⟩ := M5
  refine ⟨f5, rfl, Gh5, by omega, hS, ⟨?_, q0, q1, q2, q3, q4, ⟨m1, m2, m3, m4, m5, m7, m8⟩, ⟨n1, n2, n3, n5, n6⟩, ⟨u8.1.trans k8, u8.2.1.trans l8⟩, fun k hk => ⟨(CH5 k hk).1, (CH5 k hk).2.1, (CH5 k hk).2.2.1⟩⟩, ⟨?_, ?_, ?_⟩, m6, fun k hk => (CH5 k hk).2.2.2.1, ⟨q6, w22.1.trans d0, by rw [iw]; exact d1, by rw [iw]; exact d2, by rw [iw]; exact d4, by rw [iw]; exact d5, by rw [iw]; exact d6⟩, n4, ld.gn Gd5 (by omega) (D _ (by omega)) (D8 _ (by omega) (by omega)), l1.gn G15 (by omega) (D _ (by omega)) (D _ (by omega)), fun k hk => (CH5 k hk).2.2.2.2⟩
  · exact (Ga5.2.2.2 X (by omega)).1.trans kX
  · rw [I5, if_neg (by decide), I4, if_neg (by decide), o3.2.2, I2, if_pos rfl]
  · rw [I5, if_neg (by decide), I4, if_pos rfl]
  · rw [I5, if_pos rfl]
theorem kX_gn {DI DP : Nat → Prop} (k : nk_K h X = 18) (G : Gn h g DI DP) (hN : X < nk_N h) : nk_K g X = 18 := (G.2.2.2 X hN).1.trans k
/-- the class's object is made -/
theorem cls_init (E : EH h) (hX : nk_N h = X) : CIQ h X (f_X11_init (nk_al h 18 0 9) X) := by
  have A := Gn_al h 18 0 9 no no
  have Na : nk_N (nk_al h 18 0 9) = X + 1 := by show nk_N h + 1 = _; omega
  have Sa : nk_S (nk_al h 18 0 9) = nk_S h + 9 := rfl
  have kX : nk_K (nk_al h 18 0 9) X = 18 := by rw [← hX]; exact al_K h 18 0 9
  have Ea := E.gn A
  generalize nk_al h 18 0 9 = a at *
  unfold f_X11_init
  refine st_lk (Q := CIQ h X) kX Na fun b Gb Nb Sb ob lb => ?_
  have kb := kX_gn kX Gb (by omega)
  have Eb := Ea.gn Gb
  refine st_nw (Q := CIQ h X) Eb kb Nb fun c Gc Nc Sc oc lc => ?_
  have kc := kX_gn kb Gc (by omega)
  have Ec := Eb.gn Gc
  refine st_nl (Q := CIQ h X) Ec kc Nc (by omega) 2 fun d Gd Nd Sd od ld => ?_
  have kd := kX_gn kc Gd (by omega)
  have Ed := Ec.gn Gd
  refine st_row (Q := CIQ h X) kd Nd fun e Ge Ne Se oe k8 l8 => ?_
  have ke := kX_gn kd Ge (by omega)
  have Ee := Ed.gn Ge
  obtain ⟨f, ef, Gf, Nf, Sf, CHf⟩ := chs_init (X := X) (fun _ _ _ => none) 4096 0 e Ee ke oe.1 k8 l8 Ne (fun j hj => by omega) (by omega) (by omega)
  have ef' : f_X11_init_b48 4096 e X 0 = f_X11_init_c48 (fun _ _ _ => none) f X (Int32.ofNat 6) := ef
  have kf := kX_gn ke Gf (by omega)
  have Ef := Ee.gn Gf
  rw [ef']
  unfold f_X11_init_c48
  rw [if_pos (show (6 : Int32) ≤ Int32.ofNat 6 by decide)]
  refine st_nl (Q := CIQ h X) Ef kf Nf (by omega) 4 fun f1 G1 N1 S1 o1 l1 => ?_
  have k1 := kX_gn kf G1 (by omega)
  refine st_pI (Q := CIQ h X) k1 5 0 fun f2 G2 N2 S2 P2 I2 => ?_
  have k2 := kX_gn k1 G2 (by omega)
  refine st_dr (Q := CIQ h X) k2 (by omega) fun f3 G3 N3 S3 o3 d3 => ?_
  have k3 := kX_gn k2 G3 (by omega)
  refine st_pI (Q := CIQ h X) k3 7 0 fun f4 G4 N4 S4 P4 I4 => ?_
  have k4 := kX_gn k3 G4 (by omega)
  refine st_pI (Q := CIQ h X) k4 8 0 fun f5 G5 N5 S5 P5 I5 => ?_
  exact cls_fin hX A Na kX Gb Nb ob lb Gc Nc oc lc Gd Nd od ld Ge Ne oe k8 l8 Gf Nf CHf G1 N1 o1 l1 G2 N2 P2 I2 G3 N3 o3 d3 G4 N4 P4 I4 G5 N5 P5 I5 (by omega)
end CI
