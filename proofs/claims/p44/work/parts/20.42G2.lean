/-! ===== a new piece ===== -/
def SQ (q : Nat) (h h' : nk_H) : Prop := nk_K h' = nk_K h ∧ nk_P h' = nk_P h ∧ nk_L h' = nk_L h ∧ nk_N h' = nk_N h ∧ nk_S h' = nk_S h ∧ nk_E h' = nk_E h ∧ nk_M h' = nk_M h ∧ ∀ x, x ≠ q → nk_I h' x = nk_I h x
theorem SQ.refl (q : Nat) (h : nk_H) : SQ q h h := ⟨rfl, rfl, rfl, rfl, rfl, rfl, rfl, fun _ _ => rfl⟩
theorem SQ.trans {q : Nat} {h h1 h2 : nk_H} (a : SQ q h h1) (b : SQ q h1 h2) : SQ q h h2 := by
  obtain ⟨a1, a2, a3, a4, a5, a6, a7, a8⟩ := a
  obtain ⟨b1, b2, b3, b4, b5, b6, b7, b8⟩ := b
  exact ⟨b1.trans a1, b2.trans a2, b3.trans a3, b4.trans a4, b5.trans a5, b6.trans a6, b7.trans a7, fun x hx => (b8 x hx).trans (a8 x hx)⟩
theorem SQ_sI (q : Nat) (h : nk_H) (j : Nat) (v : Int32) : SQ q h (nk_sI h q j v) := ⟨rfl, rfl, rfl, rfl, rfl, rfl, rfl, fun x hx => by funext y; exact nk_u2_ne _ _ _ _ y hx⟩
theorem SQ.gn {q : Nat} {h h' : nk_H} (a : SQ q h h') (DP : Nat → Prop) : Gn h h' (fun y => y = q) DP := by
  obtain ⟨a1, a2, a3, a4, a5, a6, a7, a8⟩ := a
  exact ⟨by rw [a4]; exact Nat.le_refl _, a6, a7, fun x _ => ⟨by rw [a1], by rw [a3], fun _ => by rw [a2], fun z => a8 x z⟩⟩
section PC
variable {h g : nk_H} {p q : Nat}
theorem fill6 (v : Int32) : ∀ (k i : Nat) (h : nk_H), i ≤ 6 → 6 - i < k → nk_K h q = 1 → nk_L h q = 6 → (∀ j, j < i → nk_I h q j = v) → ∃ h', f_J7_fill_53178_b5 k h (some q) v (Int32.ofNat i) (Int32.ofNat 6) = some (h', ()) ∧ SQ q h h' ∧ ∀ j, j < 6 → nk_I h' q j = v := by
  intro k
  induction k with
  | zero => intro i h _ h9; omega
  | succ k ih =>
    intro i h hi hk k1 k2 hj
    show ∃ h', f_J7_fill_53178_c5 (f_J7_fill_53178_b5 k) h (some q) v (Int32.ofNat i) (Int32.ofNat 6) = some (h', ()) ∧ _
    unfold f_J7_fill_53178_c5
    by_cases h1 : 6 ≤ i
    · rw [if_pos ((ia_le (by omega) (by omega)).mpr h1)]
      exact ⟨h, rfl, SQ.refl q h, fun j hj9 => hj j (by omega)⟩
    · rw [if_neg (fun e => h1 ((ia_le (by omega) (by omega)).mp e)), wr_a v k1 (by omega) (by omega), ia_1]
      obtain ⟨h', e1, e2, e3⟩ := ih (i + 1) (nk_sI h q i v) (by omega) (by omega) k1 k2 (fun j hj9 => by
        rw [nk_I_sI]
        by_cases e : j = i
        · rw [e, nk_u2_eq]
        · rw [nk_u2_nk _ _ _ _ _ e]; exact hj j (by omega))
      exact ⟨h', e1, (SQ_sI q h i v).trans e2, e3⟩
/-- a piece's hours of coming are made -/
theorem pc_init (hk : nk_K h p ∈ [8, 12, 16, 17]) (hp : p < nk_N h) : ∃ h', f_X8_init h p = some (h', ()) ∧ Gn h h' no (fun y => y = p) ∧ nk_P h' p = (fun j => if j = 5 then some (nk_N h) else nk_P h p j) ∧ nk_K h' (nk_N h) = 1 ∧ nk_L h' (nk_N h) = 6 ∧ (∀ j, j < 6 → nk_I h' (nk_N h) j = -1) ∧ nk_N h' = nk_N h + 1 ∧ nk_S h' = nk_S h + 6 := by
  have hpN : p ≠ nk_N h := by omega
  have e1 : nk_na 1 h 6 = some (nk_al h 1 6 6) := rfl
  have k2 : nk_K (nk_al h 1 6 6) p ∈ [8, 12, 16, 17] := by rw [nk_K_al, nk_u1_ne _ _ _ hpN]; exact hk
  have kq : nk_K (nk_al h 1 6 6) (nk_N h) = 1 := al_K h 1 6 6
  have lq : nk_L (nk_al h 1 6 6) (nk_N h) = 6 := by rw [nk_L_al, nk_u1_eq]
  obtain ⟨h', e2, S, e3⟩ := fill6 (q := nk_N h) (-1) 4096 0 (nk_sP (nk_al h 1 6 6) p 5 (some (nk_N h))) (by omega) (by omega) kq lq (fun j hj => by omega)
  have G : Gn h h' no (fun y => y = p) := (((Gn.refl h no (fun y => y = p)).al 1 6 6).sP 5 (some (nk_N h)) (Or.inl rfl)).on (S.gn no) (fun x z => Or.inr (by rw [z]; exact Nat.le_refl _)) (fun x z => z.elim)
  obtain ⟨a1, a2, a3, a4, a5, a6, a7, a8⟩ := S
  refine ⟨h', ?_, G, ?_, by rw [a1]; exact kq, by rw [a3]; exact lq, e3, by rw [a4]; rfl, by rw [a5]; rfl⟩
  · unfold f_X8_init f_J7_fill_53178
    have e4 : nk_len (nk_sP (nk_al h 1 6 6) p 5 (some (nk_N h))) (some (nk_N h)) = some (Int32.ofNat 6) := by
      simp [nk_len, nk_K_sP, nk_L_sP, kq, lq]
    rw [e1, Option.bind_some, wr_P _ 5 _ k2, rd_P (h := nk_sP (nk_al h 1 6 6) p 5 (some (nk_N h))) (b := some (nk_N h)) _ k2 (by rw [nk_P_sP, nk_u2_eq]), e4, Option.bind_some]
    show nk_do (f_J7_fill_53178_b5 4096 (nk_sP (nk_al h 1 6 6) p 5 (some (nk_N h))) (some (nk_N h)) (-1) (Int32.ofNat 0) (Int32.ofNat 6)) _ = _
    rw [do_eq e2]
  · rw [a2]
    funext j
    rw [nk_P_sP]
    by_cases z : j = 5
    · rw [z, nk_u2_eq, if_pos rfl]
    · rw [nk_u2_nk _ _ _ _ _ z, if_neg z, nk_P_al, nk_u1_ne _ _ _ hpN]
/-- what a piece's ints are behind its publishing -/
def pubI (f : Nat → Int32) (n k : Nat) (t : Int32) : Nat → Int32 := fun j => if j = 0 then Int32.ofNat n else if j = 1 then Int32.ofNat k else if j = 2 then t else if j = 3 then f 3 ||| (1 <<< (Int32.ofNat k &&& 31)) else if j = 4 then 1 <<< (Int32.ofNat k &&& 31) else f j
theorem pc_publish {X n : Nat} {pa pa' : Nat → Nat} (k15 : nk_K g (X + 4) = 15) (pl : nk_P g (X + 4) 0 = some (X + 5)) (L : LSq g (X + 5) n pa) (hN : X + 57 ≤ nk_N g) (hp : X + 57 ≤ p) (hpN : p < nk_N g) (hq : X + 57 ≤ q) (hqN : q < nk_N g) (kp : nk_K g p ∈ [8, 12, 16, 17]) (p5 : nk_P g p 5 = some q) (kq : nk_K g q = 1) (lq : nk_L g q = 6) (hn : n < 160) {k : Nat} (hk : k < 6) (t : Int32) (e1 : ∀ j, j < n → pa' j = pa j) (e2 : pa' n = p) :
    ∃ h', f_X7_publish g (X + 4) (some p) (Int32.ofNat k) t = some (h', Int32.ofNat n) ∧ Gn g h' (fun y => y = X + 5 ∨ y = p ∨ y = q) (dL g (X + 5)) ∧ LSq h' (X + 5) (n + 1) pa' ∧ nk_N h' ≤ nk_N g + 1 ∧ nk_S h' ≤ nk_S g + 250 ∧ (∀ e', nk_P h' (X + 5) 1 = some e' → nk_P g (X + 5) 1 = some e' ∨ e' = nk_N g) ∧ nk_I h' p = pubI (nk_I g p) n k t ∧ nk_I h' q = (fun j => if j = k then t else nk_I g q j) := by
  have hpq : p ≠ q := fun e => by rw [e, kq] at kp; exact absurd kp (by decide)
  have kp7 : 7 ≤ nk_K g p ∧ nk_K g p ≤ 19 := by
    simp only [List.mem_cons, List.not_mem_nil, or_false] at kp
    omega
  let g1 := nk_sI g p 0 (Int32.ofNat n)
  let g2 := nk_sI g1 p 1 (Int32.ofNat k)
  let g3 := nk_sI g2 p 2 t
  let g4 := nk_sI g3 q k t
  let g5 := nk_sI g4 p 3 (nk_I g p 3 ||| (1 <<< (Int32.ofNat k &&& 31)))
  let g6 := nk_sI g5 p 4 (1 <<< (Int32.ofNat k &&& 31))
  have G6 : Gn g g6 (fun y => y = X + 5 ∨ y = p ∨ y = q) no := (((((((Gn.refl g (fun y => y = X + 5 ∨ y = p ∨ y = q) no).sI 0 _ (Or.inl (Or.inr (Or.inl rfl)))).sI 1 _ (Or.inl (Or.inr (Or.inl rfl)))).sI 2 _ (Or.inl (Or.inr (Or.inl rfl)))).sI k _ (Or.inl (Or.inr (Or.inr rfl)))).sI 3 _ (Or.inl (Or.inr (Or.inl rfl)))).sI 4 _ (Or.inl (Or.inr (Or.inl rfl))))
  have G6' : Gn g g6 (fun y => y = p ∨ y = q) no := (((((((Gn.refl g (fun y => y = p ∨ y = q) no).sI 0 _ (Or.inl (Or.inl rfl))).sI 1 _ (Or.inl (Or.inl rfl))).sI 2 _ (Or.inl (Or.inl rfl))).sI k _ (Or.inl (Or.inr rfl))).sI 3 _ (Or.inl (Or.inl rfl))).sI 4 _ (Or.inl (Or.inl rfl)))
  have L6 : LSq g6 (X + 5) n pa := L.gn G6' (by omega) (by omega) id (fun _ _ => id)
  obtain ⟨h', a1, a2, a3, a4, a5, a6⟩ := ls_add L6 (show X + 5 < nk_N g by omega) hn (x := p) hpN kp7 e1 e2
  have Ip : nk_I h' p = nk_I g6 p := (a2.2.2.2 p hpN).2.2.2 (by omega)
  have Iq : nk_I h' q = nk_I g6 q := (a2.2.2.2 q hqN).2.2.2 (by omega)
  have Kp : nk_K h' p = nk_K g p := (a2.2.2.2 p hpN).1
  have e6p : nk_I g6 p = pubI (nk_I g p) n k t := by
    funext j
    unfold pubI
    show nk_u2 (nk_u2 (nk_u2 (nk_u2 (nk_u2 (nk_u2 (nk_I g) p 0 _) p 1 _) p 2 _) q k _) p 3 _) p 4 _ p j = _
    unfold nk_u2
    by_cases z0 : j = 0
    · simp [z0, hpq]
    · by_cases z1 : j = 1
      · simp [z1, hpq]
      · by_cases z2 : j = 2
        · simp [z2, hpq]
        · by_cases z3 : j = 3
          · simp [z3]
          · by_cases z4 : j = 4
            · simp [z4]
            · simp [z0, z1, z2, z3, z4, hpq]
  have e6q : nk_I g6 q = (fun j => if j = k then t else nk_I g q j) := by
    funext j
    show nk_u2 (nk_u2 (nk_u2 (nk_u2 (nk_u2 (nk_u2 (nk_I g) p 0 _) p 1 _) p 2 _) q k _) p 3 _) p 4 _ q j = _
    unfold nk_u2
    have hqp : q ≠ p := Ne.symm hpq
    by_cases z : j = k <;> simp [z, hqp]
  have i43 : nk_I g4 p 3 = nk_I g p 3 := by
    show nk_u2 (nk_u2 (nk_u2 (nk_u2 (nk_I g) p 0 _) p 1 _) p 2 _) q k _ p 3 = _
    rw [nk_u2_ne _ _ _ _ _ hpq, nk_u2_nk _ _ _ _ _ (by decide), nk_u2_nk _ _ _ _ _ (by decide), nk_u2_nk _ _ _ _ _ (by decide)]
  have k7 : nk_K g (X + 5) ∈ [7] := by rw [L.1]; decide
  refine ⟨h', ?_, (G6.mono (fun _ => id) (fun _ z => z.elim)).on a2 (fun x z => Or.inl (Or.inl z)) (fun x z => Or.inl z), a3, a4, a5, a6, Ip.trans e6p, Iq.trans e6q⟩
  unfold f_X7_publish f_X8_comeTo
  have ebit : ∀ {α : Type} (h : nk_H) (k : Nat) (K : nk_H → Int32 → Option (nk_H × α)), nk_do (f_X11_bit h (Int32.ofNat k)) K = K h (1 <<< (Int32.ofNat k &&& 31)) := fun h k K => rfl
  have k15' : nk_K g (X + 4) ∈ [15] := by rw [k15]; decide
  rw [rd_P [15] k15' pl, rd_r [7] k7, do_eq (ls_size L), wr_I _ 0 _ kp, wr_I (h := g1) _ 1 _ kp, wr_I (h := g2) _ 2 _ kp, rd_r (h := g3) _ kp, rd_P (h := g3) _ kp p5, wr_a (h := g3) t kq (by show k < nk_L g q; omega) (by omega), rd_I (h := g4) _ kp i43, ebit, wr_I (h := g4) _ 3 _ kp, do_s, ebit, wr_I (h := g5) _ 4 _ kp, rd_P (h := g6) [15] k15' pl, rd_r (h := g6) [7] k7, do_eq a1, rd_I (h := h') (v := Int32.ofNat n) _ (by rw [Kp]; exact kp) (by rw [Ip, e6p]; rfl)]
end PC
