section MP
variable {h h' g : nk_H} {X n w a c hr : Nat} {pa pa' cp : Nat → Nat} {s s' m : Nat → Nat → Int32}
/-- places with one more -/
def pax (pa : Nat → Nat) (n p : Nat) : Nat → Nat := fun j => if j = n then p else pa j
theorem pax_lt (pa : Nat → Nat) (n p : Nat) : ∀ j, j < n → pax pa n p j = pa j := fun j hj => if_neg (by omega)
theorem pax_n (pa : Nat → Nat) (n p : Nat) : pax pa n p n = p := if_pos rfl
/-- the acts of chains are there -/
theorem ch_lt (hI : Inv s n w a c hr) {k r : Nat} (hk : k < 6) (hr9 : r < sN s 30 k) : sN s 31 (160 * k + r) < a ∧ sN s 32 (sN s 31 (160 * k + r)) < n ∧ r < 160 := by
  have hn := hI.1.2.1
  have ha := hI.1.2.2.2.2.2.2.1
  obtain ⟨z, e1, e2, e3⟩ := hI.2.2.2.2.2.1.1 k hk
  rw [sN_of e1 (by omega)] at hr9
  obtain ⟨e, he, ee⟩ := e3 r hr9
  rw [sN_of ee (by omega)]
  exact ⟨he, ((rg_pw hI).2.2.1 e he).1, by omega⟩
/-- a revocation or a deputation is published -/
theorem pub_12 (W : WR h X n w a c hr pa cp s m) {p k : Nat} (hp : p = nk_N h) (G0 : Gn h g no no) (hNg : nk_N g = nk_N h + 2) (hSg : nk_S g ≤ nk_S h + 100) (kp : nk_K g p = pk (s' 4 n)) (p5 : nk_P g p 5 = some (p + 1)) (kq : nk_K g (p + 1) = 1) (lq : nk_L g (p + 1) = 6) (iq : ∀ j, j < 6 → nk_I g (p + 1) j = -1) (i3 : nk_I g p 3 = 0) (hn : n < 160) (hk : k < 6)
    (F : MkF s s' n k (Int32.ofNat hr)) (f3 : s' 3 0 = Int32.ofNat (n + 1)) (eO : ∀ k, 0 < k → (k < 3 ∨ 12 ≤ k) → s' k = s k) (nR : s' 4 n = 1 → nk_P g p 6 = some (pw s pa (sN s' 7 n))) (nD : s' 4 n = 2 → nk_I g p 6 = s' 7 n ∧ nk_I g p 7 = s' 8 n ∧ nk_I g p 8 = s' 9 n)
    (n4 : (s' 4 n = 1 ∧ ∃ q, q < w ∧ s' 7 n = Int32.ofNat q) ∨ (s' 4 n = 2 ∧ ∃ k, k < 6 ∧ s' 7 n = Int32.ofNat k)) :
    ∃ h', f_X7_publish g (X + 4) (some p) (Int32.ofNat k) (s 1 0) = some (h', Int32.ofNat n) ∧ WR h' X (n + 1) w a c hr (pax pa n p) cp s' m ∧ nk_N h' ≤ nk_N h + 3 ∧ nk_S h' ≤ nk_S h + 350 := by
  have hN := W.N
  have hb := W.b
  have hI := W.I
  have s10 : s 1 0 = Int32.ofNat hr := hI.1.2.2.2.2.2.2.2.2.2.1
  have CLh := W.1.2.2.2.2.2.1
  have LLh : LL h X := CLh.ll hN
  have LLg : LL g X := LLh.gn G0 (fun _ _ => id)
  have OWg : OW g X := W.2.1.gn2 LLh G0 (fun _ _ => id)
  have CFg : CF g X := W.1.1.1.gn G0 hN (fun _ _ _ => id)
  obtain ⟨l1, l2, l3, l4⟩ := CLh
  have l1g := l1.gn G0 (by omega) id id (fun _ _ => id)
  have l2g := l2.gn G0 (by omega) id id (fun _ _ => id)
  have l4g := l4.gn G0 (by omega) id id (fun _ _ => id)
  have kpp : nk_K g p ∈ [8, 12, 16, 17] := by
    rw [kp]
    rcases n4 with ⟨e, -⟩ | ⟨e, -⟩ <;> rw [e] <;> decide
  obtain ⟨h', e1, G1, L', bN, bS, fr, Ip, Iq⟩ := pc_publish (p := p) (q := p + 1) (pa' := pax pa n p) CFg.2.2.2.2.2.2.2.1.1 CFg.2.2.2.2.2.2.2.1.2.1 l1g (by omega) (by omega) (by omega) (by omega) (by omega) kpp p5 kq lq hn hk (s 1 0) (pax_lt pa n p) (pax_n pa n p)
  have G : Gn h h' (fun x => x = X + 5) (dL g (X + 5)) := (G0.mono (fun _ z => z.elim) (fun _ z => z.elim)).on G1 (fun x z => by
    rcases z with z | z | z
    · exact Or.inl z
    · exact Or.inr (by omega)
    · exact Or.inr (by omega)) (fun x z => Or.inl z)
  have hp1 : nk_P h' p = nk_P g p := (G1.2.2.2 p (by omega)).2.2.1 (fun z => by
    rcases z with z | ⟨-, z⟩
    · omega
    · rw [z] at kpp; exact absurd kpp (by decide))
  have hk1 : nk_K h' p = nk_K g p := (G1.2.2.2 p (by omega)).1
  have hk2 : nk_K h' (p + 1) = 1 := (G1.2.2.2 (p + 1) (by omega)).1.trans kq
  have hl2 : nk_L h' (p + 1) = 6 := (G1.2.2.2 (p + 1) (by omega)).2.1.trans lq
  have isL5 : isL X (X + 5) := Or.inl rfl
  have kl : ∀ k, k < 6 → isL X (X + 10 + 2 * k) := fun k hk => Or.inr (Or.inr (Or.inr ⟨k, hk, rfl⟩))
  have d5 : ∀ l, isL X l → l ≠ X + 5 → ¬ (l = X + 5 ∨ l = p ∨ l = p + 1) := fun l hl hne => by
    have := (LLh l hl).2.1
    omega
  obtain ⟨r1, r2, r3, r4⟩ := rg_pw hI
  have epw : ∀ q, q < w → pw s' (pax pa n p) q = pw s pa q := fun q hq => by
    have e9 : sN s' 13 q = sN s 13 q := by unfold sN; rw [eO 13 (by decide) (by decide)]
    unfold pw
    rw [e9]; exact pax_lt pa n p _ (r1 q hq)
  have h5 : I5 s' a := hI.2.2.2.2.2.1.cg (fun k hk => eO k (by omega) (by omega))
  have h6 : I6 s' c := hI.2.2.2.2.2.2.1.cg (fun k hk => eO k (by omega) (by omega))
  have h9 : I9 s' a := hI.2.2.2.2.2.2.2.2.2.cg (fun k hk => eO k (by omega) (by omega))
  have hI' : Inv s' (n + 1) w a c hr := hI.made hn hk F f3 (by rw [eO 12 (by decide) (by decide)]; exact hI.1.2.2.1) (Nat.le_refl _) hb.2.1 (by have := hI.1.2.2.2.2.1; omega) (by rw [eO 29 (by decide) (by decide)]; exact hI.1.2.2.2.2.2.1) (Nat.le_refl _) (by have := hI.1.2.2.2.2.2.2.1; omega)
    (fun k hk => eO k (by omega) (by omega)) (fun q hq k hk1 hk2 => by rw [eO k (by omega) (by omega)]) (fun x hx => ⟨by rw [eO 32 (by decide) (by decide)], by rw [eO 34 (by decide) (by decide)], by rw [eO 35 (by decide) (by decide)], by rw [eO 36 (by decide) (by decide)], fun i _ => by rw [eO 33 (by decide) (by decide)]⟩)
    (by rcases n4 with z | z
        · exact Or.inr (Or.inl z)
        · exact Or.inr (Or.inr (Or.inl z))) (fun q q1 q2 => by omega) (fun q q1 q2 => by omega) h5 h6 h9
  refine ⟨h', e1, ?_, by omega, by omega⟩
  refine W.made G (fun x _ z => Or.inl (Or.inl z)) (fun x hx z => ?_) (p := p) (by omega) (by have := G1.1; omega) (pax_lt pa n p) (pax_n pa n p) (fun k hk => eO k (by omega) (by omega)) F.2.2.2.2.2 (fun j hj k hk => F.2.2.2.2.1 j (by omega) (by omega) k hk) (fun q hq k hk1 hk2 => by rw [eO k (by omega) (by omega)])
    (fun x hx => ⟨by rw [eO 32 (by decide) (by decide)], by rw [eO 34 (by decide) (by decide)], by rw [eO 35 (by decide) (by decide)], by rw [eO 36 (by decide) (by decide)], fun i _ => by rw [eO 33 (by decide) (by decide)]⟩) ⟨L', ?_, fun k hk => ?_, ?_⟩ (OWg.add LLg isL5 G1 fr) ⟨by rw [hk1]; exact kp, by rw [hp1]; exact p5, hk2, hl2⟩
    (PI1.new (t := s 1 0) hk (by rw [s10]; exact ia_m1 (by omega)) i3 Ip (fun j hj => by rw [Iq]; show (if j = k then s 1 0 else nk_I g (p + 1) j) = _; rw [iq j hj]) F.1 (by rw [F.2.1, s10]) (fun k' hk' => by rw [F.2.2.1 k' hk', s10]) (F.2.2.2.1)) id (fun e => ?_) (fun e => ?_) id id (by rw [F.2.1]) (F.rt hb.2.2.2.2 hk) hI'
  · rcases z with z | ⟨z1, z2⟩
    · exact Or.inl (Or.inl z)
    · exact Or.inr (by rw [← (G0.2.2.2 x hx).1]; exact z2)
  · exact LSq.el (l2g.keep OWg LLg isL5 (Or.inr (Or.inl rfl)) (by omega) G1 (d5 _ (Or.inr (Or.inl rfl)) (by omega))) epw
  · have e9 : sN s' 30 k = sN s 30 k := by unfold sN; rw [eO 30 (by decide) (by decide)]
    rw [e9]
    refine LSq.el (((l3 k hk).gn G0 (by omega) id id (fun _ _ => id)).keep OWg LLg isL5 (kl k hk) (by omega) G1 (d5 _ (kl k hk) (by omega))) (fun r hr9 => ?_)
    have e8 : sN s' 31 (160 * k + r) = sN s 31 (160 * k + r) := by unfold sN; rw [eO 31 (by decide) (by decide)]
    have e7 : ∀ x, sN s' 32 x = sN s 32 x := fun x => by unfold sN; rw [eO 32 (by decide) (by decide)]
    unfold ac
    rw [e8, e7]
    exact pax_lt pa n p _ (ch_lt hI hk hr9).2.1
  · exact l4g.keep OWg LLg isL5 (Or.inr (Or.inr (Or.inl rfl))) (by omega) G1 (d5 _ (Or.inr (Or.inr (Or.inl rfl))) (by omega))
  · rw [hp1, nR e]
    have : sN s' 7 n < w := by
      rcases n4 with ⟨-, q, hq, eq⟩ | ⟨e2, -⟩
      · rw [sN_of eq (by omega)]; exact hq
      · rw [e2] at e; exact absurd e (by decide)
    rw [epw _ this]
  · rw [Ip]
    exact nD e
end MP
