/-! ===== a list grows by one ===== -/
theorem sh1 : ∀ L, L < 256 → (Int32.ofNat L >>> ((1 : Int32) &&& 31)) = Int32.ofNat (L / 2) := by decide +kernel
theorem do_s {α β : Type} (h : nk_H) (v : β) (K : nk_H → β → Option (nk_H × α)) : nk_do (some (h, v)) K = K h v := rfl
section LG
variable {α : Type} {h : nk_H} {l n : Nat} {el : Nat → Nat}
theorem ls_wP {e i x : Nat} (hk : nk_K h e = 4) (hi : i < nk_L h e) (hi2 : i < 2147483648) (hx : 7 ≤ nk_K h x ∧ nk_K h x ≤ 19) (K : nk_H → Option (nk_H × α)) : (nk_wP 4 h (some e) (Int32.ofNat i) (some x)).bind K = K (nk_sP h e i (some x)) := by
  simp [nk_wP, nk_okv, hk, ia_n0 hi2, ia_nn hi2, hi, hx.1, hx.2]
/-- the length that a list gets -/
def gl (L : Nat) : Nat := L + (if 1 < L / 2 then L / 2 else 1)
theorem gl_b {L : Nat} (h1 : 0 < L) (h2 : L < 160) : L + 1 ≤ gl L ∧ gl L ≤ 250 := by
  unfold gl
  split <;> omega
theorem newLen {L : Nat} (h1 : 0 < L) (h2 : L < 160) : f_J8_newLength_cabcc h (Int32.ofNat L) 1 (Int32.ofNat (L / 2)) = some (h, Int32.ofNat (gl L)) := by
  have hg := gl_b h1 h2
  have e : Int32.ofNat L + (if (1 : Int32) < Int32.ofNat (L / 2) then Int32.ofNat (L / 2) else 1) = Int32.ofNat (gl L) := by
    unfold gl
    rw [show (1 : Int32) = Int32.ofNat 1 from rfl]
    by_cases q : 1 < L / 2
    · rw [if_pos ((ia_lt (by omega) (by omega)).mpr q), if_pos q, ia_add]
    · rw [if_neg (fun z => q ((ia_lt (by omega) (by omega)).mp z)), if_neg q, ia_add]
  unfold f_J8_newLength_cabcc
  rw [e, if_neg (fun z => by have := (ia_le (a := gl L) (b := 0) (by omega) (by omega)).mp z; omega), if_neg (fun z => by have := (ia_lt (a := 2147483639) (b := gl L) (by omega) (by omega)).mp z; omega)]
/-- a list's array is replaced by a longer one -/
theorem ls_grow (H : LSq h l n el) (hl : l < nk_N h) (hn : n < 160) (hL : ∀ e, nk_P h l 1 = some e → nk_K h e = 4 → nk_L h e = n) : ∃ h2, f_Jx4a65c_grow_d5877 h l = some (h2, some (nk_N h)) ∧ Gn h h2 no (fun y => y = l) ∧ nk_P h2 l = (fun j => if j = 1 then some (nk_N h) else nk_P h l j) ∧ nk_K h2 (nk_N h) = 4 ∧ n + 1 ≤ nk_L h2 (nk_N h) ∧ nk_L h2 (nk_N h) ≤ 1000 ∧ (∀ i, i < n → nk_P h2 (nk_N h) i = some (el i)) ∧ nk_N h2 = nk_N h + 1 ∧ nk_S h2 ≤ nk_S h + 250 := by
  obtain ⟨h1, h2, h3, e, h4, h5, h6⟩ := H
  have kl : nk_K h l ∈ [7] := by rw [h1]; decide
  have hlN : l ≠ nk_N h := by omega
  have key : ∀ (nl : Nat) (f : Nat → Option Nat), n + 1 ≤ nl → nl ≤ 250 → (∀ i, i < n → f i = some (el i)) → ∀ h9, (h9 = nk_sP (nk_al h 4 nl nl) l 1 (some (nk_N h)) ∧ n = 0 ∨ h9 = nk_sP (nk_cP (nk_al h 4 nl nl) (nk_N h) f) l 1 (some (nk_N h))) → Gn h h9 no (fun y => y = l) ∧ nk_P h9 l = (fun j => if j = 1 then some (nk_N h) else nk_P h l j) ∧ nk_K h9 (nk_N h) = 4 ∧ n + 1 ≤ nk_L h9 (nk_N h) ∧ nk_L h9 (nk_N h) ≤ 1000 ∧ (∀ i, i < n → nk_P h9 (nk_N h) i = some (el i)) ∧ nk_N h9 = nk_N h + 1 ∧ nk_S h9 ≤ nk_S h + 250 := by
    intro nl f b1 b2 hf h9 h9e
    have G1 : Gn h (nk_al h 4 nl nl) no (fun y => y = l) := Gn_al h 4 nl nl _ _
    have lkL : nk_L (nk_al h 4 nl nl) (nk_N h) = nl := by rw [nk_L_al, nk_u1_eq]
    have Pl : ∀ j, nk_P (nk_al h 4 nl nl) l j = nk_P h l j := fun j => by rw [nk_P_al, nk_u1_ne _ _ _ hlN]
    rcases h9e with ⟨rfl, n0⟩ | rfl
    · refine ⟨G1.trans (Gn_sP (DP := fun y => y = l) _ l 1 _ no (Or.inl rfl)), ?_, al_K h 4 nl nl, ?_, ?_, fun i hi => by omega, rfl, ?_⟩
      · funext j
        rw [nk_P_sP]
        by_cases q : j = 1
        · rw [q, nk_u2_eq, if_pos rfl]
        · rw [nk_u2_nk _ _ _ _ _ q, if_neg q, Pl]
      · rw [nk_L_sP, lkL]; exact b1
      · rw [nk_L_sP, lkL]; omega
      · rw [nk_S_sP, nk_S_al]; omega
    · have G2 : Gn (nk_al h 4 nl nl) (nk_cP (nk_al h 4 nl nl) (nk_N h) f) no (fun y => y = l ∨ y = nk_N h) := by
        refine ⟨Nat.le_refl _, rfl, rfl, fun x _ => ⟨rfl, rfl, fun z => ?_, fun _ => rfl⟩⟩
        show nk_u1 (nk_P (nk_al h 4 nl nl)) (nk_N h) f x = _
        rw [nk_u1_ne _ _ _ (fun e => z (Or.inr e))]
      have G3 : Gn h (nk_cP (nk_al h 4 nl nl) (nk_N h) f) no (fun y => y = l) := by
        obtain ⟨-, g2, g3, g4⟩ := G1
        refine ⟨by show nk_N h ≤ nk_N h + 1; omega, g2, g3, fun x hx => ?_⟩
        obtain ⟨k1, k2, k3, k4⟩ := g4 x hx
        obtain ⟨-, -, -, m4⟩ := G2
        obtain ⟨q1, q2, q3, q4⟩ := m4 x (by rw [nk_N_al]; omega)
        exact ⟨q1.trans k1, q2.trans k2, fun z => (q3 (fun y => by rcases y with y | y; exact z y; omega)).trans (k3 z), fun z => (q4 z).trans (k4 z)⟩
      refine ⟨G3.trans (Gn_sP (DP := fun y => y = l) _ l 1 _ no (Or.inl rfl)), ?_, al_K h 4 nl nl, ?_, ?_, fun i hi => ?_, rfl, ?_⟩
      · funext j
        rw [nk_P_sP]
        by_cases q : j = 1
        · rw [q, nk_u2_eq, if_pos rfl]
        · rw [nk_u2_nk _ _ _ _ _ q, if_neg q]
          show nk_u1 (nk_P (nk_al h 4 nl nl)) (nk_N h) f l j = _
          rw [nk_u1_ne _ _ _ hlN, Pl]
      · show n + 1 ≤ nk_L (nk_al h 4 nl nl) (nk_N h); rw [lkL]; exact b1
      · show nk_L (nk_al h 4 nl nl) (nk_N h) ≤ 1000; rw [lkL]; omega
      · rw [nk_P_sP, nk_u2_ne _ _ _ _ _ (Ne.symm hlN)]
        show nk_u1 (nk_P (nk_al h 4 nl nl)) (nk_N h) f (nk_N h) i = _
        rw [nk_u1_eq]; exact hf i hi
      · show nk_S (nk_al h 4 nl nl) ≤ _; rw [nk_S_al]; omega
  unfold f_Jx4a65c_grow_d5877 f_Jx4a65c_grow_92f84
  rw [rd_I [7] kl h2, rd_r [7] kl, rd_P [7] kl h4]
  rcases h6 with ⟨q1, q2, q3⟩ | ⟨q1, q2, q3, q4, q5⟩
  · subst q2
    have e0 : nk_len h (some e) = some 0 := by simp [nk_len, q1]
    refine ⟨nk_sP (nk_al h 4 10 10) l 1 (some (nk_N h)), ?_, key 10 (fun _ => none) (by omega) (by omega) (fun i hi => by omega) _ (Or.inl ⟨rfl, rfl⟩)⟩
    have e1 : nk_na 4 h (if (10 : Int32) < Int32.ofNat 0 + 1 then Int32.ofNat 0 + 1 else 10) = some (nk_al h 4 10 10) := by
      rw [if_neg (by decide)]; rfl
    rw [e0, Option.bind_some, if_neg (by decide), rd_P [7] kl h4, if_pos (by rw [q3]), e1, Option.bind_some, wr_P [7] 1 _ (by rw [nk_K_al, nk_u1_ne _ _ _ hlN]; exact kl)]
    rfl
  · have hLn := hL e h4 q1
    have n0 : 0 < n := by omega
    have hg := gl_b n0 hn
    have e0 : nk_len h (some e) = some (Int32.ofNat n) := by simp [nk_len, q1, hLn]
    have eN : e ≠ nk_N h := by omega
    refine ⟨nk_sP (nk_cP (nk_al h 4 (gl n) (gl n)) (nk_N h) (va_cpy (nk_P (nk_al h 4 (gl n) (gl n)) e) (nk_P (nk_al h 4 (gl n) (gl n)) (nk_N h)) 0 0 n)) l 1 (some (nk_N h)), ?_, key (gl n) _ hg.1 hg.2 (fun i hi => ?_) _ (Or.inr rfl)⟩
    · rw [e0, Option.bind_some, if_pos (show (0 : Int32) < Int32.ofNat n from (ia_lt (a := 0) (by omega) (by omega)).mpr n0)]
      unfold f_Jx4a65c_grow_92f84_c20
      have e1 : Int32.ofNat n + 1 - Int32.ofNat n = 1 := by
        rw [ia_1, ia_sub (by omega)]
        have : n + 1 - n = 1 := by omega
        rw [this]; rfl
      rw [e1, sh1 n (by omega), do_eq (newLen n0 hn), rd_P [7] kl h4]
      unfold f_J7_copyOf_1904c f_J7_copyOf_6403c
      have e2 : nk_gc h (some e) = some (some (nk_M h)) := by simp [nk_gc, q1]
      have e3 : nk_na 4 h (Int32.ofNat (gl n)) = some (nk_al h 4 (gl n) (gl n)) := by
        unfold nk_na
        rw [ia_nn (by omega), if_pos ⟨ia_n0 (by omega), by omega⟩]
      have ke : nk_K (nk_al h 4 (gl n) (gl n)) e = 4 := by rw [nk_K_al, nk_u1_ne _ _ _ eN]; exact q1
      have le : nk_L (nk_al h 4 (gl n) (gl n)) e = n := by rw [nk_L_al, nk_u1_ne _ _ _ eN]; exact hLn
      have lN : nk_L (nk_al h 4 (gl n) (gl n)) (nk_N h) = gl n := by rw [nk_L_al, nk_u1_eq]
      have e4 : nk_len (nk_al h 4 (gl n) (gl n)) (some e) = some (Int32.ofNat n) := by simp [nk_len, ke, le]
      have e5 : ∀ (K : nk_H → Option (nk_H × Option Nat)), (nk_cpP (nk_al h 4 (gl n) (gl n)) (some e) 0 (some (nk_N h)) 0 (Int32.ofNat n)).bind K = K (nk_cP (nk_al h 4 (gl n) (gl n)) (nk_N h) (va_cpy (nk_P (nk_al h 4 (gl n) (gl n)) e) (nk_P (nk_al h 4 (gl n) (gl n)) (nk_N h)) 0 0 n)) := fun K => by
        have c1 : nk_rg (nk_al h 4 (gl n) (gl n)) e (nk_N h) 0 0 (Int32.ofNat n) = true := by
          have z0 : (0 : Int32).toNatClampNeg = 0 := by decide
          have z1 : decide ((0 : Int32) < 0) = false := by decide
          unfold nk_rg
          rw [z0, z1, ia_nn (by omega), le, lN, decide_eq_false (ia_n0 (by omega)), decide_eq_true (by omega), decide_eq_true (by omega)]
          rfl
        have c2 : (List.range (Int32.ofNat n).toNatClampNeg).all (fun j => nk_okv 4 (nk_al h 4 (gl n) (gl n)) (nk_P (nk_al h 4 (gl n) (gl n)) e ((0 : Int32).toNatClampNeg + j))) = true := by
          rw [List.all_eq_true]
          intro j hj
          rw [ia_nn (by omega), List.mem_range] at hj
          obtain ⟨r1, r2, r3, r4⟩ := q5 j hj
          have z0 : (0 : Int32).toNatClampNeg = 0 := by decide
          have r6 : el j ≠ nk_N h := by omega
          rw [z0, Nat.zero_add, nk_P_al, nk_u1_ne _ _ _ eN, r1]
          show (decide (7 ≤ nk_K (nk_al h 4 (gl n) (gl n)) (el j)) && decide (nk_K (nk_al h 4 (gl n) (gl n)) (el j) ≤ 19)) = true
          rw [nk_K_al, nk_u1_ne _ _ _ r6, decide_eq_true r3, decide_eq_true r4]
          rfl
        unfold nk_cpP
        show (if nk_K (nk_al h 4 (gl n) (gl n)) e = 4 ∧ nk_K (nk_al h 4 (gl n) (gl n)) (nk_N h) = 4 ∧ e ≠ nk_N h ∧ nk_rg (nk_al h 4 (gl n) (gl n)) e (nk_N h) 0 0 (Int32.ofNat n) = true ∧ (List.range (Int32.ofNat n).toNatClampNeg).all (fun j => nk_okv 4 (nk_al h 4 (gl n) (gl n)) (nk_P (nk_al h 4 (gl n) (gl n)) e ((0 : Int32).toNatClampNeg + j))) = true then some (nk_cP (nk_al h 4 (gl n) (gl n)) (nk_N h) (va_cpy (nk_P (nk_al h 4 (gl n) (gl n)) e) (nk_P (nk_al h 4 (gl n) (gl n)) (nk_N h)) (0 : Int32).toNatClampNeg (0 : Int32).toNatClampNeg (Int32.ofNat n).toNatClampNeg)) else none).bind K = _
        rw [if_pos ⟨ke, al_K h 4 _ _, eN, c1, c2⟩, ia_nn (by omega)]
        rfl
      have e6 : (if Int32.ofNat (gl n) < Int32.ofNat n then Int32.ofNat (gl n) else Int32.ofNat n) = Int32.ofNat n := by
        rw [if_neg (fun z => by have := (ia_lt (by omega) (by omega)).mp z; omega)]
      rw [e2, Option.bind_some, if_pos rfl, e3, Option.bind_some, e4, Option.bind_some, e6, e5]
      rw [do_s, do_s, wr_P [7] 1 _ (by show nk_K (nk_al h 4 (gl n) (gl n)) l ∈ [7]; rw [nk_K_al, nk_u1_ne _ _ _ hlN]; exact kl)]
      rfl
    · unfold va_cpy
      rw [if_pos ⟨by omega, by omega⟩, nk_P_al, nk_u1_ne _ _ _ eN]
      have : 0 + (i - 0) = i := by omega
      rw [this]
      exact (q5 i hi).1
end LG
section GX
variable {h g : nk_H} {DI DP : Nat → Prop}
theorem Gn.sP (G : Gn h g DI DP) {b : Nat} (j : Nat) (v : Option Nat) (hb : DP b ∨ nk_N h ≤ b) : Gn h (nk_sP g b j v) DI DP := by
  obtain ⟨g1, g2, g3, g4⟩ := G
  refine ⟨g1, g2, g3, fun x hx => ?_⟩
  obtain ⟨k1, k2, k3, k4⟩ := g4 x hx
  refine ⟨k1, k2, fun z => ?_, k4⟩
  rw [← k3 z, nk_P_sP]
  funext y
  refine nk_u2_ne _ _ _ _ y (fun e => ?_)
  rcases hb with hb | hb
  · exact z (by rw [e]; exact hb)
  · omega
theorem Gn.sI (G : Gn h g DI DP) {b : Nat} (j : Nat) (v : Int32) (hb : DI b ∨ nk_N h ≤ b) : Gn h (nk_sI g b j v) DI DP := by
  obtain ⟨g1, g2, g3, g4⟩ := G
  refine ⟨g1, g2, g3, fun x hx => ?_⟩
  obtain ⟨k1, k2, k3, k4⟩ := g4 x hx
  refine ⟨k1, k2, k3, fun z => ?_⟩
  rw [← k4 z, nk_I_sI]
  funext y
  refine nk_u2_ne _ _ _ _ y (fun e => ?_)
  rcases hb with hb | hb
  · exact z (by rw [e]; exact hb)
  · omega
theorem Gn.al (G : Gn h g DI DP) (c n w : Nat) : Gn h (nk_al g c n w) DI DP := G.trans (Gn_al g c n w DI DP)
/-- what changes in g may be new in h -/
theorem Gn.on {g2 : nk_H} {DI2 DP2 : Nat → Prop} (G : Gn h g DI DP) (G2 : Gn g g2 DI2 DP2) (a1 : ∀ x, DI2 x → DI x ∨ nk_N h ≤ x) (a2 : ∀ x, DP2 x → DP x ∨ nk_N h ≤ x) : Gn h g2 DI DP := by
  obtain ⟨g1, g2, g3, g4⟩ := G
  obtain ⟨f1, f2, f3, f4⟩ := G2
  refine ⟨Nat.le_trans g1 f1, f2.trans g2, f3.trans g3, fun x hx => ?_⟩
  obtain ⟨k1, k2, k3, k4⟩ := g4 x hx
  obtain ⟨m1, m2, m3, m4⟩ := f4 x (by omega)
  exact ⟨m1.trans k1, m2.trans k2, fun z => (m3 (fun y => by rcases a2 x y with y | y; exact z y; omega)).trans (k3 z), fun z => (m4 (fun y => by rcases a1 x y with y | y; exact z y; omega)).trans (k4 z)⟩
end GX
section LG
variable {α : Type} {h : nk_H} {l n : Nat} {el : Nat → Nat}
/-- what growing a list may change -/
def dL (h : nk_H) (l : Nat) : Nat → Prop := fun y => y = l ∨ (nk_P h l 1 = some y ∧ nk_K h y = 4)
theorem ls_add (H : LSq h l n el) (hl : l < nk_N h) (hn : n < 160) {x : Nat} (hx : x < nk_N h) (kx : 7 ≤ nk_K h x ∧ nk_K h x ≤ 19) {el' : Nat → Nat} (he : ∀ i, i < n → el' i = el i) (hen : el' n = x) : ∃ h', f_Jx4a65c_add_9ea2d h l (some x) = some (h', 1) ∧ Gn h h' (fun y => y = l) (dL h l) ∧ LSq h' l (n + 1) el' ∧ nk_N h' ≤ nk_N h + 1 ∧ nk_S h' ≤ nk_S h + 250 ∧ (∀ e', nk_P h' l 1 = some e' → nk_P h l 1 = some e' ∨ e' = nk_N h) := by
  have HH := H
  obtain ⟨h1, h2, h3, e, h4, h5, h6⟩ := H
  have kl : nk_K h l ∈ [7] := by rw [h1]; decide
  generalize hv : nk_I h l 0 + 1 = v
  have hel : ∀ i, i < n → el i < nk_N h ∧ 7 ≤ nk_K h (el i) ∧ nk_K h (el i) ≤ 19 := fun i hi => by
    rcases h6 with ⟨-, q, -⟩ | ⟨-, -, -, -, q⟩
    · omega
    · exact (q i hi).2
  have h2m : nk_I (nk_sI h l 0 v) l 2 = Int32.ofNat n := by rw [nk_I_sI, nk_u2_nk _ _ _ _ _ (by decide)]; exact h2
  have Hm : LSq (nk_sI h l 0 v) l n el := ⟨h1, h2m, h3, e, h4, h5, h6⟩
  have Gm : Gn h (nk_sI h l 0 v) (fun y => y = l) (dL h l) := Gn_sI (DI := fun y => y = l) h l 0 v _ (Or.inl rfl)
  have wr : ∀ (g : nk_H) (e2 : Nat), Gn h g (fun y => y = l) (dL h l) → nk_P g l 1 = some e2 → e2 < nk_N g → nk_K g e2 = 4 → n + 1 ≤ nk_L g e2 → nk_L g e2 ≤ 1000 → (∀ i, i < n → nk_P g e2 i = some (el i)) → dL h l e2 ∨ nk_N h ≤ e2 →
      f_Jx4a65c_add_72be8_c11 g l (some x) (some e2) (Int32.ofNat n) = some (nk_sI (nk_sP g e2 n (some x)) l 2 (Int32.ofNat (n + 1)), ()) ∧ Gn h (nk_sI (nk_sP g e2 n (some x)) l 2 (Int32.ofNat (n + 1))) (fun y => y = l) (dL h l) ∧ LSq (nk_sI (nk_sP g e2 n (some x)) l 2 (Int32.ofNat (n + 1))) l (n + 1) el' := by
    intro g e2 G p1 p2 p3 p4 p5 p6 p7
    have gl7 := (G.2.2.2 l hl).1
    have el9 : e2 ≠ l := fun z => by rw [z, gl7, h1] at p3; exact absurd p3 (by decide)
    have gx := (G.2.2.2 x hx).1
    refine ⟨?_, (G.sP n (some x) p7).sI 2 _ (Or.inl rfl), ?_⟩
    · unfold f_Jx4a65c_add_72be8_c11
      rw [ls_wP p3 (by omega) (by omega) (by rw [gx]; exact kx), wr_I [7] 2 _ (by show nk_K g l ∈ [7]; rw [gl7]; exact kl), ia_1]
    · refine ⟨by show nk_K g l = 7; rw [gl7]; exact h1, by rw [nk_I_sI, nk_u2_eq], by omega, e2, ?_, p2, Or.inr ⟨p3, p4, by show 1 ≤ nk_L g e2; omega, p5, fun i hi => ?_⟩⟩
      · rw [nk_P_sI, nk_P_sP, nk_u2_ne _ _ _ _ _ (Ne.symm el9)]; exact p1
      · have hq : nk_P (nk_sI (nk_sP g e2 n (some x)) l 2 (Int32.ofNat (n + 1))) e2 i = some (el' i) := by
          rw [nk_P_sI, nk_P_sP]
          by_cases q : i = n
          · rw [q, nk_u2_eq, hen]
          · rw [nk_u2_nk _ _ _ _ _ q, p6 i (by omega), he i (by omega)]
        have hk : el' i < nk_N h ∧ 7 ≤ nk_K h (el' i) ∧ nk_K h (el' i) ≤ 19 := by
          by_cases q : i = n
          · rw [q, hen]; exact ⟨hx, kx⟩
          · rw [he i (by omega)]; exact hel i (by omega)
        have g9 := (G.2.2.2 _ hk.1).1
        refine ⟨hq, Nat.lt_of_lt_of_le hk.1 G.1, ?_⟩
        show 7 ≤ nk_K g (el' i) ∧ nk_K g (el' i) ≤ 19
        rw [g9]; exact hk.2
  have e0 : ∀ (K : Int32 → Option (nk_H × Unit)), (nk_len (nk_sI h l 0 v) (some e)).bind K = K (if nk_K h e = 4 then Int32.ofNat (nk_L h e) else 0) := fun K => by
    rcases h6 with ⟨q, -⟩ | ⟨q, -⟩
    · have e1 : nk_len (nk_sI h l 0 v) (some e) = some 0 := by simp [nk_len, nk_K_sI, q]
      rw [e1, q]; rfl
    · have e1 : nk_len (nk_sI h l 0 v) (some e) = some (Int32.ofNat (nk_L h e)) := by simp [nk_len, nk_K_sI, nk_L_sI, q]
      rw [e1, q]; rfl
  have start : ∀ (g : nk_H), f_Jx4a65c_add_72be8 (nk_sI h l 0 v) l (some x) (some e) (Int32.ofNat n) = some (g, ()) → f_Jx4a65c_add_9ea2d h l (some x) = some (g, 1) := fun g hg => by
    unfold f_Jx4a65c_add_9ea2d
    rw [rd_I [7] kl rfl, hv, wr_I [7] 0 _ kl, rd_P (h := nk_sI h l 0 v) [7] kl h4, rd_I (h := nk_sI h l 0 v) [7] kl h2m, rd_r (h := nk_sI h l 0 v) [7] kl, do_eq hg]
    rfl
  by_cases hfull : nk_K h e = 4 ∧ n < nk_L h e
  · obtain ⟨f1, f2⟩ := hfull
    have f3 : nk_L h e ≤ 1000 ∧ ∀ i, i < n → nk_P h e i = some (el i) := by
      rcases h6 with ⟨q, -⟩ | ⟨-, -, -, q4, q5⟩
      · omega
      · exact ⟨q4, fun i hi => (q5 i hi).1⟩
    obtain ⟨w1, w2, w3⟩ := wr (nk_sI h l 0 v) e Gm h4 h5 f1 f2 f3.1 f3.2 (Or.inl (Or.inr ⟨h4, f1⟩))
    refine ⟨_, start _ ?_, w2, w3, by rw [nk_N_sI, nk_N_sP, nk_N_sI]; omega, by rw [nk_S_sI, nk_S_sP, nk_S_sI]; omega, fun e' p => Or.inl ?_⟩
    · unfold f_Jx4a65c_add_72be8
      rw [e0, if_pos f1, if_neg (fun z => by have := (ia_eq (by omega) (by omega)).mp z; omega)]
      exact w1
    · have el9 : l ≠ e := fun z => by rw [← z, h1] at f1; exact absurd f1 (by decide)
      rw [nk_P_sI, nk_P_sP, nk_u2_ne _ _ _ _ _ el9] at p
      exact p
  · have hfl : ∀ e', nk_P (nk_sI h l 0 v) l 1 = some e' → nk_K (nk_sI h l 0 v) e' = 4 → nk_L (nk_sI h l 0 v) e' = n := fun e' p k => by
      have e3 : e' = e := by
        have p' : nk_P h l 1 = some e' := p
        rw [h4] at p'
        exact (Option.some.inj p').symm
      subst e3
      have k' : nk_K h e' = 4 := k
      rcases h6 with ⟨q, -⟩ | ⟨-, q2, -⟩
      · omega
      · show nk_L h e' = n
        have : ¬ n < nk_L h e' := fun z => hfull ⟨k', z⟩
        omega
    obtain ⟨g, e1, g1, g2, g3, g4, g5, g6, g7, g8⟩ := ls_grow Hm hl hn hfl
    have eN : nk_N (nk_sI h l 0 v) = nk_N h := rfl
    have G9 : Gn h g (fun y => y = l) (dL h l) := Gm.on g1 (fun x z => z.elim) (fun x z => Or.inl (Or.inl z))
    obtain ⟨w1, w2, w3⟩ := wr g (nk_N h) G9 (by rw [g2]; rfl) (by rw [g7, eN]; omega) g3 g4 g5 g6 (Or.inr (Nat.le_refl _))
    refine ⟨_, start _ ?_, w2, w3, by rw [nk_N_sI, nk_N_sP, g7, eN]; omega, by rw [nk_S_sI, nk_S_sP]; exact g8, fun e' p => Or.inr ?_⟩
    · unfold f_Jx4a65c_add_72be8
      have en : Int32.ofNat n = (if nk_K h e = 4 then Int32.ofNat (nk_L h e) else 0) := by
        rcases h6 with ⟨q, q2, -⟩ | ⟨q, q2, -⟩
        · rw [if_neg (by omega), q2]; rfl
        · have : ¬ n < nk_L h e := fun z => hfull ⟨q, z⟩
          have : n = nk_L h e := by omega
          rw [if_pos q, ← this]
      rw [e0, if_pos en, rd_r (h := nk_sI h l 0 v) [7] kl, do_eq e1]
      exact w1
    · have hlN : l ≠ nk_N h := by omega
      rw [nk_P_sI, nk_P_sP, nk_u2_ne _ _ _ _ _ hlN, g2] at p
      exact (Option.some.inj p).symm
end LG
