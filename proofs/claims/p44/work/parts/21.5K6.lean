/-! ===== the constructors: the reference ===== -/
section CM
variable {g h : nk_H} {M : Nat}
/-- the reference's object under way: j arrays stand -/
def MB (g h : nk_H) (M : Nat) (iv : Nat → Int32) (j : Nat) : Prop := nk_K h M = 19 ∧ nk_N h = M + 1 + j ∧ nk_I h M = iv ∧ Gn g h no no ∧ nk_S h ≤ nk_S g + 45 + 11520 * j ∧ ∀ k, k < 45 → mo k ≠ 0 → mo k ≤ j → nk_P h M k = some (M + mo k) ∧ nk_K h (M + mo k) = mk k ∧ nk_L h (M + mo k) = ml k ∧ nk_I h (M + mo k) = fun _ => 0
theorem ml_le (k : Nat) : ml k ≤ 11520 := by
  unfold ml
  repeat' split
  all_goals omega
theorem mb_step {Q : Option (nk_H × Unit) → Prop} {iv : Nat → Int32} {j : Nat} (hg : nk_N g = M) (B : MB g h M iv j) (k : Nat) (hk : k < 45) (ek : mo k = j + 1) {c : Nat} {n : Int32} (ec : c = mk k) (en : n = Int32.ofNat (ml k)) {F : nk_H → Option (nk_H × Unit)} (hF : ∀ h4, MB g h4 M iv (j + 1) → Q (F h4)) : Q ((nk_na c h n).bind fun h3 => (nk_pP [19] k h3 (some M) (some (nk_N h))).bind F) := by
  obtain ⟨b1, b2, b3, b4, b5, b6⟩ := B
  have hl := ml_le k
  have A := Gn_al h c (ml k) (ml k) no no
  have k3 : nk_K (nk_al h c (ml k) (ml k)) M = 19 := (A.2.2.2 M (by omega)).1.trans b1
  rw [en, na_v c (n := ml k) (by omega) h, Option.bind_some, wr_P (h := nk_al h c (ml k) (ml k)) [19] k _ (by rw [k3]; decide)]
  refine hF _ ⟨k3, ?_, ?_, (b4.al c _ _).sP k _ (Or.inr (by omega)), ?_, fun k' hk' h0 hj => ?_⟩
  · show nk_N h + 1 = _
    omega
  · show nk_I (nk_al h c (ml k) (ml k)) M = iv
    rw [(A.2.2.2 M (by omega)).2.2.2 id]; exact b3
  · show nk_S h + ml k ≤ _
    omega
  · by_cases e : k' = k
    · have eN : M + (j + 1) = nk_N h := by omega
      rw [e, ek, eN]
      refine ⟨?_, ?_, ?_, ?_⟩
      · show nk_u2 (nk_P (nk_al h c (ml k) (ml k))) M k _ M k = _
        rw [nk_u2_eq]
      · show nk_K (nk_al h c (ml k) (ml k)) (nk_N h) = mk k
        rw [al_K]; exact ec
      · show nk_L (nk_al h c (ml k) (ml k)) (nk_N h) = ml k
        rw [nk_L_al, nk_u1_eq]
      · show nk_I (nk_al h c (ml k) (ml k)) (nk_N h) = _
        rw [nk_I_al, nk_u1_eq]
    · have hm : mo k' ≠ mo k := fun z => e (mo_inj h0 z)
      obtain ⟨p1, p2, p3, p4⟩ := b6 k' hk' h0 (by omega)
      have u := A.2.2.2 (M + mo k') (by omega)
      refine ⟨?_, u.1.trans p2, u.2.1.trans p3, (u.2.2.2 id).trans p4⟩
      show nk_u2 (nk_P (nk_al h c (ml k) (ml k))) M k _ M k' = _
      rw [nk_u2_nk _ _ _ _ _ e, (A.2.2.2 M (by omega)).2.2.1 id]; exact p1
theorem mb_int {Q : Option (nk_H × Unit) → Prop} {iv : Nat → Int32} {j : Nat} (hg : nk_N g = M) (B : MB g h M iv j) (k : Nat) (v : Int32) {F : nk_H → Option (nk_H × Unit)} (hF : ∀ h4, MB g h4 M (fun y => if y = k then v else iv y) j → Q (F h4)) : Q ((nk_pI [19] k h (some M) v).bind F) := by
  obtain ⟨b1, b2, b3, b4, b5, b6⟩ := B
  rw [wr_I [19] k v (by rw [b1]; decide)]
  refine hF _ ⟨b1, b2, ?_, b4.sI k v (Or.inr (by omega)), b5, fun k' hk' h0 hj => ?_⟩
  · funext y
    show nk_u2 (nk_I h) M k v M y = if y = k then v else iv y
    by_cases e : y = k
    · rw [e, nk_u2_eq, if_pos rfl]
    · rw [nk_u2_nk _ _ _ _ _ e, if_neg e, b3]
  · obtain ⟨p1, p2, p3, p4⟩ := b6 k' hk' h0 hj
    refine ⟨p1, p2, p3, ?_⟩
    funext y
    show nk_u2 (nk_I h) M k v (M + mo k') y = 0
    rw [nk_u2_ne _ _ _ _ _ (by omega), p4]
theorem fill10 : ∀ (kf i : Nat) (h : nk_H), MR h M → i ≤ 960 → 960 - i < kf → ∃ g', f_X12_init_b303 kf h M (Int32.ofNat i) = some (g', ()) ∧ SI h g' ∧ (∀ x, x ≠ M + mo 10 → nk_I g' x = nk_I h x) ∧ (∀ y, y < i → nk_I g' (M + mo 10) y = nk_I h (M + mo 10) y) ∧ ∀ y, i ≤ y → y < 960 → nk_I g' (M + mo 10) y = -1 := by
  intro kf
  induction kf with
  | zero => intro i h _ h1 h2; omega
  | succ kf ih =>
    intro i h hM h1 h2
    show ∃ g', f_X12_init_c303 (f_X12_init_b303 kf) h M (Int32.ofNat i) = some (g', ()) ∧ _
    unfold f_X12_init_c303
    by_cases z : 960 ≤ i
    · rw [if_pos (show (960 : Int32) ≤ Int32.ofNat i from (ia_le (a := 960) (by omega) (by omega)).mpr z)]
      exact ⟨h, rfl, SI.refl h, fun _ _ => rfl, fun _ _ => rfl, fun y _ _ => by omega⟩
    · rw [if_neg (fun e : (960 : Int32) ≤ Int32.ofNat i => z ((ia_le (a := 960) (by omega) (by omega)).mp e)), m_gP hM 10, Option.bind_some, m_wI hM 10 i (-1) (by show i < 960; omega), Option.bind_some, ia_1]
      obtain ⟨g', e1, S, e2, e3, e4⟩ := ih (i + 1) (nk_sI h (M + mo 10) i (-1)) hM (by omega) (by omega)
      refine ⟨g', e1, ((SI.refl h).sI _ _ _).trans S, fun x hx => ?_, fun y hy => ?_, fun y hy hy2 => ?_⟩
      · rw [e2 x hx]
        funext y
        exact nk_u2_ne _ _ _ _ _ hx
      · rw [e3 y (by omega)]
        exact nk_u2_nk _ _ _ _ _ (by omega)
      · by_cases w : y = i
        · rw [e3 y (by omega), w]
          exact nk_u2_eq _ _ _ _
        · exact e4 y (by omega) hy2
/-- what the reference's constructor leaves -/
def QM (g : nk_H) (M : Nat) (o : Option (nk_H × Unit)) : Prop := ∃ g', o = some (g', ()) ∧ Gn g g' no no ∧ nk_N g' = M + 33 ∧ nk_S g' ≤ nk_S g + 368685 ∧ MR g' M ∧ (∀ k, mo k = 0 → nm g' M k 0 = if k = 25 then 100 else if k = 24 then 100000 else if k = 23 then 10000 else if k = 22 then 63 else 0) ∧ (∀ k j, mo k ≠ 0 → k ≠ 10 → nm g' M k j = 0) ∧ ∀ j, j < 960 → nm g' M 10 j = -1
theorem md_A1 {h g' : nk_H} {iv : Nat → Int32} (hg : nk_N g = M) (B : MB g h M iv 32) (S : SI h g') (e2 : ∀ x, x ≠ M + mo 10 → nk_I g' x = nk_I h x) (e4 : ∀ y, 0 ≤ y → y < 960 → nk_I g' (M + mo 10) y = -1) (hMR : MR h M) (m10 : mo 10 = 8) (hi : ∀ k, iv k = if k = 25 then 100 else if k = 24 then 100000 else if k = 23 then 10000 else if k = 22 then 63 else 0) : Gn g g' no no := by
  obtain ⟨b1, b2, b3, b4, b5, b6⟩ := B
  exact b4.on (SI.gn (DP := no) S e2) (fun x y => Or.inr (by have y' : x = M + mo 10 := y; omega)) (fun x y => y.elim)
theorem md_A2 {h g' : nk_H} {iv : Nat → Int32} (hg : nk_N g = M) (B : MB g h M iv 32) (S : SI h g') (e2 : ∀ x, x ≠ M + mo 10 → nk_I g' x = nk_I h x) (e4 : ∀ y, 0 ≤ y → y < 960 → nk_I g' (M + mo 10) y = -1) (hMR : MR h M) (m10 : mo 10 = 8) (hi : ∀ k, iv k = if k = 25 then 100 else if k = 24 then 100000 else if k = 23 then 10000 else if k = 22 then 63 else 0) : nk_N g' = M + 33 := by
  obtain ⟨b1, b2, b3, b4, b5, b6⟩ := B
  exact by rw [S.2.2.2.1]; omega
theorem md_A3 {h g' : nk_H} {iv : Nat → Int32} (hg : nk_N g = M) (B : MB g h M iv 32) (S : SI h g') (e2 : ∀ x, x ≠ M + mo 10 → nk_I g' x = nk_I h x) (e4 : ∀ y, 0 ≤ y → y < 960 → nk_I g' (M + mo 10) y = -1) (hMR : MR h M) (m10 : mo 10 = 8) (hi : ∀ k, iv k = if k = 25 then 100 else if k = 24 then 100000 else if k = 23 then 10000 else if k = 22 then 63 else 0) : nk_S g' ≤ nk_S g + 368685 := by
  have q : ∀ j a b : Nat, a ≤ b + 45 + 11520 * j → j ≤ 32 → a ≤ b + 368685 := fun j a b _ _ => by omega
  rw [S.2.2.2.2.1]
  exact q 32 _ _ B.2.2.2.2.1 (Nat.le_refl _)
theorem md_A4 {h g' : nk_H} {iv : Nat → Int32} (hg : nk_N g = M) (B : MB g h M iv 32) (S : SI h g') (e2 : ∀ x, x ≠ M + mo 10 → nk_I g' x = nk_I h x) (e4 : ∀ y, 0 ≤ y → y < 960 → nk_I g' (M + mo 10) y = -1) (hMR : MR h M) (m10 : mo 10 = 8) (hi : ∀ k, iv k = if k = 25 then 100 else if k = 24 then 100000 else if k = 23 then 10000 else if k = 22 then 63 else 0) : MR g' M := by
  obtain ⟨b1, b2, b3, b4, b5, b6⟩ := B
  exact ⟨by rw [S.1]; exact b1, fun k hk h0 => by rw [S.2.1, S.1, S.2.2.1]; exact hMR.2 k hk h0⟩
theorem md_A5 {h g' : nk_H} {iv : Nat → Int32} (hg : nk_N g = M) (B : MB g h M iv 32) (S : SI h g') (e2 : ∀ x, x ≠ M + mo 10 → nk_I g' x = nk_I h x) (e4 : ∀ y, 0 ≤ y → y < 960 → nk_I g' (M + mo 10) y = -1) (hMR : MR h M) (m10 : mo 10 = 8) (hi : ∀ k, iv k = if k = 25 then 100 else if k = 24 then 100000 else if k = 23 then 10000 else if k = 22 then 63 else 0) : ∀ k, mo k = 0 → nm g' M k 0 = if k = 25 then 100 else if k = 24 then 100000 else if k = 23 then 10000 else if k = 22 then 63 else 0 := by
  obtain ⟨b1, b2, b3, b4, b5, b6⟩ := B
  exact fun k e => by
    unfold nm
    rw [if_pos e, if_pos rfl, e2 M (by omega), b3]
    exact hi k
theorem md_A6 {h g' : nk_H} {iv : Nat → Int32} (hg : nk_N g = M) (B : MB g h M iv 32) (S : SI h g') (e2 : ∀ x, x ≠ M + mo 10 → nk_I g' x = nk_I h x) (e4 : ∀ y, 0 ≤ y → y < 960 → nk_I g' (M + mo 10) y = -1) (hMR : MR h M) (m10 : mo 10 = 8) (hi : ∀ k, iv k = if k = 25 then 100 else if k = 24 then 100000 else if k = 23 then 10000 else if k = 22 then 63 else 0) : ∀ k j, mo k ≠ 0 → k ≠ 10 → nm g' M k j = 0 := by
  obtain ⟨b1, b2, b3, b4, b5, b6⟩ := B
  exact fun k j e hk => by
    unfold nm
    rw [if_neg e, e2 (M + mo k) (fun z => hk (mo_inj e (by omega))), (b6 k (mo_lt e) e (mo_le k)).2.2.2]
theorem md_A7 {h g' : nk_H} {iv : Nat → Int32} (hg : nk_N g = M) (B : MB g h M iv 32) (S : SI h g') (e2 : ∀ x, x ≠ M + mo 10 → nk_I g' x = nk_I h x) (e4 : ∀ y, 0 ≤ y → y < 960 → nk_I g' (M + mo 10) y = -1) (hMR : MR h M) (m10 : mo 10 = 8) (hi : ∀ k, iv k = if k = 25 then 100 else if k = 24 then 100000 else if k = 23 then 10000 else if k = 22 then 63 else 0) : ∀ j, j < 960 → nm g' M 10 j = -1 := by
  obtain ⟨b1, b2, b3, b4, b5, b6⟩ := B
  exact fun j hj => by
    unfold nm
    rw [if_neg (by decide)]
    exact e4 j (Nat.zero_le _) hj
theorem mdl_end {h : nk_H} {iv : Nat → Int32} {kf : Nat} (hkf : 960 < kf) (hg : nk_N g = M) (B : MB g h M iv 32) (hi : ∀ k, iv k = if k = 25 then 100 else if k = 24 then 100000 else if k = 23 then 10000 else if k = 22 then 63 else 0) : QM g M (f_X12_init_b303 kf h M 0) := by
  have hMR : MR h M := ⟨B.1, fun k hk h0 => by
    obtain ⟨p1, p2, p3, -⟩ := B.2.2.2.2.2 k hk h0 (mo_le k)
    exact ⟨p1, p2, p3⟩⟩
  obtain ⟨g', e1, S, e2, -, e4⟩ := fill10 (M := M) kf 0 h hMR (by omega) (by omega)
  have m10 : mo 10 = 8 := by decide
  exact ⟨g', e1, md_A1 hg B S e2 e4 hMR m10 hi, md_A2 hg B S e2 e4 hMR m10 hi, md_A3 hg B S e2 e4 hMR m10 hi, md_A4 hg B S e2 e4 hMR m10 hi, md_A5 hg B S e2 e4 hMR m10 hi, md_A6 hg B S e2 e4 hMR m10 hi, md_A7 hg B S e2 e4 hMR m10 hi⟩
theorem mdl_init (hg : nk_N g = M) : QM g M (f_X12_init (nk_al g 19 0 45) M) := by
  have B0 : MB g (nk_al g 19 0 45) M (fun _ => 0) 0 := ⟨by rw [← hg]; exact al_K g 19 0 45, by show nk_N g + 1 = _; omega, by rw [← hg, nk_I_al, nk_u1_eq], Gn_al g 19 0 45 no no, by show nk_S g + 45 ≤ _; omega, fun k _ h0 hj => absurd (Nat.le_zero.mp hj) h0⟩
  unfold f_X12_init
  refine mb_step (Q := QM g M) hg B0 2 (by decide) (by decide) (by decide) (by rfl) (fun h1 B1 => ?_)
  clear B0
  refine mb_step (Q := QM g M) hg B1 4 (by decide) (by decide) (by decide) (by rfl) (fun h2 B2 => ?_)
  clear B1
  refine mb_step (Q := QM g M) hg B2 5 (by decide) (by decide) (by decide) (by rfl) (fun h3 B3 => ?_)
  clear B2
  refine mb_step (Q := QM g M) hg B3 6 (by decide) (by decide) (by decide) (by rfl) (fun h4 B4 => ?_)
  clear B3
  refine mb_step (Q := QM g M) hg B4 7 (by decide) (by decide) (by decide) (by rfl) (fun h5 B5 => ?_)
  clear B4
  refine mb_step (Q := QM g M) hg B5 8 (by decide) (by decide) (by decide) (by rfl) (fun h6 B6 => ?_)
  clear B5
  refine mb_step (Q := QM g M) hg B6 9 (by decide) (by decide) (by decide) (by rfl) (fun h7 B7 => ?_)
  clear B6
  refine mb_step (Q := QM g M) hg B7 10 (by decide) (by decide) (by decide) (by rfl) (fun h8 B8 => ?_)
  clear B7
  refine mb_step (Q := QM g M) hg B8 11 (by decide) (by decide) (by decide) (by rfl) (fun h9 B9 => ?_)
  clear B8
  refine mb_step (Q := QM g M) hg B9 13 (by decide) (by decide) (by decide) (by rfl) (fun h10 B10 => ?_)
  clear B9
  refine mb_step (Q := QM g M) hg B10 14 (by decide) (by decide) (by decide) (by rfl) (fun h11 B11 => ?_)
  clear B10
  refine mb_step (Q := QM g M) hg B11 15 (by decide) (by decide) (by decide) (by rfl) (fun h12 B12 => ?_)
  clear B11
  refine mb_step (Q := QM g M) hg B12 16 (by decide) (by decide) (by decide) (by rfl) (fun h13 B13 => ?_)
  clear B12
  refine mb_step (Q := QM g M) hg B13 17 (by decide) (by decide) (by decide) (by rfl) (fun h14 B14 => ?_)
  clear B13
  refine mb_step (Q := QM g M) hg B14 18 (by decide) (by decide) (by decide) (by rfl) (fun h15 B15 => ?_)
  clear B14
  refine mb_step (Q := QM g M) hg B15 19 (by decide) (by decide) (by decide) (by rfl) (fun h16 B16 => ?_)
  clear B15
  refine mb_step (Q := QM g M) hg B16 20 (by decide) (by decide) (by decide) (by rfl) (fun h17 B17 => ?_)
  clear B16
  refine mb_step (Q := QM g M) hg B17 21 (by decide) (by decide) (by decide) (by rfl) (fun h18 B18 => ?_)
  clear B17
  refine mb_int (Q := QM g M) hg B18 22 63 (fun h19 B19 => ?_)
  clear B18
  refine mb_int (Q := QM g M) hg B19 23 10000 (fun h20 B20 => ?_)
  clear B19
  refine mb_int (Q := QM g M) hg B20 24 100000 (fun h21 B21 => ?_)
  clear B20
  refine mb_int (Q := QM g M) hg B21 25 100 (fun h22 B22 => ?_)
  clear B21
  refine mb_step (Q := QM g M) hg B22 30 (by decide) (by decide) (by decide) (by rfl) (fun h23 B23 => ?_)
  clear B22
  refine mb_step (Q := QM g M) hg B23 31 (by decide) (by decide) (by decide) (by rfl) (fun h24 B24 => ?_)
  clear B23
  refine mb_step (Q := QM g M) hg B24 32 (by decide) (by decide) (by decide) (by rfl) (fun h25 B25 => ?_)
  clear B24
  refine mb_step (Q := QM g M) hg B25 33 (by decide) (by decide) (by decide) (by rfl) (fun h26 B26 => ?_)
  clear B25
  refine mb_step (Q := QM g M) hg B26 34 (by decide) (by decide) (by decide) (by rfl) (fun h27 B27 => ?_)
  clear B26
  refine mb_step (Q := QM g M) hg B27 35 (by decide) (by decide) (by decide) (by rfl) (fun h28 B28 => ?_)
  clear B27
  refine mb_step (Q := QM g M) hg B28 36 (by decide) (by decide) (by decide) (by rfl) (fun h29 B29 => ?_)
  clear B28
  refine mb_step (Q := QM g M) hg B29 38 (by decide) (by decide) (by decide) (by rfl) (fun h30 B30 => ?_)
  clear B29
  refine mb_step (Q := QM g M) hg B30 39 (by decide) (by decide) (by decide) (by rfl) (fun h31 B31 => ?_)
  clear B30
  refine mb_step (Q := QM g M) hg B31 40 (by decide) (by decide) (by decide) (by rfl) (fun h32 B32 => ?_)
  clear B31
  refine mb_step (Q := QM g M) hg B32 41 (by decide) (by decide) (by decide) (by rfl) (fun h33 B33 => ?_)
  clear B32
  refine mb_step (Q := QM g M) hg B33 42 (by decide) (by decide) (by decide) (by rfl) (fun h34 B34 => ?_)
  clear B33
  refine mb_step (Q := QM g M) hg B34 43 (by decide) (by decide) (by decide) (by rfl) (fun h35 B35 => ?_)
  clear B34
  refine mb_step (Q := QM g M) hg B35 44 (by decide) (by decide) (by decide) (by rfl) (fun h36 B36 => ?_)
  clear B35
  exact mdl_end (by omega) hg B36 (fun k => rfl)
end CM
