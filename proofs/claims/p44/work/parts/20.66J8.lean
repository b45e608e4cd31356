section AC
variable {h g hx : nk_H} {X n w a c hr : Nat} {pa cp : Nat → Nat} {s s' m : Nat → Nat → Int32}
/-- the new act's rows -/
theorem act_rows {k r p q : Nat} {pe am v5 v6 : Int32} (hI : Inv s n w a c hr) (hn : n < 160) (hq : q < w) (hp : X + 58 ≤ p) (hpN : p + 3 ≤ nk_N hx) (P6 : nk_P hx p 6 = some (pw s pa q)) (P7 : nk_P hx p 7 = some (p - 1)) (kd : nk_K hx (p - 1) = 11) (P8 : nk_P hx p 8 = some (p + 2)) (kt : nk_K hx (p + 2) = 1) (lt : nk_L hx (p + 2) = 6) (i9 : nk_I hx p 9 = v5) (i10 : nk_I hx p 10 = v6) (it : ∀ y, y < 6 → nk_I hx (p + 2) y = if y = 5 then s 1 0 else if y = 4 then s 27 0 else if y = 3 then am else if y = 2 then s 28 0 else if y = 1 then Int32.ofNat q else pe)
    (d0 : nk_I hx (p - 1) 0 = Int32.ofNat k) (d1 : nk_I hx (p - 1) 1 = s 1 0) (d2 : nk_I hx (p - 1) 2 = pe) (d3 : nk_I hx (p - 1) 3 = s 28 0) (d4 : nk_I hx (p - 1) 4 = am) (d5 : nk_I hx (p - 1) 5 = s 27 0) :
    (AS hx X a (pax pa n p) (uAf s n a k r pe (Int32.ofNat q) am v5 v6) → AS hx X (a + 1) (pax pa n p) (uAf s n a k r pe (Int32.ofNat q) am v5 v6)) ∧ (AI hx a (pax pa n p) (uAf s n a k r pe (Int32.ofNat q) am v5 v6) → AI hx (a + 1) (pax pa n p) (uAf s n a k r pe (Int32.ofNat q) am v5 v6)) := by
  have hw := hI.1.2.2.2.1
  have l1 : ∀ x y, x ≠ 29 → x ≠ 30 → x ≠ 35 → x ≠ 36 → uAf s n a k r pe (Int32.ofNat q) am v5 v6 x y = uA1 s n a k r pe (Int32.ofNat q) am x y := fun x y h1 h2 h3 h4 => by rw [uAf_1 _ _ _ _ _ _ _ _ _ _ h1 h2 h3 h4]
  have s32 : uAf s n a k r pe (Int32.ofNat q) am v5 v6 32 a = Int32.ofNat n := by rw [l1 _ _ (by decide) (by decide) (by decide) (by decide), uA1_32, if_pos rfl]
  have s34 : uAf s n a k r pe (Int32.ofNat q) am v5 v6 34 a = am := by rw [l1 _ _ (by decide) (by decide) (by decide) (by decide), uA1_34, if_pos rfl]
  have s33 : ∀ y, y < 6 → uAf s n a k r pe (Int32.ofNat q) am v5 v6 33 (6 * a + y) = if y = 5 then s 1 0 else if y = 4 then s 27 0 else if y = 3 then am else if y = 2 then s 28 0 else if y = 1 then Int32.ofNat q else pe := fun y hy => by
    rw [l1 _ _ (by decide) (by decide) (by decide) (by decide), uA1_33]
    have : y = 0 ∨ y = 1 ∨ y = 2 ∨ y = 3 ∨ y = 4 ∨ y = 5 := by omega
    rcases this with rfl | rfl | rfl | rfl | rfl | rfl <;> simp
  have s35 := (uAf_35 s n a k r pe (Int32.ofNat q) am v5 v6 a).1
  have s36 := (uAf_35 s n a k r pe (Int32.ofNat q) am v5 v6 a).2.1
  rw [if_pos rfl] at s35 s36
  have F := uMk_5 s n k 3 (Int32.ofNat a)
  have s5 : uAf s n a k r pe (Int32.ofNat q) am v5 v6 5 n = Int32.ofNat k := by rw [uAf_p _ _ _ _ _ _ _ _ _ _ (by decide)]; exact F.1
  have s6 : uAf s n a k r pe (Int32.ofNat q) am v5 v6 6 n = s 1 0 := by rw [uAf_p _ _ _ _ _ _ _ _ _ _ (by decide)]; exact F.2
  have s13 : uAf s n a k r pe (Int32.ofNat q) am v5 v6 13 = s 13 := uAf_O _ _ _ _ _ _ _ _ _ _ (by decide)
  generalize uAf s n a k r pe (Int32.ofNat q) am v5 v6 = T at *
  have ea : ac T (pax pa n p) a = p := by
    unfold ac
    rw [sN_of s32 (by omega)]; exact pax_n pa n p
  have e1 := s33 1 (by decide)
  have hsq : sN T 33 (6 * a + 1) = q := sN_of e1 (by omega)
  have epw : pw T (pax pa n p) q = pw s pa q := by
    have e9 : sN T 13 q = sN s 13 q := by unfold sN; rw [s13]
    unfold pw
    rw [e9]; exact pax_lt pa n p _ ((rg_pw hI).1 q hq)
  have e0 : T 33 (6 * a) = pe := by simpa using s33 0 (by decide)
  have e2 := s33 2 (by decide)
  have e4 := s33 4 (by decide)
  constructor
  · intro A x hx
    by_cases z : x < a
    · exact A x z
    · have : x = a := by omega
      subst this
      rw [ea, hsq, epw]
      exact ⟨P6, P7, kd, P8, kt, lt, hp, hpN⟩
  · intro A x hx
    by_cases z : x < a
    · exact A x z
    · have : x = a := by omega
      subst this
      rw [ea, sN_of s32 (by omega), s35, s36, s5, s6, s34, e0, e2, e4]
      exact ⟨i9, i10, fun i hi => by rw [it i hi, s33 i hi], d0, d1, d2, d3, d4, d5⟩
end AC
section AC
variable {h g hx : nk_H} {X n w a c hr : Nat} {pa cp : Nat → Nat} {s s' m : Nat → Nat → Int32}
theorem q_enter {g h9 : nk_H} {C l r p t k : Nat} {el : Nat → Nat} {v sl : Int32} (kC : nk_K g C = 9) (iC : nk_I g C 0 = Int32.ofNat k) (pC : nk_P g C 1 = some l) (L : LSq g l r el) (hr9 : r < 160) (hv : r ≠ 0 → nk_K g (el (r - 1)) = 8 ∧ nk_I g (el (r - 1)) 9 = v) (kp : nk_K g p = 8) (pt : nk_P g p 8 = some t) (kt : nk_K g t = 1) (lt : nk_L g t = 6) (hsl : sealS (if r = 0 then 1000 + Int32.ofNat k else v) (foldS (fun y => markS (Int32.ofNat k) (Int32.ofNat r) (Int32.ofNat y) (nk_I g t y)) 6) = sl) (e9 : f_Jx4a65c_add_9ea2d (nk_sI g p 9 sl) l (some p) = some (h9, 1)) : f_X1_enter g C (some p) = some (h9, Int32.ofNat r) := by
  have k9 : nk_K g C ∈ [9] := by rw [kC]; decide
  have k7 : nk_K g l ∈ [7] := by rw [L.1]; decide
  have sle := q_sealNow2 kC iC pC L hr9 hv kp pt kt lt
  rw [hsl] at sle
  unfold f_X1_enter
  rw [rd_P [9] k9 pC, rd_r [7] k7, do_eq (ls_size L), rd_r [9] k9, do_eq sle, wr_I [8] 9 _ (by rw [kp]; decide), rd_P (h := nk_sI g p 9 sl) [9] k9 pC, rd_r (h := nk_sI g p 9 sl) [7] k7, do_eq e9]
theorem q_c125 {g h9 : nk_H} {X C p r k : Nat} (kX : nk_K g X ∈ [18]) (pX : nk_P g X 3 = some (X + 8)) (k8 : nk_K g (X + 8) = 3) (l8 : k < nk_L g (X + 8)) (hk : k < 2147483648) (p8 : nk_P g (X + 8) k = some C) (kC : nk_K g C = 9) (e : f_X1_enter g C (some p) = some (h9, Int32.ofNat r)) : ((nk_gP [18] 3 g (some X)).bind fun x2 => ((nk_aP 3 g x2 (Int32.ofNat k)).bind fun x3 => ((nk_rcv [9] g x3).bind fun a4 => nk_do (f_X1_enter g a4 (some p)) fun h5 x6 => some (h5, (.inl x6))))) = (some (h9, .inl (Int32.ofNat r)) : Option (nk_H × (Int32 ⊕ String))) := by
  rw [rd_P [18] kX pX, rd_q 3 k8 l8 hk p8, rd_r [9] (by rw [kC]; decide), do_eq e]
theorem sealA_v (s : Nat → Nat → Int32) (n : Nat) {a : Nat} (k r : Nat) (pe po am : Int32) (ha : a < 160) : sealA s n a k r pe po am = sealS (if r = 0 then 1000 + Int32.ofNat k else s 35 (sN s 31 (160 * k + (r - 1)))) (foldS (fun y => markS (Int32.ofNat k) (Int32.ofNat r) (Int32.ofNat y) (if y = 5 then s 1 0 else if y = 4 then s 27 0 else if y = 3 then am else if y = 2 then s 28 0 else if y = 1 then po else pe)) 6) := by
  have n31 : sN (uA1 s n a k r pe po am) 31 (160 * k + r) = a := sN_of (by rw [uA1_31, if_pos rfl]) (by omega)
  have e35 : aheadS (uA1 s n a k r pe po am) k r = (if r = 0 then 1000 + Int32.ofNat k else s 35 (sN s 31 (160 * k + (r - 1)))) := by
    unfold aheadS
    by_cases hr0 : r = 0
    · rw [if_pos hr0, if_pos hr0]
    · have e31 : sN (uA1 s n a k r pe po am) 31 (160 * k + (r - 1)) = sN s 31 (160 * k + (r - 1)) := by unfold sN; rw [uA1_31, if_neg (by omega)]
      rw [if_neg hr0, if_neg hr0, e31, uA1_O _ _ _ _ _ _ _ _ (by decide)]
  have fe : foldS (fun p => markS (Int32.ofNat k) (Int32.ofNat r) (Int32.ofNat p) (uA1 s n a k r pe po am 33 (6 * a + p))) 6 = foldS (fun y => markS (Int32.ofNat k) (Int32.ofNat r) (Int32.ofNat y) (if y = 5 then s 1 0 else if y = 4 then s 27 0 else if y = 3 then am else if y = 2 then s 28 0 else if y = 1 then po else pe)) 6 := foldS_congr (fun y hy => by
    have e : uA1 s n a k r pe po am 33 (6 * a + y) = (if y = 5 then s 1 0 else if y = 4 then s 27 0 else if y = 3 then am else if y = 2 then s 28 0 else if y = 1 then po else pe) := by
      rw [uA1_33]
      have : y = 0 ∨ y = 1 ∨ y = 2 ∨ y = 3 ∨ y = 4 ∨ y = 5 := by omega
      rcases this with rfl | rfl | rfl | rfl | rfl | rfl <;> simp
    show markS _ _ _ (uA1 s n a k r pe po am 33 (6 * a + y)) = markS _ _ _ _
    rw [e])
  unfold sealA nowS
  rw [e35, n31, fe]
/-- an act that nothing is against: from the object on -/
theorem q_act (W : WR h X n w a c hr pa cp s m) (hn : n < 160) {k q d r : Nat} (hk : k < 6) (hr9 : r = sN s 30 k) (hq : q < w) (pe am : Int32) (hd : nk_N h = d + 1) (hdX : X + 57 ≤ d) (kd : nk_K h d = 11) (d0 : nk_I h d 0 = Int32.ofNat k) (d1 : nk_I h d 1 = s 1 0) (d2 : nk_I h d 2 = pe) (d3 : nk_I h d 3 = s 28 0) (d4 : nk_I h d 4 = am) (d5 : nk_I h d 5 = s 27 0) :
    ∃ h', ((some (nk_al h 8 0 11)).bind fun h35 => (nk_do (f_X0_init h35 (nk_N h) (some (pw s pa q)) (some d)) fun h36 x37 => ((nk_gP [18] 1 h36 (some X)).bind fun x38 => ((nk_gI [18] 5 h36 (some X)).bind fun x39 => ((nk_rcv [15] h36 x38).bind fun a40 => nk_do (f_X7_publish h36 a40 (some (nk_N h)) (Int32.ofNat k) x39) fun h41 x42 => ((nk_rcv [18] h41 (some X)).bind fun a43 => nk_do (f_X11_reasonByMail h41 a43 (some (nk_N h))) fun h44 x45 => (if x45 = 0 then (f_X11_act_c125 h44 X (Int32.ofNat k) (some (nk_N h)) 1 (some (nk_N h))) else (f_X11_act_c125 h44 X (Int32.ofNat k) (some (nk_N h)) 0 (some (nk_N h)))))))))) = some (h', .inl (Int32.ofNat r)) ∧
      WR h' X (n + 1) w (a + 1) c hr (pax pa n (nk_N h)) cp (uA s n w a k r pe (Int32.ofNat q) am) m ∧ nk_N h' ≤ nk_N h + 6 ∧ nk_S h' ≤ nk_S h + 600 := by
  have hN := W.N
  have hb := W.b
  have hI := W.I
  have s10 : s 1 0 = Int32.ofNat hr := hI.1.2.2.2.2.2.2.2.2.2.1
  have hacn := hI.1.2.2.2.2.2.2.1
  obtain ⟨g, eg, G0, Ng, Sg, kp, p5, p6, p7, p8, kq1, lq1, iq1, kt, lt, it, ip0⟩ := pc_act W (d := d) (by omega) kd hq
  generalize hp : nk_N h = p at *
  have dp1 : p - 1 = d := by omega
  have CLh := W.1.2.2.2.2.2.1
  have LLh : LL h X := CLh.ll (by omega)
  have LLg : LL g X := LLh.gn G0 (fun _ _ => id)
  have OWg : OW g X := W.2.1.gn2 LLh G0 (fun _ _ => id)
  have CFg : CF g X := W.1.1.1.gn G0 (by omega) (fun _ _ _ => id)
  obtain ⟨l1, l2, l3, l4⟩ := CLh
  have l1g := l1.gn G0 (by omega) id id (fun _ _ => id)
  have isL5 : isL X (X + 5) := Or.inl rfl
  have isL7 : isL X (X + 7) := Or.inr (Or.inl rfl)
  have isL21 : isL X (X + 21) := Or.inr (Or.inr (Or.inl rfl))
  have kl : ∀ k, k < 6 → isL X (X + 10 + 2 * k) := fun k hk => Or.inr (Or.inr (Or.inr ⟨k, hk, rfl⟩))
  obtain ⟨h41, e1, G1, L', bN, bS, fr, Ip, Iq⟩ := pc_publish (g := g) (p := p) (q := p + 1) (pa' := pax pa n p) CFg.2.2.2.2.2.2.2.1.1 CFg.2.2.2.2.2.2.2.1.2.1 l1g (by omega) (by omega) (by omega) (by omega) (by omega) (by rw [kp]; decide) p5 kq1 lq1 hn hk (s 1 0) (pax_lt pa n p) (pax_n pa n p)
  have ndL : ∀ x, x ≠ X + 5 → nk_K g x ≠ 4 → ¬ dL g (X + 5) x := fun x h1 h2 z => by
    rcases z with z | ⟨-, z⟩
    · exact h1 z
    · exact h2 z
  have hxg : ∀ x, x < nk_N g → x ≠ X + 5 → nk_K g x ≠ 4 → nk_K h41 x = nk_K g x ∧ nk_L h41 x = nk_L g x ∧ nk_P h41 x = nk_P g x := fun x h1 h2 h3 => by
    obtain ⟨u1, u2, u3, -⟩ := G1.2.2.2 x h1
    exact ⟨u1, u2, u3 (ndL x h2 h3)⟩
  have G41 : Gn h h41 (fun x => x = X + 5) (dL g (X + 5)) := (G0.mono (DI' := fun x => x = X + 5) (DP' := dL g (X + 5)) (fun _ z => z.elim) (fun _ z => z.elim)).on G1 (fun x z => by
    rcases z with z | z | z
    · exact Or.inl z
    · exact Or.inr (by omega)
    · exact Or.inr (by omega)) (fun x z => Or.inl z)
  have c1 := hxg p (by omega) (by omega) (by rw [kp]; decide)
  have c2 := hxg (p + 1) (by omega) (by omega) (by rw [kq1]; decide)
  have c3 := hxg (p + 2) (by omega) (by omega) (by rw [kt]; decide)
  have it41 : nk_I h41 (p + 2) = nk_I g (p + 2) := (G1.2.2.2 (p + 2) (by omega)).2.2.2 (by omega)
  have kdg : nk_K g d = 11 := (G0.2.2.2 d (by omega)).1.trans kd
  have idg : nk_I g d = nk_I h d := (G0.2.2.2 d (by omega)).2.2.2 id
  have kd41 : nk_K h41 d = 11 := (G1.2.2.2 d (by omega)).1.trans kdg
  have id41 : nk_I h41 d = nk_I h d := ((G1.2.2.2 d (by omega)).2.2.2 (by omega)).trans idg
  have LL41 : LL h41 X := fun l hl => by
    by_cases e : l = X + 5
    · subst e
      exact ⟨L'.ll.1, Nat.lt_of_lt_of_le (LLg _ hl).2.1 G1.1, L'.ll.2⟩
    · exact LLg.add G1 L' l hl
  have OW41 : OW h41 X := OWg.add LLg isL5 G1 fr
  have d5' : ∀ l, isL X l → l ≠ X + 5 → ¬ (l = X + 5 ∨ l = p ∨ l = p + 1) := fun l hl hne => by
    have := (LLh l hl).2.1
    omega
  have Ip9 : ∀ y, 5 ≤ y → nk_I h41 p y = 0 := fun y hy => by
    rw [Ip]
    unfold pubI
    rw [if_neg (by omega), if_neg (by omega), if_neg (by omega), if_neg (by omega), if_neg (by omega)]
    exact ip0 y
  have itv : ∀ y, y < 6 → nk_I h41 (p + 2) y = if y = 5 then s 1 0 else if y = 4 then s 27 0 else if y = 3 then am else if y = 2 then s 28 0 else if y = 1 then Int32.ofNat q else pe := fun y hy => by
    rw [it41, it y hy, d1, d5, d4, d3, d2]
  -- what holds of the state, whatever the seal and the standing
  have eFa : ∀ v5 v6 x, (x < 3 ∨ (12 ≤ x ∧ x < 29) ∨ x = 8 ∨ x = 9 ∨ 36 < x) → uAf s n a k r pe (Int32.ofNat q) am v5 v6 x = s x := fun v5 v6 x hx => uAf_O s n a k r pe (Int32.ofNat q) am v5 v6 hx
  have Fa : ∀ v5 v6, MkF s (uAf s n a k r pe (Int32.ofNat q) am v5 v6) n k (Int32.ofNat hr) := fun v5 v6 => uAf_F hI hn hk
  have t4 : ∀ v5 v6, uAf s n a k r pe (Int32.ofNat q) am v5 v6 4 n = 3 := fun v5 v6 => by rw [uAf_p _ _ _ _ _ _ _ _ _ _ (by decide)]; exact uMk_4 _ _ _ _ _
  have eWa : ∀ v5 v6, eqW s (uAf s n a k r pe (Int32.ofNat q) am v5 v6) w := fun v5 v6 q hq x x1 x2 => by rw [eFa v5 v6 x (by omega)]
  have eAa : ∀ v5 v6 x, x < a → eqA s (uAf s n a k r pe (Int32.ofNat q) am v5 v6) x := fun v5 v6 x hx => uAf_A s n k r pe (Int32.ofNat q) am v5 v6 hx
  have nIa : ∀ v5 v6, PI1 h41 p n (uAf s n a k r pe (Int32.ofNat q) am v5 v6) := fun v5 v6 => PI1.new (t := s 1 0) hk (by rw [s10]; exact ia_m1 (by omega)) (ip0 3) Ip (fun j hj => by rw [Iq]; show (if j = k then s 1 0 else nk_I g (p + 1) j) = _; rw [iq1 j hj]) (Fa v5 v6).1 (by rw [(Fa v5 v6).2.1, s10]) (fun k' hk' => by rw [(Fa v5 v6).2.2.1 k' hk', s10]) ((Fa v5 v6).2.2.2.1)
  have hIa : ∀ v5 (b : Bool), Inv (uAf s n a k r pe (Int32.ofNat q) am v5 (b2i b)) (n + 1) w (a + 1) c hr := fun v5 b => uAf_I hI hn hk hr9 hq rfl rfl
  have rows41 := act_rows (hx := h41) (X := X) (k := k) (r := r) (p := p) (q := q) (pe := pe) (am := am) (v5 := 0) (v6 := b2i false) hI hn hq (by omega) (by have := G1.1; omega) (by rw [c1.2.2]; exact p6) (by rw [c1.2.2, dp1]; exact p7) (by rw [dp1]; exact kd41) (by rw [c1.2.2]; exact p8) (c3.1.trans kt) (c3.2.1.trans lt) (Ip9 9 (by decide)) (Ip9 10 (by decide)) itv (by rw [dp1, id41]; exact d0) (by rw [dp1, id41]; exact d1) (by rw [dp1, id41]; exact d2) (by rw [dp1, id41]; exact d3) (by rw [dp1, id41]; exact d4) (by rw [dp1, id41]; exact d5)
  have CQ41 : CQ h41 X (n + 1) w (a + 1) (pax pa n p) (uAf s n a k r pe (Int32.ofNat q) am 0 (b2i false)) := CQ.made W G41 (fun x _ z => Or.inl (Or.inl z)) (fun x hx z => by
      rcases z with z | ⟨-, z⟩
      · exact Or.inl (Or.inl z)
      · exact Or.inr (by rw [← (G0.2.2.2 x hx).1]; exact z)) (p := p) (by omega) (by have := G1.1; omega) (pax_lt pa n p) (pax_n pa n p) (fun x hx => eFa _ _ x (by omega)) (Fa _ _).2.2.2.2.2 (fun j hj k hk => (Fa _ _).2.2.2.2.1 j (by omega) (by omega) k hk) (eWa _ _) (eAa _ _) L' ⟨by rw [c1.1, kp, t4]; rfl, by rw [c1.2.2]; exact p5, c2.1.trans kq1, c2.2.1.trans lq1⟩ (nIa _ _) id (fun e => by rw [t4] at e; exact absurd e (by decide)) (fun e => by rw [t4] at e; exact absurd e (by decide)) rows41.1 rows41.2
  have hI0 := hIa 0 false
  have hN41 : X + 57 ≤ nk_N h41 := by have := G1.1; omega
  obtain ⟨h44, e44, S44, hS44⟩ := look_readable CQ41 hI0 hN41 (m := n) (by omega)
  have e44' : f_X7_lookAtReadable h41 (X + 4) (some p) = some (h44, ()) := by
    have : pax pa n p n = p := pax_n pa n p
    rw [this] at e44; exact e44
  have CQ44 : CQ h44 X (n + 1) w (a + 1) (pax pa n p) (uAf s n a k r pe (Int32.ofNat q) am 0 (b2i false)) := CQ.gn CQ41 hI0 hN41 (S44.gn _ _ (Or.inl rfl))
  obtain ⟨z1, z2, z3, z4, z5, z6, z7, z8⟩ := S44
  have i44 : ∀ x, x ≠ X + 6 → nk_I h44 x = nk_I h41 x := z8
  obtain ⟨⟨ob, eob⟩, ⟨kd9, hkd9, ekd9⟩, -⟩ := hI.2.2.2.2.2.2.2.1
  have epw : pw (uAf s n a k r pe (Int32.ofNat q) am 0 (b2i false)) (pax pa n p) q = pw s pa q := by
    have e9 : sN (uAf s n a k r pe (Int32.ofNat q) am 0 (b2i false)) 13 q = sN s 13 q := by unfold sN; rw [eFa _ _ 13 (by decide)]
    unfold pw
    rw [e9]; exact pax_lt pa n p _ ((rg_pw hI).1 q hq)
  have hre := q_reason CQ44 hI0 hS44 hq (d := d) (by rw [z1]; exact kd41) (k0 := Int32.ofNat k) (t := s 1 0) (person := pe) (amt := am) (off := s 27 0) hkd9 eob (by rw [i44 d (by omega), id41]; exact d0) (by rw [i44 d (by omega), id41]; exact d1) (by rw [i44 d (by omega), id41]; exact d2) (by rw [i44 d (by omega), id41, d3]; exact ekd9) (by rw [i44 d (by omega), id41]; exact d4) (by rw [i44 d (by omega), id41]; exact d5)
  rw [epw] at hre
  -- the reason is the reference's
  have fS : reasonS (uAf s n a k r pe (Int32.ofNat q) am 0 (b2i false)) (n + 1) w (Int32.ofNat (6 + n)) (Int32.ofNat k) (s 1 0) pe q (Int32.ofNat kd9) am (s 27 0) = faultS (uA1 s n a k r pe (Int32.ofNat q) am) (n + 1) w a := by
    have fx : faultS (uA1 s n a k r pe (Int32.ofNat q) am) (n + 1) w a = faultS (uAf s n a k r pe (Int32.ofNat q) am 0 (b2i false)) (n + 1) w a := faultS_x (fun x hx => (uAf_1 _ _ _ _ _ _ _ _ _ _ hx.2.1 hx.2.2.1 hx.2.2.2.1 hx.2.2.2.2).symm) _ _ _
    rw [fx]
    have l1 : ∀ x y, x ≠ 29 → x ≠ 30 → x ≠ 35 → x ≠ 36 → uAf s n a k r pe (Int32.ofNat q) am 0 (b2i false) x y = uA1 s n a k r pe (Int32.ofNat q) am x y := fun x y h1 h2 h3 h4 => by rw [uAf_1 _ _ _ _ _ _ _ _ _ _ h1 h2 h3 h4]
    have s32 : sN (uAf s n a k r pe (Int32.ofNat q) am 0 (b2i false)) 32 a = n := sN_of (by rw [l1 _ _ (by decide) (by decide) (by decide) (by decide), uA1_32, if_pos rfl]) (by omega)
    have s331 : sN (uAf s n a k r pe (Int32.ofNat q) am 0 (b2i false)) 33 (6 * a + 1) = q := sN_of (by rw [l1 _ _ (by decide) (by decide) (by decide) (by decide), uA1_33, if_neg (by omega), if_neg (by omega), if_neg (by omega), if_neg (by omega), if_pos rfl]) (by omega)
    have s330 : uAf s n a k r pe (Int32.ofNat q) am 0 (b2i false) 33 (6 * a) = pe := by rw [l1 _ _ (by decide) (by decide) (by decide) (by decide), uA1_33, if_neg (by omega), if_neg (by omega), if_neg (by omega), if_neg (by omega), if_neg (by omega), if_pos rfl]
    have s332 : uAf s n a k r pe (Int32.ofNat q) am 0 (b2i false) 33 (6 * a + 2) = Int32.ofNat kd9 := by rw [l1 _ _ (by decide) (by decide) (by decide) (by decide), uA1_33, if_neg (by omega), if_neg (by omega), if_neg (by omega), if_pos rfl]; exact ekd9
    have s334 : uAf s n a k r pe (Int32.ofNat q) am 0 (b2i false) 33 (6 * a + 4) = s 27 0 := by rw [l1 _ _ (by decide) (by decide) (by decide) (by decide), uA1_33, if_neg (by omega), if_pos rfl]
    have s34 : uAf s n a k r pe (Int32.ofNat q) am 0 (b2i false) 34 a = am := by rw [l1 _ _ (by decide) (by decide) (by decide) (by decide), uA1_34, if_pos rfl]
    have s5 : uAf s n a k r pe (Int32.ofNat q) am 0 (b2i false) 5 n = Int32.ofNat k := (Fa _ _).1
    have s6 : uAf s n a k r pe (Int32.ofNat q) am 0 (b2i false) 6 n = s 1 0 := by rw [(Fa _ _).2.1, s10]
    unfold faultS
    rw [s32, s331, s330, s332, s334, s34, s5, s6]
  rw [fS] at hre
  generalize hst : stdA s n w a k r pe (Int32.ofNat q) am = st
  have hst' : st = decide (faultS (uA1 s n a k r pe (Int32.ofNat q) am) (n + 1) w a = 0) := hst.symm
  have kp44 : nk_K h44 p = 8 := by rw [z1, c1.1]; exact kp
  let h45 := nk_sI h44 p 10 (b2i st)
  generalize hsl : sealA s n a k r pe (Int32.ofNat q) am = sl
  let h46 := nk_sI h45 p 9 sl
  have GA : Gn h41 h46 (fun x => x = X + 6 ∨ x = p) no := (((SM.gn (X := X) ⟨z1, z2, z3, z4, z5, z6, z7, z8⟩ (fun x => x = X + 6 ∨ x = p) no (Or.inl rfl))).sI 10 _ (Or.inl (Or.inr rfl))).sI 9 _ (Or.inl (Or.inr rfl))
  have N46 : nk_N h46 = nk_N h41 := z4
  have LL46 : LL h46 X := LL41.gn GA (fun _ _ => id)
  have OW46 : OW h46 X := OW41.gn2 LL41 GA (fun _ _ => id)
  have nl6 : ∀ l, isL X l → ¬ (l = X + 6 ∨ l = p) := fun l hl => by
    have h1 := (LLh l hl).2.1
    have h2 : l ≠ X + 6 := fun z => by
      unfold isL at hl
      rcases hl with y | y | y | ⟨k, hk, y⟩ <;> omega
    omega
  have R41 : ∀ (l m : Nat) (el : Nat → Nat), isL X l → l ≠ X + 5 → LSq h l m el → LSq h41 l m el := fun l m el hl hne L =>
    (L.gn G0 (by have := (LLh l hl).2.1; omega) id id (fun _ _ => id)).keep OWg LLg isL5 hl hne G1 (d5' l hl hne)
  have R46 : ∀ (l m : Nat) (el : Nat → Nat), isL X l → l ≠ X + 5 → LSq h l m el → LSq h46 l m el := fun l m el hl hne L =>
    ((R41 l m el hl hne L).gn GA (LL41 l hl).2.1 (nl6 l hl) id (fun _ _ => id))
  have Lk := R46 _ _ _ (kl k hk) (by omega) (l3 k hk)
  rw [← hr9] at Lk
  have sN31 : ∀ i, i < r → sN (uAf s n a k r pe (Int32.ofNat q) am sl (b2i st)) 31 (160 * k + i) = sN s 31 (160 * k + i) := fun i hi => by
    unfold sN
    rw [uAf_1 _ _ _ _ _ _ _ _ _ _ (by decide) (by decide) (by decide) (by decide), uA1_31, if_neg (by omega)]
  have sN31r : sN (uAf s n a k r pe (Int32.ofNat q) am sl (b2i st)) 31 (160 * k + r) = a := sN_of (by rw [uAf_1 _ _ _ _ _ _ _ _ _ _ (by decide) (by decide) (by decide) (by decide), uA1_31, if_pos rfl]) (by omega)
  have sN32 : ∀ x, x < a → sN (uAf s n a k r pe (Int32.ofNat q) am sl (b2i st)) 32 x = sN s 32 x := fun x hx => by unfold sN; rw [(eAa _ _ x hx).1]
  have sN32a : sN (uAf s n a k r pe (Int32.ofNat q) am sl (b2i st)) 32 a = n := sN_of (by rw [uAf_1 _ _ _ _ _ _ _ _ _ _ (by decide) (by decide) (by decide) (by decide), uA1_32, if_pos rfl]) (by omega)
  have hrr : ∀ i, i < r → sN s 31 (160 * k + i) < a ∧ sN s 32 (sN s 31 (160 * k + i)) < n ∧ i < 160 := fun i hi => ch_lt hI hk (by rw [← hr9]; exact hi)
  have hr160 : r < 160 := by
    obtain ⟨x, ex, hx, -⟩ := hI.2.2.2.2.2.1.1 k hk
    rw [hr9, sN_of ex (by omega)]; omega
  have kp46 : 7 ≤ nk_K h46 p ∧ nk_K h46 p ≤ 19 := by show 7 ≤ nk_K h44 p ∧ nk_K h44 p ≤ 19; rw [kp44]; decide
  obtain ⟨h9, e9, G9, L9, b9, s9, fr9⟩ := ls_add Lk (show X + 10 + 2 * k < nk_N h46 by rw [N46]; omega) hr160 (x := p) (by rw [N46]; have := G1.1; omega) kp46 (el' := fun i => ac (uAf s n a k r pe (Int32.ofNat q) am sl (b2i st)) (pax pa n p) (sN (uAf s n a k r pe (Int32.ofNat q) am sl (b2i st)) 31 (160 * k + i))) (fun i hi => by
    obtain ⟨u1, u2, -⟩ := hrr i hi
    show ac _ _ (sN _ 31 _) = ac s pa (sN s 31 _)
    rw [sN31 i hi]
    unfold ac
    rw [sN32 _ u1]; exact pax_lt pa n p _ u2) (by
    show ac _ _ (sN _ 31 _) = p
    rw [sN31r]
    unfold ac
    rw [sN32a]; exact pax_n pa n p)
  have isLk := kl k hk
  have i46 : ∀ x, x ≠ X + 6 → x ≠ p → nk_I h46 x = nk_I h41 x := fun x h1 h2 => by
    funext y
    show nk_u2 (nk_u2 (nk_I h44) p 10 _) p 9 _ x y = _
    rw [nk_u2_ne _ _ _ _ _ h2, nk_u2_ne _ _ _ _ _ h2, i44 x h1]
  have ip46 : ∀ y, nk_I h46 p y = if y = 9 then sl else if y = 10 then b2i st else nk_I h41 p y := fun y => by
    show nk_u2 (nk_u2 (nk_I h44) p 10 _) p 9 _ p y = _
    by_cases q9 : y = 9
    · rw [q9, nk_u2_eq, if_pos rfl]
    · rw [nk_u2_nk _ _ _ _ _ q9, if_neg q9]
      by_cases q10 : y = 10
      · rw [q10, nk_u2_eq, if_pos rfl]
      · rw [nk_u2_nk _ _ _ _ _ q10, if_neg q10, i44 p (by omega)]
  have o9 : ∀ x, x < nk_N h46 → x ≠ X + 10 + 2 * k → nk_K h46 x ≠ 4 → nk_K h9 x = nk_K h46 x ∧ nk_L h9 x = nk_L h46 x ∧ nk_P h9 x = nk_P h46 x ∧ nk_I h9 x = nk_I h46 x := fun x h1 h2 h3 => by
    obtain ⟨u1, u2, u3, u4⟩ := G9.2.2.2 x h1
    exact ⟨u1, u2, u3 (fun z => by
      rcases z with z | ⟨-, z⟩
      · exact h2 z
      · exact h3 z), u4 h2⟩
  have K46 : ∀ x, nk_K h46 x = nk_K h41 x := fun x => by show nk_K h44 x = _; rw [z1]
  have L46' : ∀ x, nk_L h46 x = nk_L h41 x := fun x => by show nk_L h44 x = _; rw [z3]
  have P46 : ∀ x, nk_P h46 x = nk_P h41 x := fun x => by show nk_P h44 x = _; rw [z2]
  have pN : p + 3 ≤ nk_N h46 := by rw [N46]; have := G1.1; omega
  have kp46' : nk_K h46 p = 8 := by rw [K46, c1.1]; exact kp
  have kq46 : nk_K h46 (p + 1) = 1 := by rw [K46, c2.1]; exact kq1
  have kt46 : nk_K h46 (p + 2) = 1 := by rw [K46, c3.1]; exact kt
  have kd46 : nk_K h46 d = 11 := by rw [K46]; exact kd41
  obtain ⟨a1, a2, a3, a4⟩ := o9 p (by omega) (by omega) (by rw [kp46']; decide)
  obtain ⟨a5, a6, a7, a8⟩ := o9 (p + 1) (by omega) (by omega) (by rw [kq46]; decide)
  obtain ⟨a9, a10, a11, a12⟩ := o9 (p + 2) (by omega) (by omega) (by rw [kt46]; decide)
  obtain ⟨a13, a14, a15, a16⟩ := o9 d (by omega) (by omega) (by rw [kd46]; decide)
  have rows9 := act_rows (hx := h9) (X := X) (k := k) (r := r) (p := p) (q := q) (pe := pe) (am := am) (v5 := sl) (v6 := b2i st) hI hn hq (by omega) (by have := G9.1; omega) (by rw [a3, P46, c1.2.2]; exact p6) (by rw [a3, P46, c1.2.2, dp1]; exact p7) (by rw [dp1, a13]; exact kd46) (by rw [a3, P46, c1.2.2]; exact p8) (a9.trans kt46) (by rw [a10, L46', c3.2.1]; exact lt) (by rw [a4, ip46]; rfl) (by rw [a4, ip46]; rfl) (fun y hy => by rw [a12, i46 _ (by omega) (by omega)]; exact itv y hy) (by rw [dp1, a16, i46 _ (by omega) (by omega), id41]; exact d0) (by rw [dp1, a16, i46 _ (by omega) (by omega), id41]; exact d1) (by rw [dp1, a16, i46 _ (by omega) (by omega), id41]; exact d2) (by rw [dp1, a16, i46 _ (by omega) (by omega), id41]; exact d3) (by rw [dp1, a16, i46 _ (by omega) (by omega), id41]; exact d4) (by rw [dp1, a16, i46 _ (by omega) (by omega), id41]; exact d5)
  have nI9 : PI1 h9 p n (uAf s n a k r pe (Int32.ofNat q) am sl (b2i st)) := by
    obtain ⟨f1, f2, f3, f4, f5, f6⟩ := nIa sl (b2i st)
    unfold PI1
    rw [a4, a8, ip46, ip46, ip46, ip46, ip46, i46 (p + 1) (by omega) (by omega)]
    exact ⟨f1, f2, f3, f4, f5, f6⟩
  have G : Gn h h9 (fun x => x = X + 5 ∨ x = X + 6 ∨ x = X + 10 + 2 * k) (fun x => dL g (X + 5) x ∨ dL h46 (X + 10 + 2 * k) x) := (((G41.mono (DI' := fun x => x = X + 5 ∨ x = X + 6 ∨ x = X + 10 + 2 * k) (DP' := fun x => dL g (X + 5) x ∨ dL h46 (X + 10 + 2 * k) x) (fun x z => Or.inl z) (fun x z => Or.inl z)).on GA (fun x z => by
      rcases z with z | z
      · exact Or.inl (Or.inr (Or.inl z))
      · exact Or.inr (by omega)) (fun x z => z.elim))).on G9 (fun x z => Or.inl (Or.inr (Or.inr z))) (fun x z => Or.inl (Or.inr z))
  have W9 : WR h9 X (n + 1) w (a + 1) c hr (pax pa n p) cp (uAf s n a k r pe (Int32.ofNat q) am sl (b2i st)) m := by
    refine W.made G (fun x _ z => ?_) (fun x hx z => ?_) (p := p) (by omega) (by have := G9.1; omega) (pax_lt pa n p) (pax_n pa n p) (fun x hx => eFa _ _ x (by omega)) (Fa _ _).2.2.2.2.2 (fun j hj k hk => (Fa _ _).2.2.2.2.1 j (by omega) (by omega) k hk) (eWa _ _) (eAa _ _) ⟨?_, ?_, fun k' hk' => ?_, ?_⟩ (OW46.add LL46 isLk G9 fr9) ⟨by rw [a1, kp46', t4]; rfl, by rw [a3, P46, c1.2.2]; exact p5, a5.trans kq46, by rw [a6, L46', c2.2.1]; exact lq1⟩ nI9 id (fun e => by rw [t4] at e; exact absurd e (by decide)) (fun e => by rw [t4] at e; exact absurd e (by decide)) rows9.1 rows9.2 (by rw [(Fa _ _).2.1]) ((Fa _ _).rt hb.2.2.2.2 hk) (hIa sl st)
    · rcases z with z | z | z
      · exact Or.inl (Or.inl z)
      · exact Or.inr z
      · exact Or.inl (by rw [z]; exact isLk)
    · have kx : nk_K g x = nk_K h x := (G0.2.2.2 x hx).1
      have kx2 : nk_K h46 x = nk_K g x := by rw [K46, (G1.2.2.2 x (by omega)).1]
      rcases z with (z | ⟨-, z⟩) | (z | ⟨-, z⟩)
      · exact Or.inl (Or.inl z)
      · exact Or.inr (by rw [← kx]; exact z)
      · exact Or.inl (by rw [z]; exact isLk)
      · exact Or.inr (by rw [← kx, ← kx2]; exact z)
    · exact (L'.gn GA (LL41 _ isL5).2.1 (nl6 _ isL5) id (fun _ _ => id)).keep OW46 LL46 isLk isL5 (by omega) G9 (by omega)
    · refine LSq.el ((R46 _ _ _ isL7 (by omega) l2).keep OW46 LL46 isLk isL7 (by omega) G9 (by omega)) (fun q' hq' => ?_)
      have e9 : sN (uAf s n a k r pe (Int32.ofNat q) am sl (b2i st)) 13 q' = sN s 13 q' := by unfold sN; rw [eFa _ _ 13 (by decide)]
      unfold pw
      rw [e9]; exact pax_lt pa n p _ ((rg_pw hI).1 q' hq')
    · have s30 := (uAf_35 s n a k r pe (Int32.ofNat q) am sl (b2i st) k').2.2.2
      by_cases z : k' = k
      · subst z
        rw [if_pos rfl] at s30
        rw [sN_of s30 (by omega)]
        exact L9
      · rw [if_neg z] at s30
        have e30 : sN (uAf s n a k r pe (Int32.ofNat q) am sl (b2i st)) 30 k' = sN s 30 k' := by unfold sN; rw [s30]
        rw [e30]
        refine LSq.el ((R46 _ _ _ (kl k' hk') (by omega) (l3 k' hk')).keep OW46 LL46 isLk (kl k' hk') (by omega) G9 (by omega)) (fun i hi => ?_)
        obtain ⟨u1, u2, u3⟩ := ch_lt hI hk' hi
        have e31 : sN (uAf s n a k r pe (Int32.ofNat q) am sl (b2i st)) 31 (160 * k' + i) = sN s 31 (160 * k' + i) := by
          unfold sN
          rw [uAf_1 _ _ _ _ _ _ _ _ _ _ (by decide) (by decide) (by decide) (by decide), uA1_31, if_neg (by omega)]
        rw [e31]
        unfold ac
        rw [sN32 _ u1]; exact pax_lt pa n p _ u2
    · exact (R46 _ _ _ isL21 (by omega) l4).keep OW46 LL46 isLk isL21 (by omega) G9 (by omega)
  refine ⟨h9, ?_, ?_, by omega, ?_⟩
  rotate_left
  · unfold uA
    rw [hst, hsl]
    exact W9
  · have : nk_S h46 = nk_S h41 := z5
    omega
  · obtain ⟨p1, p2, p3⟩ := k15 W
    have gX := G0.2.2.2 X (by omega)
    have gX1 : nk_K g X ∈ [18] := by rw [gX.1]; exact p3
    have gX2 : nk_P g X 1 = some (X + 4) := by rw [gX.2.2.1 id]; exact p1
    have gX5 : nk_I g X 5 = s 1 0 := by rw [gX.2.2.2 id]; exact W.1.2.1.1
    have g4 : nk_K g (X + 4) ∈ [15] := by rw [(G0.2.2.2 (X + 4) (by omega)).1]; exact p2
    have kX := (W.1.1.1).1
    have kXg : nk_K g X = 18 := gX.1.trans kX
    have xX := hxg X (by omega) (by omega) (by rw [kXg]; decide)
    have k41 : nk_K h41 X ∈ [18] := by rw [xX.1]; exact gX1
    have P41 : nk_P h41 X = nk_P h X := by rw [xX.2.2, gX.2.2.1 id]
    have k44 : nk_K h44 X ∈ [18] := by rw [z1]; exact k41
    have k4g : nk_K g (X + 4) = 15 := CFg.2.2.2.2.2.2.2.1.1
    have k154 : nk_K h41 (X + 4) ∈ [15] := by rw [(hxg (X + 4) (by omega) (by omega) (by rw [k4g]; decide)).1]; exact g4
    have k15b : nk_K h44 (X + 4) ∈ [15] := by rw [z1]; exact k154
    have kp8 : nk_K h44 p ∈ [8] := by rw [kp44]; decide
    have rb : f_X11_reasonByMail h41 X (some p) = some (h44, faultS (uA1 s n a k r pe (Int32.ofNat q) am) (n + 1) w a) := by
      unfold f_X11_reasonByMail
      rw [rd_P (b := some (X + 4)) [18] k41 (by rw [P41]; exact p1), rd_r [15] k154, do_eq e44', rd_P (b := some (X + 4)) [18] k44 (by rw [z2, P41]; exact p1), rd_P (b := some (pw s pa q)) [8] kp8 (by rw [z2, c1.2.2]; exact p6), rd_P (b := some d) [8] kp8 (by rw [z2, c1.2.2]; exact p7), rd_r [15] k15b, do_eq hre]
    have tail : f_X11_act_c125 h44 X (Int32.ofNat k) (some p) (b2i st) (some p) = some (h9, .inl (Int32.ofNat r)) := by
      unfold f_X11_act_c125
      obtain ⟨-, -, -, -, q5, -, -, -, ⟨q8, q9⟩, q10⟩ := W.1.1.1
      obtain ⟨v1, v2, v3⟩ := q10 k hk
      have cell : ∀ x, x < nk_N h → x ≠ X + 5 → x ≠ X + 6 → nk_K h x ≠ 4 → nk_K h45 x = nk_K h x ∧ nk_L h45 x = nk_L h x ∧ nk_P h45 x = nk_P h x ∧ nk_I h45 x = nk_I h x := fun x y1 y2 y6 y3 => by
        obtain ⟨w1, w2, w3, w4⟩ := G0.2.2.2 x (by omega)
        have kx : nk_K g x ≠ 4 := by rw [w1]; exact y3
        obtain ⟨t1, t2, t3⟩ := hxg x (by omega) y2 kx
        have t4 : nk_I h41 x = nk_I g x := (G1.2.2.2 x (by omega)).2.2.2 (by omega)
        refine ⟨?_, ?_, ?_, ?_⟩
        · show nk_K h44 x = _; rw [z1, t1, w1]
        · show nk_L h44 x = _; rw [z3, t2, w2]
        · show nk_P h44 x = _; rw [z2, t3, w3 id]
        · funext y
          show nk_u2 (nk_I h44) p 10 _ x y = _
          rw [nk_u2_ne _ _ _ _ _ (by omega), i44 x y6, t4, w4 id]
      obtain ⟨x1, -, x3, -⟩ := cell X (by omega) (by omega) (by omega) (by rw [kX]; decide)
      obtain ⟨y1, y2, y3, -⟩ := cell (X + 8) (by omega) (by omega) (by omega) (by rw [q8]; decide)
      obtain ⟨u1, -, u3, u4⟩ := cell (X + 9 + 2 * k) (by omega) (by omega) (by omega) (by rw [v2]; decide)
      have k9 : nk_K h45 (X + 9 + 2 * k) = 9 := by rw [u1]; exact v2
      have k9' : nk_K h45 (X + 9 + 2 * k) ∈ [9] := by rw [k9]; decide
      have Lk45 : LSq h45 (X + 10 + 2 * k) r (fun i => ac s pa (sN s 31 (160 * k + i))) := by
        have GB : Gn h41 h45 (fun x => x = X + 6 ∨ x = p) no := ((SM.gn (X := X) ⟨z1, z2, z3, z4, z5, z6, z7, z8⟩ (fun x => x = X + 6 ∨ x = p) no (Or.inl rfl))).sI 10 _ (Or.inl (Or.inr rfl))
        have L0 := R41 _ _ _ (kl k hk) (by omega) (l3 k hk)
        rw [← hr9] at L0
        exact L0.gn GB (LL41 _ (kl k hk)).2.1 (nl6 _ (kl k hk)) id (fun _ _ => id)
      have iC : nk_I h45 (X + 9 + 2 * k) 0 = Int32.ofNat k := by rw [u4]; exact (W.1.2.1.2.2.2 k hk).2
      have pC : nk_P h45 (X + 9 + 2 * k) 1 = some (X + 10 + 2 * k) := by rw [u3]; exact v3
      have kp45 : nk_K h45 p = 8 := kp44
      have pt45 : nk_P h45 p 8 = some (p + 2) := by show nk_P h44 p 8 = _; rw [z2, c1.2.2]; exact p8
      have kt45 : nk_K h45 (p + 2) = 1 := by show nk_K h44 (p + 2) = 1; rw [z1, c3.1]; exact kt
      have lt45 : nk_L h45 (p + 2) = 6 := by show nk_L h44 (p + 2) = 6; rw [z3, c3.2.1]; exact lt
      have it45 : ∀ y, nk_I h45 (p + 2) y = nk_I h41 (p + 2) y := fun y => by
        show nk_u2 (nk_I h44) p 10 _ (p + 2) y = _
        rw [nk_u2_ne _ _ _ _ _ (by omega), i44 (p + 2) (by omega)]
      have fe : foldS (fun y => markS (Int32.ofNat k) (Int32.ofNat r) (Int32.ofNat y) (nk_I h45 (p + 2) y)) 6 = foldS (fun y => markS (Int32.ofNat k) (Int32.ofNat r) (Int32.ofNat y) (if y = 5 then s 1 0 else if y = 4 then s 27 0 else if y = 3 then am else if y = 2 then s 28 0 else if y = 1 then Int32.ofNat q else pe)) 6 := foldS_congr (fun y hy => by
        show markS _ _ _ (nk_I h45 (p + 2) y) = markS _ _ _ _
        rw [it45, itv y hy])
      have hsv : sealS (if r = 0 then 1000 + Int32.ofNat k else s 35 (sN s 31 (160 * k + (r - 1)))) (foldS (fun y => markS (Int32.ofNat k) (Int32.ofNat r) (Int32.ofNat y) (nk_I h45 (p + 2) y)) 6) = sl := by
        rw [fe, ← sealA_v s n k r pe (Int32.ofNat q) am (show a < 160 by omega), hsl]
      have ent : f_X1_enter h45 (X + 9 + 2 * k) (some p) = some (h9, Int32.ofNat r) := q_enter k9 iC pC Lk45 hr160 (fun hr0 => by
        obtain ⟨u1, u2, -⟩ := hrr (r - 1) (by omega)
        have hac : ac s pa (sN s 31 (160 * k + (r - 1))) = pa (sN s 32 (sN s 31 (160 * k + (r - 1)))) := rfl
        have hlt := (W.1.1.2.2.1 _ u2).2.1
        have hge := (W.1.1.2.2.1 _ u2).1
        have k8 := (act_K W u1).1
        obtain ⟨t1, -, -, t4⟩ := cell (ac s pa (sN s 31 (160 * k + (r - 1)))) (by omega) (by omega) (by omega) (by rw [k8]; decide)
        exact ⟨t1.trans k8, by rw [t4]; exact (W.1.1.2.2.2.2.2.2.2.2.2 _ u1).1⟩) kp45 pt45 kt45 lt45 hsv e9
      rw [wr_Z [8] 10 st kp8]
      exact q_c125 (by rw [x1]; exact p3) (by rw [x3]; exact q5) (by rw [y1]; exact q8) (by rw [y2, q9]; exact hk) (by omega) (by rw [y3]; exact v1) k9 ent
    rw [Option.bind_some, do_eq eg, rd_P [18] gX1 gX2, rd_I [18] gX1 gX5, rd_r [15] g4, do_eq e1, rd_r [18] k41, do_eq rb]
    rw [hst'] at tail
    by_cases z : faultS (uA1 s n a k r pe (Int32.ofNat q) am) (n + 1) w a = 0
    · rw [if_pos z]
      rw [decide_eq_true z] at tail
      exact tail
    · rw [if_neg z]
      rw [decide_eq_false z] at tail
      exact tail
end AC
