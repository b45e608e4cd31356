/-! ===== a copy: the class ===== -/
def KC (g : nk_H) (q z : Nat) : Prop := nk_K g q = 10 ∧ nk_P g q 4 = some (q + 1) ∧ nk_P g q 5 = some (q + 2 + z) ∧ nk_K g (q + 1) = 5 ∧ nk_L g (q + 1) = z ∧ nk_K g (q + 2 + z) = 1 ∧ nk_L g (q + 2 + z) = z ∧ ∀ i, i < z → nk_P g (q + 1) i = some (q + 2 + i) ∧ nk_K g (q + 2 + i) = 1 ∧ nk_L g (q + 2 + i) = 6
theorem KC.si {g g' : nk_H} {q z : Nat} (H : KC g q z) (S : SI g g') : KC g' q z := by
  obtain ⟨e1, e2, e3, -⟩ := S
  unfold KC
  rw [e1, e2, e3]; exact H
theorem Gn_mn (h : nk_H) (n k : Nat) (DI DP : Nat → Prop) : Gn h (nk_mn h n k) DI DP := by
  refine ⟨by show nk_N h ≤ nk_N h + 1 + n; omega, rfl, rfl, fun x hx => ⟨?_, ?_, fun _ => ?_, fun _ => ?_⟩⟩
  · show (if x = nk_N h then 5 else if nk_N h < x ∧ x ≤ nk_N h + n then 1 else nk_K h x) = _
    rw [if_neg (by omega), if_neg (by omega)]
  · show (if x = nk_N h then n else if nk_N h < x ∧ x ≤ nk_N h + n then k else nk_L h x) = _
    rw [if_neg (by omega), if_neg (by omega)]
  · funext j
    show (if x = nk_N h then (if j < n then some (nk_N h + 1 + j) else none) else if nk_N h < x ∧ x ≤ nk_N h + n then none else nk_P h x j) = _
    rw [if_neg (by omega), if_neg (by omega)]
  · funext j
    show (if nk_N h ≤ x ∧ x ≤ nk_N h + n then 0 else nk_I h x j) = _
    rw [if_neg (by omega)]
section CK
variable {h g : nk_H} {X n w a c hr : Nat} {pa cp : Nat → Nat} {s s' m : Nat → Nat → Int32}
theorem cp_init (h : nk_H) {k f z b : Nat} (hz : z ≤ 160) : ∃ g, f_X2_init (nk_al h 10 0 7) (nk_N h) (Int32.ofNat k) (Int32.ofNat f) (Int32.ofNat z) (Int32.ofNat b) = some (g, ()) ∧ Gn h g no no ∧ KC g (nk_N h) z ∧ nk_I g (nk_N h) 0 = Int32.ofNat k ∧ nk_I g (nk_N h) 1 = Int32.ofNat f ∧ nk_I g (nk_N h) 2 = Int32.ofNat z ∧ nk_I g (nk_N h) 3 = Int32.ofNat b ∧ nk_N g = nk_N h + 3 + z ∧ nk_S g ≤ nk_S h + 7 + 8 * z := by
  generalize hp : nk_N h = q
  have k10 : nk_K (nk_al h 10 0 7) q = 10 := by rw [← hp]; exact al_K h 10 0 7
  have k10' : nk_K (nk_al h 10 0 7) q ∈ [10] := by rw [k10]; decide
  have Na : nk_N (nk_al h 10 0 7) = q + 1 := by rw [nk_N_al, hp]
  let g1 := nk_sI (nk_al h 10 0 7) q 0 (Int32.ofNat k)
  let g2 := nk_sI g1 q 1 (Int32.ofNat f)
  let g3 := nk_sI g2 q 2 (Int32.ofNat z)
  let g4 := nk_sI g3 q 3 (Int32.ofNat b)
  have N4 : nk_N g4 = q + 1 := Na
  let g5 := nk_mn g4 z 6
  have N5 : nk_N g5 = q + 2 + z := by show nk_N g4 + 1 + z = _; rw [N4]
  let g6 := nk_sP g5 q 4 (some (q + 1))
  have N6 : nk_N g6 = q + 2 + z := N5
  let g7 := nk_al g6 1 z z
  let g8 := nk_sP g7 q 5 (some (q + 2 + z))
  have G5 : Gn g4 g5 no no := Gn_mn g4 z 6 _ _
  have kq5 : nk_K g5 q = 10 := (G5.2.2.2 q (by omega)).1.trans k10
  have kq7 : nk_K g7 q = 10 := ((Gn_al g6 1 z z no no).2.2.2 q (by omega)).1.trans kq5
  have hq : no q ∨ nk_N h ≤ q := Or.inr (by omega)
  have G4 : Gn h g4 no no := (((((Gn.refl h no no).al 10 0 7).sI _ _ hq).sI _ _ hq).sI _ _ hq).sI _ _ hq
  have G8 : Gn h g8 no no := (((G4.trans G5).sP 4 _ hq).al 1 z z).sP 5 _ hq
  have i4 : ∀ y, nk_I g4 q y = if y = 3 then Int32.ofNat b else if y = 2 then Int32.ofNat z else if y = 1 then Int32.ofNat f else if y = 0 then Int32.ofNat k else nk_I (nk_al h 10 0 7) q y := fun y => by
    show nk_u2 (nk_u2 (nk_u2 (nk_u2 (nk_I (nk_al h 10 0 7)) _ _ _) _ _ _) _ _ _) _ _ _ _ _ = _
    simp [nk_u2]
  have i8 : nk_I g8 q = nk_I g4 q := by
    show nk_I g7 q = _
    rw [((Gn_al g6 1 z z no no).2.2.2 q (by omega)).2.2.2 id]
    show nk_I g5 q = _
    exact (G5.2.2.2 q (by omega)).2.2.2 id
  have old7 : ∀ x, x < q + 2 + z → nk_K g8 x = nk_K g5 x ∧ nk_L g8 x = nk_L g5 x ∧ (x ≠ q → nk_P g8 x = nk_P g5 x) := fun x hx => by
    obtain ⟨a1, a2, a3, -⟩ := (Gn_al g6 1 z z no no).2.2.2 x (by omega)
    refine ⟨a1, a2, fun z9 => ?_⟩
    show nk_u2 (nk_P g7) q 5 _ x = _
    funext y
    rw [nk_u2_ne _ _ _ _ _ z9]
    show nk_P (nk_al g6 1 z z) x y = _
    rw [a3 id]
    show nk_u2 (nk_P g5) q 4 _ x y = _
    rw [nk_u2_ne _ _ _ _ _ z9]
  have kN : nk_K g8 (q + 2 + z) = 1 := by
    show nk_K (nk_al g6 1 z z) (q + 2 + z) = 1
    rw [← N6]; exact al_K g6 1 z z
  have lN : nk_L g8 (q + 2 + z) = z := by
    show nk_L (nk_al g6 1 z z) (q + 2 + z) = z
    rw [← N6, nk_L_al, nk_u1_eq]
  have p4 : nk_P g8 q 4 = some (q + 1) := by
    show nk_u2 (nk_P g7) q 5 _ q 4 = _
    rw [nk_u2_nk _ _ _ _ _ (by decide)]
    show nk_P (nk_al g6 1 z z) q 4 = _
    rw [((Gn_al g6 1 z z no no).2.2.2 q (by omega)).2.2.1 id]
    show nk_u2 (nk_P g5) q 4 _ q 4 = _
    rw [nk_u2_eq]
  have p5 : nk_P g8 q 5 = some (q + 2 + z) := by
    show nk_u2 (nk_P g7) q 5 _ q 5 = _
    rw [nk_u2_eq]
  have m1 : nk_K g5 (q + 1) = 5 ∧ nk_L g5 (q + 1) = z ∧ ∀ i, i < z → nk_P g5 (q + 1) i = some (q + 2 + i) := by
    refine ⟨?_, ?_, fun i hi => ?_⟩
    · show (if q + 1 = nk_N g4 then 5 else _) = 5
      rw [if_pos N4.symm]
    · show (if q + 1 = nk_N g4 then z else _) = z
      rw [if_pos N4.symm]
    · show (if q + 1 = nk_N g4 then (if i < z then some (nk_N g4 + 1 + i) else none) else _) = _
      rw [if_pos N4.symm, if_pos hi, N4]
  have m2 : ∀ i, i < z → nk_K g5 (q + 2 + i) = 1 ∧ nk_L g5 (q + 2 + i) = 6 := fun i hi => by
    constructor
    · show (if q + 2 + i = nk_N g4 then 5 else if nk_N g4 < q + 2 + i ∧ q + 2 + i ≤ nk_N g4 + z then 1 else _) = 1
      rw [if_neg (by omega), if_pos ⟨by omega, by omega⟩]
    · show (if q + 2 + i = nk_N g4 then z else if nk_N g4 < q + 2 + i ∧ q + 2 + i ≤ nk_N g4 + z then 6 else _) = 6
      rw [if_neg (by omega), if_pos ⟨by omega, by omega⟩]
  refine ⟨g8, ?_, G8, ⟨kq7, p4, p5, ?_, ?_, kN, lN, fun i hi => ⟨?_, ?_, ?_⟩⟩, by rw [i8, i4]; rfl, by rw [i8, i4]; rfl, by rw [i8, i4]; rfl, by rw [i8, i4]; rfl, ?_, ?_⟩
  · unfold f_X2_init
    have e5 : nk_mna g4 (Int32.ofNat z) 6 = some g5 := by
      unfold nk_mna
      have z6 : (6 : Int32).toNatClampNeg = 6 := by decide
      rw [ia_nn (by omega), z6, if_pos ⟨ia_n0 (by omega), by decide, by omega, by omega⟩]
    have e7 : nk_na 1 g6 (Int32.ofNat z) = some g7 := by
      unfold nk_na
      rw [ia_nn (by omega), if_pos ⟨ia_n0 (by omega), by omega⟩]
    have s4 : (some (nk_N g4) : Option Nat) = some (q + 1) := by rw [N4]
    have s6 : (some (nk_N g6) : Option Nat) = some (q + 2 + z) := by rw [N6]
    rw [wr_I [10] 0 _ k10', wr_I (h := g1) [10] 1 _ k10', wr_I (h := g2) [10] 2 _ k10', wr_I (h := g3) [10] 3 _ k10']
    show ((nk_mna g4 (Int32.ofNat z) 6).bind fun h5 => ((nk_pP [10] 4 h5 (some q) (some (nk_N g4))).bind fun h6 => ((nk_na 1 h6 (Int32.ofNat z)).bind fun h7 => ((nk_pP [10] 5 h7 (some q) (some (nk_N h6))).bind fun h8 => some (h8, ()))))) = _
    rw [e5, Option.bind_some, s4, wr_P (h := g5) [10] 4 _ (by rw [kq5]; decide)]
    show ((nk_na 1 g6 (Int32.ofNat z)).bind fun h7 => ((nk_pP [10] 5 h7 (some q) (some (nk_N g6))).bind fun h8 => some (h8, ()))) = _
    rw [e7, Option.bind_some, s6, wr_P (h := g7) [10] 5 _ (by rw [kq7]; decide)]
  · rw [(old7 (q + 1) (by omega)).1]; exact m1.1
  · rw [(old7 (q + 1) (by omega)).2.1]; exact m1.2.1
  · rw [(old7 (q + 1) (by omega)).2.2 (by omega)]; exact m1.2.2 i hi
  · rw [(old7 (q + 2 + i) (by omega)).1]; exact (m2 i hi).1
  · rw [(old7 (q + 2 + i) (by omega)).2.1]; exact (m2 i hi).2
  · show nk_N g6 + 1 = _
    rw [N6]; omega
  · show nk_S g4 + z + z * 6 + z ≤ _
    have : nk_S g4 = nk_S h + 7 := rfl
    omega
theorem cls_markOf (h : nk_H) (k r p v : Int32) : f_X11_markOf h k r p v = some (h, markS k r p v) := rfl
theorem tf_inner (W : WR h X n w a c hr pa cp s m) {q k f z b i e : Nat} (hq : nk_N h ≤ q) (he : e < a) (es : sN s 31 (160 * k + (f + i)) = e) (hi : i < z) (hz : z ≤ 160) (r14 : nk_H → Nat → Option Nat → Int32 → Option (nk_H × Unit)) (v1 : Option Nat) : ∀ (kf p : Nat) (g : nk_H), Gn h g no no → KC g q z → nk_I g q 0 = Int32.ofNat k → nk_I g q 1 = Int32.ofNat f → nk_I g q 3 = Int32.ofNat b → p ≤ 6 → 6 - p < kf → ∃ g', f_X2_takeFrom_b46 r14 kf g q v1 (Int32.ofNat i) (some (ac s pa e)) (Int32.ofNat p) = r14 g' q v1 (Int32.ofNat (i + 1)) ∧ SI g g' ∧ (∀ x, x ≠ q + 2 + i → nk_I g' x = nk_I g x) ∧ (∀ y, y < 6 → nk_I g' (q + 2 + i) y = if p ≤ y then tpS s k f b i y else nk_I g (q + 2 + i) y) := by
  intro kf
  induction kf with
  | zero => intro p g _ _ _ _ _ _ h9; omega
  | succ kf ih =>
    intro p g G K i0 i1 i3 hp hf
    show ∃ g', f_X2_takeFrom_c46 r14 (f_X2_takeFrom_b46 r14 kf) g q v1 (Int32.ofNat i) (some (ac s pa e)) (Int32.ofNat p) = _ ∧ _
    unfold f_X2_takeFrom_c46 f_X2_takeFrom_c102
    by_cases h1 : 6 ≤ p
    · have : p = 6 := by omega
      subst this
      rw [if_pos (by decide), ia_1]
      exact ⟨g, rfl, SI.refl g, fun _ _ => rfl, fun y hy => by rw [if_neg (by omega)]⟩
    · have hp' : p < 6 := by omega
      have KK := K
      obtain ⟨c1, c2, c3, c4, c5, c6, c7, c8⟩ := K
      obtain ⟨d1, d2, d3⟩ := c8 i hi
      have Wg : WR g X n w a c hr pa cp s m := W.gn (G.mono (fun _ z => z.elim) (fun _ => id))
      obtain ⟨-, -, -, a8, a9, a10, -⟩ := Wg.1.1.2.2.2.2.2.2.2.2.1 e he
      have b3 := (Wg.1.1.2.2.2.2.2.2.2.2.2 e he).2.2.1 p hp'
      have k8 : nk_K g (ac s pa e) ∈ [8] := by rw [(act_K Wg he).1]; decide
      have k10 : nk_K g q ∈ [10] := by rw [c1]; decide
      have el : f_X2_leavesOut g q (Int32.ofNat p) = some (g, b2i (gb (Int32.ofNat b) p)) := by
        unfold f_X2_leavesOut
        rw [rd_I [10] k10 i3, do_eq (cls_hasBit g _ hp'), nk_zr_b]
      have nx : ∃ g', f_X2_takeFrom_b46 r14 kf (nk_sI g (q + 2 + i) p (tpS s k f b i p)) q v1 (Int32.ofNat i) (some (ac s pa e)) (Int32.ofNat (p + 1)) = r14 g' q v1 (Int32.ofNat (i + 1)) ∧ SI g g' ∧ (∀ x, x ≠ q + 2 + i → nk_I g' x = nk_I g x) ∧ (∀ y, y < 6 → nk_I g' (q + 2 + i) y = if p ≤ y then tpS s k f b i y else nk_I g (q + 2 + i) y) := by
        have io : ∀ x, x ≠ q + 2 + i → nk_I (nk_sI g (q + 2 + i) p (tpS s k f b i p)) x = nk_I g x := fun x hx => by
          rw [nk_I_sI]; funext y; rw [nk_u2_ne _ _ _ _ _ hx]
        obtain ⟨g', e1, e2, e3, e4⟩ := ih (p + 1) (nk_sI g (q + 2 + i) p (tpS s k f b i p)) (G.sI _ _ (Or.inr (by omega))) (KK.si ((SI.refl g).sI _ _ _)) (by rw [io _ (by omega)]; exact i0) (by rw [io _ (by omega)]; exact i1) (by rw [io _ (by omega)]; exact i3) (by omega) (by omega)
        refine ⟨g', e1, ((SI.refl g).sI _ _ _).trans e2, fun x hx => (e3 x hx).trans (io x hx), fun y hy => ?_⟩
        rw [e4 y hy]
        by_cases z1 : y = p
        · rw [if_neg (by omega), if_pos (by omega), nk_I_sI, z1, nk_u2_eq]
        · by_cases z2 : p + 1 ≤ y
          · rw [if_pos z2, if_pos (by omega)]
          · rw [if_neg z2, if_neg (by omega), nk_I_sI, nk_u2_nk _ _ _ _ _ z1]
      rw [if_neg (fun q9 : (6 : Int32) ≤ Int32.ofNat p => h1 ((ia_le (a := 6) (by omega) (by omega)).mp q9)), rd_P [10] k10 c2, rd_q 5 c4 (by omega) (by omega) d1, rd_r [10] k10, do_eq el, ite_b, ia_1]
      cases hg : gb (Int32.ofNat b) p with
      | false =>
        rw [if_neg (by decide), rd_P [8] k8 a8, rd_a 1 a9 (by omega) (by omega) b3]
        have v : s 33 (6 * e + p) = tpS s k f b i p := by
          unfold tpS; rw [hg, if_neg (by decide), es]
        rw [v, wr_a _ d2 (by omega) (by omega)]
        exact nx
      | true =>
        rw [if_pos rfl, rd_I [10] k10 i0, rd_I [10] k10 i1, rd_P [8] k8 a8, rd_a 1 a9 (by omega) (by omega) b3, ia_add, do_eq (cls_markOf g _ _ _ _)]
        have v : markS (Int32.ofNat k) (Int32.ofNat (f + i)) (Int32.ofNat p) (s 33 (6 * e + p)) = tpS s k f b i p := by
          unfold tpS; rw [hg, if_pos rfl, es]
        rw [v, wr_a _ d2 (by omega) (by omega)]
        exact nx
theorem tf_loop (W : WR h X n w a c hr pa cp s m) {q k f z b : Nat} (hq : nk_N h ≤ q) (hk : k < 6) (hz : z ≤ 160) (hfz : f + z ≤ sN s 30 k) : ∀ (kf i : Nat) (g : nk_H), Gn h g no no → KC g q z → nk_I g q 0 = Int32.ofNat k → nk_I g q 1 = Int32.ofNat f → nk_I g q 2 = Int32.ofNat z → nk_I g q 3 = Int32.ofNat b → i ≤ z → z - i < kf → (∀ y, y < i → nk_I g (q + 2 + z) y = slS s k f y ∧ ∀ p, p < 6 → nk_I g (q + 2 + y) p = tpS s k f b y p) →
    ∃ g', f_X2_takeFrom_b14 kf g q (some (X + 9 + 2 * k)) (Int32.ofNat i) = some (g', ()) ∧ SI g g' ∧ Gn h g' no no ∧ nk_I g' q = nk_I g q ∧ (∀ y, y < z → nk_I g' (q + 2 + z) y = slS s k f y ∧ ∀ p, p < 6 → nk_I g' (q + 2 + y) p = tpS s k f b y p) := by
  have hb := W.b
  intro kf
  induction kf with
  | zero => intro i g _ _ _ _ _ _ _ h9; omega
  | succ kf ih =>
    intro i g G K i0 i1 i2 i3 hi hf hy
    have KK := K
    obtain ⟨c1, c2, c3, c4, c5, c6, c7, c8⟩ := K
    have k10 : nk_K g q ∈ [10] := by rw [c1]; decide
    show ∃ g', f_X2_takeFrom_c14 (f_X2_takeFrom_b14 kf) g q (some (X + 9 + 2 * k)) (Int32.ofNat i) = some (g', ()) ∧ _
    unfold f_X2_takeFrom_c14
    rw [rd_I [10] k10 i2]
    by_cases h1 : z ≤ i
    · have : i = z := by omega
      subst this
      rw [if_pos ((ia_le (by omega) (by omega)).mpr (Nat.le_refl _))]
      exact ⟨g, rfl, SI.refl g, G, rfl, hy⟩
    · have hiz : i < z := by omega
      have Wg : WR g X n w a c hr pa cp s m := W.gn (G.mono (fun _ z => z.elim) (fun _ => id))
      obtain ⟨ha, -, hr160⟩ := ch_lt W.I hk (r := f + i) (by omega)
      generalize hes : sN s 31 (160 * k + (f + i)) = e at ha
      obtain ⟨f1, f2, f3, L⟩ := ch_at Wg hk
      have k8 : nk_K g (ac s pa e) ∈ [8] := by rw [(act_K Wg ha).1]; decide
      have b1 : nk_I g (ac s pa e) 9 = slS s k f i := by
        rw [(Wg.1.1.2.2.2.2.2.2.2.2.2 e ha).1]; unfold slS; rw [hes]
      rw [if_neg (fun e => h1 ((ia_le (by omega) (by omega)).mp e)), rd_I [10] k10 i1, rd_r [9] (by rw [f2]; decide), ia_add, do_eq (q_actOf Wg hk (by omega) ha hes), rd_P [10] k10 c3, rd_I [8] k8 b1, wr_a _ c6 (by omega) (by omega)]
      have io : ∀ x, x ≠ q + 2 + z → nk_I (nk_sI g (q + 2 + z) i (slS s k f i)) x = nk_I g x := fun x hx => by
        rw [nk_I_sI]; funext y; rw [nk_u2_ne _ _ _ _ _ hx]
      obtain ⟨g1, e1, S1, o1, v1⟩ := tf_inner W (b := b) hq ha hes hiz hz (f_X2_takeFrom_b14 kf) (some (X + 9 + 2 * k)) 4096 0 (nk_sI g (q + 2 + z) i (slS s k f i)) (G.sI _ _ (Or.inr (by omega))) (KK.si ((SI.refl g).sI _ _ _)) (by rw [io _ (by omega)]; exact i0) (by rw [io _ (by omega)]; exact i1) (by rw [io _ (by omega)]; exact i3) (by omega) (by omega)
      have e1' : f_X2_takeFrom_b46 (f_X2_takeFrom_b14 kf) 4096 (nk_sI g (q + 2 + z) i (slS s k f i)) q (some (X + 9 + 2 * k)) (Int32.ofNat i) (some (ac s pa e)) 0 = f_X2_takeFrom_b14 kf g1 q (some (X + 9 + 2 * k)) (Int32.ofNat (i + 1)) := e1
      rw [e1']
      have SS : SI g g1 := ((SI.refl g).sI _ _ _).trans S1
      have iq : nk_I g1 q = nk_I g q := (o1 q (by omega)).trans (io q (by omega))
      have G1 : Gn h g1 no no := by
        obtain ⟨q1, q2, q3, q4, q5, q6, q7⟩ := SS
        obtain ⟨t1, t2, t3, t4⟩ := G
        refine ⟨by rw [q4]; exact t1, q6.trans t2, q7.trans t3, fun x hx => ?_⟩
        obtain ⟨u1, u2, u3, u4⟩ := t4 x hx
        refine ⟨by rw [q1]; exact u1, by rw [q3]; exact u2, fun z => by rw [q2]; exact u3 z, fun z => ?_⟩
        rw [o1 x (by omega), io x (by omega)]; exact u4 z
      obtain ⟨g2, e2, S2, G2, o2, v2⟩ := ih (i + 1) g1 G1 (KK.si SS) (by rw [iq]; exact i0) (by rw [iq]; exact i1) (by rw [iq]; exact i2) (by rw [iq]; exact i3) (by omega) (by omega) (fun y hy2 => by
        refine ⟨?_, fun p hp => ?_⟩
        · rw [o1 (q + 2 + z) (by omega), nk_I_sI]
          by_cases z1 : y = i
          · rw [z1, nk_u2_eq]
          · rw [nk_u2_nk _ _ _ _ _ z1]; exact (hy y (by omega)).1
        · by_cases z1 : y = i
          · rw [z1, v1 p hp, if_pos (by omega)]
          · rw [o1 (q + 2 + y) (by omega), io (q + 2 + y) (by omega)]
            exact (hy y (by omega)).2 p hp)
      exact ⟨g2, e2, SS.trans S2, G2, o2.trans iq, v2⟩
end CK
