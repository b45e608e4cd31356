/-! ===== a copy: the state; the reference ===== -/
/-- what a part of a place tells; a place's seal -/
def tpS (s : Nat → Nat → Int32) (k f b i p : Nat) : Int32 := if gb (Int32.ofNat b) p = true then markS (Int32.ofNat k) (Int32.ofNat (f + i)) (Int32.ofNat p) (s 33 (6 * sN s 31 (160 * k + (f + i)) + p)) else s 33 (6 * sN s 31 (160 * k + (f + i)) + p)
def slS (s : Nat → Nat → Int32) (k f i : Nat) : Int32 := s 35 (sN s 31 (160 * k + (f + i)))
def uC0 (s : Nat → Nat → Int32) (c k f z b : Nat) : Nat → Nat → Int32 := nk_u2 (nk_u2 (nk_u2 (nk_u2 (nk_u2 s 38 c (Int32.ofNat k)) 39 c (Int32.ofNat f)) 40 c (Int32.ofNat z)) 41 c (Int32.ofNat b)) 42 c (aheadS s k f)
def cyS (t : Nat → Nat → Int32) (F : Nat → Nat → Int32) (G : Nat → Int32) (c m3 m4 : Nat) : Nat → Nat → Int32 := fun x y => if x = 43 ∧ 960 * c ≤ y ∧ y < 960 * c + m3 then F ((y - 960 * c) / 6) ((y - 960 * c) % 6) else if x = 44 ∧ 160 * c ≤ y ∧ y < 160 * c + m4 then G (y - 160 * c) else t x y
def uC (s : Nat → Nat → Int32) (c k f z b : Nat) : Nat → Nat → Int32 := nk_u2 (cyS (uC0 s c k f z b) (tpS s k f b) (slS s k f) c (6 * z) z) 37 0 (Int32.ofNat (c + 1))
section CY
variable {h : nk_H} {M n w a c hr : Nat} {s s' t : Nat → Nat → Int32} {F : Nat → Nat → Int32} {G : Nat → Int32}
theorem cyS_O (t : Nat → Nat → Int32) (F : Nat → Nat → Int32) (G : Nat → Int32) (c m3 m4 : Nat) {x : Nat} (h1 : x ≠ 43) (h2 : x ≠ 44) : cyS t F G c m3 m4 x = t x := by
  funext y
  unfold cyS
  rw [if_neg (fun e => h1 e.1), if_neg (fun e => h2 e.1)]
theorem cyS_0 (t : Nat → Nat → Int32) (F : Nat → Nat → Int32) (G : Nat → Int32) (c : Nat) : cyS t F G c 0 0 = t := by
  funext x y
  unfold cyS
  rw [if_neg (by omega), if_neg (by omega)]
theorem cyS_3 (t : Nat → Nat → Int32) (F : Nat → Nat → Int32) (G : Nat → Int32) (c m4 : Nat) {i p : Nat} (hp : p < 6) : nk_u2 (cyS t F G c (6 * i + p) m4) 43 (6 * (160 * c + i) + p) (F i p) = cyS t F G c (6 * i + (p + 1)) m4 := by
  funext x y
  show (if x = 43 ∧ y = 6 * (160 * c + i) + p then F i p else cyS t F G c (6 * i + p) m4 x y) = cyS t F G c (6 * i + (p + 1)) m4 x y
  by_cases z : x = 43 ∧ y = 6 * (160 * c + i) + p
  · obtain ⟨rfl, rfl⟩ := z
    have e1 : (6 * (160 * c + i) + p - 960 * c) / 6 = i := by omega
    have e2 : (6 * (160 * c + i) + p - 960 * c) % 6 = p := by omega
    unfold cyS
    rw [if_pos ⟨rfl, rfl⟩, if_pos ⟨rfl, by omega, by omega⟩, e1, e2]
  · rw [if_neg z]
    unfold cyS
    by_cases q : x = 43 ∧ 960 * c ≤ y ∧ y < 960 * c + (6 * i + p)
    · rw [if_pos q, if_pos (show x = 43 ∧ 960 * c ≤ y ∧ y < 960 * c + (6 * i + (p + 1)) from ⟨q.1, q.2.1, by omega⟩)]
    · rw [if_neg q, if_neg (show ¬ (x = 43 ∧ 960 * c ≤ y ∧ y < 960 * c + (6 * i + (p + 1))) from fun q2 => by
        by_cases y1 : y = 6 * (160 * c + i) + p
        · exact z ⟨q2.1, y1⟩
        · exact q ⟨q2.1, q2.2.1, by omega⟩)]
theorem cyS_4 (t : Nat → Nat → Int32) (F : Nat → Nat → Int32) (G : Nat → Int32) (c m3 i : Nat) : nk_u2 (cyS t F G c m3 i) 44 (160 * c + i) (G i) = cyS t F G c m3 (i + 1) := by
  funext x y
  show (if x = 44 ∧ y = 160 * c + i then G i else cyS t F G c m3 i x y) = cyS t F G c m3 (i + 1) x y
  by_cases z : x = 44 ∧ y = 160 * c + i
  · obtain ⟨rfl, rfl⟩ := z
    have e1 : 160 * c + i - 160 * c = i := by omega
    unfold cyS
    rw [if_pos ⟨rfl, rfl⟩, if_neg (by omega), if_pos (show 44 = 44 ∧ 160 * c ≤ 160 * c + i ∧ 160 * c + i < 160 * c + (i + 1) from ⟨rfl, by omega, by omega⟩), e1]
  · rw [if_neg z]
    unfold cyS
    by_cases q : x = 43 ∧ 960 * c ≤ y ∧ y < 960 * c + m3
    · rw [if_pos q, if_pos q]
    · rw [if_neg q, if_neg q]
      by_cases q3 : x = 44 ∧ 160 * c ≤ y ∧ y < 160 * c + i
      · rw [if_pos q3, if_pos (show x = 44 ∧ 160 * c ≤ y ∧ y < 160 * c + (i + 1) from ⟨q3.1, q3.2.1, by omega⟩)]
      · rw [if_neg q3, if_neg (show ¬ (x = 44 ∧ 160 * c ≤ y ∧ y < 160 * c + (i + 1)) from fun q2 => by
          by_cases y1 : y = 160 * c + i
          · exact z ⟨q2.1, y1⟩
          · exact q3 ⟨q2.1, q2.2.1, by omega⟩)]
theorem cyS_e (e : eq0 t s) (c m3 m4 : Nat) : eq0 (cyS t F G c m3 m4) (cyS s F G c m3 m4) := fun x y hx => by
  unfold cyS
  rw [e x y hx]
theorem aheadS_e (e : eq0 s s') (k f : Nat) : aheadS s' k f = aheadS s k f := by
  unfold aheadS sN
  rw [e.f 35 (by decide), e.f 31 (by decide)]
theorem uC0_e (e : eq0 s s') (c k f z b : Nat) : eq0 (uC0 s c k f z b) (uC0 s' c k f z b) := by
  unfold uC0
  rw [aheadS_e e]
  exact eq0_u2 (eq0_u2 (eq0_u2 (eq0_u2 (eq0_u2 e _ _ _) _ _ _) _ _ _) _ _ _) _ _ _
theorem uC_e (e : eq0 s s') (c k f z b : Nat) : eq0 (uC s c k f z b) (uC s' c k f z b) := by
  have e1 : tpS s' k f b = tpS s k f b := by
    funext i p
    unfold tpS sN
    rw [e.f 33 (by decide), e.f 31 (by decide)]
  have e2 : slS s' k f = slS s k f := by
    funext i
    unfold slS sN
    rw [e.f 35 (by decide), e.f 31 (by decide)]
  unfold uC
  rw [e1, e2]
  exact eq0_u2 (cyS_e (uC0_e e _ _ _ _ _) _ _ _) _ _ _
theorem uC0_O (s : Nat → Nat → Int32) (c k f z b : Nat) {x : Nat} (hx : x < 38 ∨ 42 < x) : uC0 s c k f z b x = s x := by
  funext y
  unfold uC0
  rw [u2_k _ _ _ _ _ (by omega), u2_k _ _ _ _ _ (by omega), u2_k _ _ _ _ _ (by omega), u2_k _ _ _ _ _ (by omega), u2_k _ _ _ _ _ (by omega)]
theorem uC0_c (s : Nat → Nat → Int32) (c k f z b : Nat) : uC0 s c k f z b 38 c = Int32.ofNat k ∧ uC0 s c k f z b 39 c = Int32.ofNat f ∧ uC0 s c k f z b 40 c = Int32.ofNat z ∧ uC0 s c k f z b 41 c = Int32.ofNat b ∧ uC0 s c k f z b 42 c = aheadS s k f := by
  refine ⟨?_, ?_, ?_, ?_, ?_⟩ <;> simp [uC0, nk_u2]
theorem uC0_q (s : Nat → Nat → Int32) (c k f z b : Nat) {q : Nat} (hq : q ≠ c) (x : Nat) : uC0 s c k f z b x q = s x q := by
  simp [uC0, nk_u2, hq]
/-- a place is copied, to the reference -/
theorem m_copies {k f z b i e : Nat} (hc : c < 12) (hk : k < 6) (hi : i < 160) (hfi : f + i < 160) (he : e < 160) (ee : s 31 (160 * k + (f + i)) = Int32.ofNat e) (H : St h M (cyS (uC0 s c k f z b) (tpS s k f b) (slS s k f) c (6 * i) i)) : Ok h M (cyS (uC0 s c k f z b) (tpS s k f b) (slS s k f) c (6 * (i + 1)) (i + 1)) () (f_X12_copies h M (Int32.ofNat c) (Int32.ofNat i)) := by
  obtain ⟨t38, t39, t40, t41, -⟩ := uC0_c s c k f z b
  have o31 : uC0 s c k f z b 31 = s 31 := uC0_O s c k f z b (by decide)
  have o33 : uC0 s c k f z b 33 = s 33 := uC0_O s c k f z b (by decide)
  have o35 : uC0 s c k f z b 35 = s 35 := uC0_O s c k f z b (by decide)
  generalize uC0 s c k f z b = T at *
  have es : sN s 31 (160 * k + (f + i)) = e := sN_of ee (by omega)
  have key : ∀ (kf p : Nat) (h : nk_H), St h M (cyS T (tpS s k f b) (slS s k f) c (6 * i + p) i) → p ≤ 6 → 6 - p < kf → Ok h M (cyS T (tpS s k f b) (slS s k f) c (6 * (i + 1)) (i + 1)) () (f_X12_copies_b35 kf h M (Int32.ofNat c) (Int32.ofNat i) (Int32.ofNat k) (Int32.ofNat (f + i)) (Int32.ofNat e) (Int32.ofNat p)) := by
    intro kf
    induction kf with
    | zero => intro p h _ _ h9; omega
    | succ kf ih =>
      intro p h H hp hf
      show Ok h M _ _ (f_X12_copies_c35 (f_X12_copies_b35 kf) h M (Int32.ofNat c) (Int32.ofNat i) (Int32.ofNat k) (Int32.ofNat (f + i)) (Int32.ofNat e) (Int32.ofNat p))
      unfold f_X12_copies_c35 f_X12_copies_c99
      by_cases h1 : 6 ≤ p
      · have : p = 6 := by omega
        subst this
        have g35 : cyS T (tpS s k f b) (slS s k f) c (6 * i + 6) i 35 e = slS s k f i := by
          rw [cyS_O _ _ _ _ _ _ (by decide) (by decide), o35]
          unfold slS
          rw [es]
        rw [if_pos (by decide), w_gP H 44, w_gP H 35, w_aI H 35 (by show e < 160; omega), g35, ia_160]
        refine w_wI H 44 _ (by show 160 * c + i < 1920; omega) (fun h2 H2 => ?_)
        rw [cyS_4] at H2
        exact Ok.here H2
      · have hp' : p < 6 := by omega
        have g33 : cyS T (tpS s k f b) (slS s k f) c (6 * i + p) i 33 (6 * e + p) = s 33 (6 * e + p) := by
          rw [cyS_O _ _ _ _ _ _ (by decide) (by decide), o33]
        have g41 : cyS T (tpS s k f b) (slS s k f) c (6 * i + p) i 41 c = Int32.ofNat b := by
          rw [cyS_O _ _ _ _ _ _ (by decide) (by decide), t41]
        have e6 : 6 * (160 * Int32.ofNat c + Int32.ofNat i) + Int32.ofNat p = Int32.ofNat (6 * (160 * c + i) + p) := by rw [ia_160, ia_6]
        have st := cyS_3 T (tpS s k f b) (slS s k f) c i (i := i) (p := p) hp'
        have nx : ∀ h2, St h2 M (nk_u2 (cyS T (tpS s k f b) (slS s k f) c (6 * i + p) i) 43 (6 * (160 * c + i) + p) (tpS s k f b i p)) → Ok h2 M (cyS T (tpS s k f b) (slS s k f) c (6 * (i + 1)) (i + 1)) () (f_X12_copies_b35 kf h2 M (Int32.ofNat c) (Int32.ofNat i) (Int32.ofNat k) (Int32.ofNat (f + i)) (Int32.ofNat e) (Int32.ofNat (p + 1))) := fun h2 H2 => ih (p + 1) h2 (by rw [← st]; exact H2) (by omega) (by omega)
        rw [if_neg (fun q : (6 : Int32) ≤ Int32.ofNat p => h1 ((ia_le (a := 6) (by omega) (by omega)).mp q)), w_gP H 33, ia_6, w_aI H 33 (by show 6 * e + p < 960; omega), g33, w_gP H 43, w_rcv H, do_eq (m_isLeftOut H hc hp'), g41, ite_b, e6, ia_1]
        cases hg : gb (Int32.ofNat b) p with
        | false =>
          rw [if_neg (by decide)]
          have v : s 33 (6 * e + p) = tpS s k f b i p := by
            unfold tpS; rw [hg, if_neg (by decide), es]
          rw [v]
          exact w_wI H 43 _ (by show 6 * (160 * c + i) + p < 11520; omega) nx
        | true =>
          rw [if_pos rfl, do_eq (m_markOf h _ _ _ _)]
          have v : markS (Int32.ofNat k) (Int32.ofNat (f + i)) (Int32.ofNat p) (s 33 (6 * e + p)) = tpS s k f b i p := by
            unfold tpS; rw [hg, if_pos rfl, es]
          rw [v]
          exact w_wI H 43 _ (by show 6 * (160 * c + i) + p < 11520; omega) nx
  unfold f_X12_copies
  have q38 : cyS T (tpS s k f b) (slS s k f) c (6 * i) i 38 c = Int32.ofNat k := by rw [cyS_O _ _ _ _ _ _ (by decide) (by decide), t38]
  have q39 : cyS T (tpS s k f b) (slS s k f) c (6 * i) i 39 c = Int32.ofNat f := by rw [cyS_O _ _ _ _ _ _ (by decide) (by decide), t39]
  have q31 : cyS T (tpS s k f b) (slS s k f) c (6 * i) i 31 (160 * k + (f + i)) = Int32.ofNat e := by rw [cyS_O _ _ _ _ _ _ (by decide) (by decide), o31, ee]
  rw [w_gP H 38, w_aI H 38 (by show c < 12; omega), q38, w_gP H 39, w_aI H 39 (by show c < 12; omega), q39, w_gP H 31, ia_add, ia_160, w_aI H 31 (by show 160 * k + (f + i) < 960; omega), q31]
  exact key 4096 0 h H (by omega) (by omega)
theorem mc_loop {k f z b : Nat} (hc : c < 12) (hk : k < 6) (hz : 1 ≤ z) (hfz : f + z ≤ 160) (e37 : s 37 0 = Int32.ofNat c) (ha : ∀ i, i < z → ∃ e, e < 160 ∧ s 31 (160 * k + (f + i)) = Int32.ofNat e) : ∀ (kf i : Nat) (h : nk_H), St h M (cyS (uC0 s c k f z b) (tpS s k f b) (slS s k f) c (6 * i) i) → i ≤ z → z - i < kf → Ok h M (uC s c k f z b) (Int32.ofNat c) (f_X12_copy_b140 kf h M (Int32.ofNat f) (Int32.ofNat (f + z - 1)) (Int32.ofNat i)) := by
  intro kf
  induction kf with
  | zero => intro i h _ _ h9; omega
  | succ kf ih =>
    intro i h H hi hf
    have g37 : cyS (uC0 s c k f z b) (tpS s k f b) (slS s k f) c (6 * i) i 37 0 = Int32.ofNat c := by
      rw [cyS_O _ _ _ _ _ _ (by decide) (by decide), uC0_O _ _ _ _ _ _ (by decide), e37]
    show Ok h M _ _ (f_X12_copy_c140 (f_X12_copy_b140 kf) h M (Int32.ofNat f) (Int32.ofNat (f + z - 1)) (Int32.ofNat i))
    unfold f_X12_copy_c140
    rw [ia_sub (by omega)]
    by_cases h1 : z ≤ i
    · have : i = z := by omega
      subst this
      rw [if_pos ((ia_lt (by omega) (by omega)).mpr (by omega)), w_gIv H 37 g37, ia_1]
      refine w_pI H 37 _ (fun h2 H2 => ?_)
      rw [w_gIv H2 37 (v := Int32.ofNat (c + 1)) (u2_eq _ _ _ _), ia_s1]
      exact Ok.here H2
    · obtain ⟨e, he, ee⟩ := ha i (by omega)
      rw [if_neg (fun q => by have := (ia_lt (by omega) (by omega)).mp q; omega), w_gIv H 37 g37, w_rcv H]
      refine w_do (m_copies hc hk (by omega) (by omega) he ee H) (fun h2 H2 => ?_)
      rw [ia_1]
      exact ih (i + 1) h2 H2 (by omega) (by omega)
end CY
