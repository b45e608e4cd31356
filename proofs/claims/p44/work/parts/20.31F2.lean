/-- what else stays of a state: no kiosk is joined to itself; amounts are amounts, parts are not below 0; holders are persons; chains grow -/
def NX (s : Nat → Nat → Int32) : Prop := (∀ k, k < 6 → gb (s 2 k) k = false) ∧ (∀ e, e < sN s 29 0 → wi (s 33 (6 * e + 3)) 1 10000 = true) ∧ (∀ j, j < 960 → ¬ s 33 j < 0) ∧
  (∀ e, e < sN s 37 0 → ∀ i, i < sN s 40 e → ∀ p, p < 6 → gb (s 41 e) p = false → ¬ s 43 (6 * (160 * e + i) + p) < 0) ∧ (∀ q, q < sN s 12 0 → rg (s 15 q) 10 = true) ∧
  ∀ k, k < 6 → ∀ i, i < sN s 30 k → sN s 31 (160 * k + i) < sN s 29 0 ∧ ∀ i', i' < i → sN s 31 (160 * k + i') < sN s 31 (160 * k + i)
def JX (s s2 : Nat → Nat → Int32) (code val : Int32) : Prop := NX s → NX s2 ∧ (code = 0 → ¬ val < 0)
def nxf (x : Nat) : Prop := x = 2 ∨ x = 12 ∨ x = 15 ∨ (29 ≤ x ∧ x ≤ 31) ∨ x = 33 ∨ x = 37 ∨ (40 ≤ x ∧ x ≤ 41) ∨ x = 43
theorem NX.of {s t s2 : Nat → Nat → Int32} (e : eq0 s t) (hf : ∀ x, nxf x → s2 x = t x) (N : NX s) : NX s2 := by
  have h : ∀ x, nxf x → s2 x = s x := fun x hx => (hf x hx).trans (funext fun j => e x j (by unfold nxf at hx; omega))
  unfold NX sN
  rw [h 2 (by unfold nxf; omega), h 29 (by unfold nxf; omega), h 33 (by unfold nxf; omega), h 37 (by unfold nxf; omega), h 40 (by unfold nxf; omega), h 41 (by unfold nxf; omega), h 43 (by unfold nxf; omega), h 12 (by unfold nxf; omega), h 15 (by unfold nxf; omega), h 30 (by unfold nxf; omega), h 31 (by unfold nxf; omega)]
  exact N
theorem JX.of {s t s2 : Nat → Nat → Int32} {code val : Int32} (e : eq0 s t) (hf : ∀ x, nxf x → s2 x = t x) (v : code = 0 → ¬ val < 0) : JX s s2 code val := fun N => ⟨NX.of e hf N, v⟩
theorem u2_K (s : Nat → Nat → Int32) (k j : Nat) (v : Int32) {x : Nat} (h : x ≠ k) : nk_u2 s k j v x = s x := funext fun y => u2_k s k j v y h
theorem cnt_k (f : Nat → Bool) : ∃ k, k < 7 ∧ cnt f = Int32.ofNat k := by
  have : ∀ a b c d e g : Bool, ∃ k, k < 7 ∧ b2i a + b2i b + b2i c + b2i d + b2i e + b2i g = Int32.ofNat k := by decide
  exact this _ _ _ _ _ _
theorem cnt_nn (f : Nat → Bool) : ¬ cnt f < 0 := by
  obtain ⟨k, hk, e⟩ := cnt_k f
  rw [e]; exact ia_n0 (by omega)
theorem sum_k {g : Nat → Int32} (B : Nat) {n : Nat} (h : ∀ j, j < n → ∃ k, k ≤ B ∧ g j = Int32.ofNat k) : ∃ k, k ≤ B * n ∧ sumB g n = Int32.ofNat k := by
  induction n with
  | zero => exact ⟨0, by omega, rfl⟩
  | succ n ih =>
    obtain ⟨k, hk, e⟩ := ih (fun j hj => h j (by omega))
    obtain ⟨l, hl, e2⟩ := h n (by omega)
    refine ⟨k + l, ?_, ?_⟩
    · rw [Nat.mul_succ]; omega
    · show sumB g n + g n = _
      rw [e, e2, ia_add]
theorem b2i_k (b : Bool) : ∃ k, k ≤ 1 ∧ b2i b = Int32.ofNat k := by cases b; exact ⟨0, by omega, rfl⟩; exact ⟨1, by omega, rfl⟩
theorem unr_nn {s : Nat → Nat → Int32} {n k : Nat} (hn : n ≤ 160) : ¬ unrS s n k < 0 := by
  obtain ⟨j, hj, e⟩ := sum_k (g := fun j => b2i (unrB s k j)) 1 (n := n) (fun j _ => b2i_k _)
  unfold unrS
  rw [e]; exact ia_n0 (by omega)
theorem wi_nn {v l : Int32} {m : Int32} (hl : ¬ l < 0) (h : wi v l m = true) : ¬ v < 0 := by
  unfold wi at h
  rw [Bool.and_eq_true, decide_eq_true_eq] at h
  rw [Int32.not_lt] at hl ⊢
  exact Int32.le_trans hl h.1
theorem rg_nn {v : Int32} {n : Nat} (h : rg v n = true) : ¬ v < 0 := by
  intro z
  unfold rg at h
  rw [decide_eq_true z] at h
  exact absurd h (by simp)
theorem JX.ofJ {s t : Nat → Nat → Int32} {code val : Int32} (e : eq0 s t) {v u : Nat} (hv : v < 6) (hu : u < 6) (hvu : u ≠ v) (h9 : code = 0 → ¬ val < 0) : JX s (uJ t v u) code val := fun N => by
  obtain ⟨n1, n2⟩ := N
  have e2 : t 2 = s 2 := funext fun j => e 2 j (by decide)
  have ex : ∀ x, x ≠ 2 → x ≠ 0 → uJ t v u x = s x := fun x h1 h2 => (uJ_k _ _ _ h1).trans (funext fun j => e x j h2)
  refine ⟨⟨fun k hk => ?_, ?_⟩, h9⟩
  · unfold uJ
    rw [e2]
    by_cases h1 : k = u
    · subst h1
      rw [u2_eq, gb_xor, n1 k hk, gb_bit hv, decide_eq_false hvu]; rfl
    · rw [u2_j _ _ _ _ _ h1]
      by_cases h2 : k = v
      · subst h2
        rw [u2_eq, gb_xor, n1 k hk, gb_bit hu, decide_eq_false (Ne.symm hvu)]; rfl
      · rw [u2_j _ _ _ _ _ h2, e2]; exact n1 k hk
  · unfold sN at n2 ⊢
    rw [ex 29 (by decide) (by decide), ex 33 (by decide) (by decide), ex 37 (by decide) (by decide), ex 40 (by decide) (by decide), ex 41 (by decide) (by decide), ex 43 (by decide) (by decide), ex 12 (by decide) (by decide), ex 15 (by decide) (by decide), ex 30 (by decide) (by decide), ex 31 (by decide) (by decide)]
    exact n2
theorem JX.tam {s t : Nat → Nat → Int32} (e : eq0 s t) {x : Nat} {u code : Int32} (hx : 6 * x + 3 < 960) (hu : wi u 1 10000 = true) : JX s (nk_u2 t 33 (6 * x + 3) u) code (s 33 (6 * x + 3)) := fun N => by
  obtain ⟨n1, n2, n3, n4⟩ := N
  have ex : ∀ z, z ≠ 33 → z ≠ 0 → nk_u2 t 33 (6 * x + 3) u z = s z := fun z h1 h2 => (u2_K _ _ _ _ h1).trans (funext fun j => e z j h2)
  have e33 : ∀ y, nk_u2 t 33 (6 * x + 3) u 33 y = if y = 6 * x + 3 then u else s 33 y := fun y => by
    by_cases q : y = 6 * x + 3
    · rw [if_pos q, q, u2_eq]
    · rw [if_neg q, u2_j _ _ _ _ _ q, e 33 _ (by decide)]
  refine ⟨⟨?_, fun y hy => ?_, fun y hy => ?_, ?_⟩, fun _ => n3 _ hx⟩
  · rw [ex 2 (by decide) (by decide)]; exact n1
  · unfold sN at hy n2
    rw [ex 29 (by decide) (by decide)] at hy
    rw [e33]
    by_cases q : y = x
    · subst q; rw [if_pos rfl]; exact hu
    · rw [if_neg (by omega)]; exact n2 y hy
  · rw [e33]
    split
    · exact wi_nn (by decide) hu
    · exact n3 y hy
  · unfold sN at n4 ⊢
    rw [ex 29 (by decide) (by decide), ex 37 (by decide) (by decide), ex 40 (by decide) (by decide), ex 41 (by decide) (by decide), ex 43 (by decide) (by decide), ex 12 (by decide) (by decide), ex 15 (by decide) (by decide), ex 30 (by decide) (by decide), ex 31 (by decide) (by decide)]
    exact n4
/-- what a call owes: the class's side and the reference's side -/
def BI (h : nk_H) (X : Nat) (s : Nat → Nat → Int32) (fL : Option (nk_H × Int32)) (fM : nk_H → Option (nk_H × Int32)) : Prop :=
  ∃ n' w' a' c' hr' s' s2 code val, WOK h X s n' w' a' c' hr' s' code val fL ∧ (∀ h1, St h1 (X + 23) s → ∃ r, (code = 0 → r = val) ∧ Ok h1 (X + 23) s2 r (fM h1)) ∧ eq0 s' s2 ∧ s2 0 0 = code ∧ (code ≠ 0 → eq0 s s2) ∧ JX s s2 code val
section JN
variable {h h' : nk_H} {X n w a c hr : Nat} {pa cp : Nat → Nat} {s s' m : Nat → Nat → Int32}
theorem BI.err {fL : Option (nk_H × Int32)} {fM : nk_H → Option (nk_H × Int32)} (W : WR h X n w a c hr pa cp s s) (k : Int32) (hk0 : k ≠ 0) (eL : fL = some (nk_al h 0 0 6, k)) (eM : ∀ h1, St h1 (X + 23) s → ∃ r, Ok h1 (X + 23) (nk_u2 s 0 0 k) r (fM h1)) : BI h X s fL fM := by
  refine ⟨n, w, a, c, hr, s, nk_u2 s 0 0 k, k, 0, ?_, fun h1 H1 => ?_, eq0_u s _, u2_eq _ _ _ _, fun _ => eq0_u s _, JX.of (eq0_u s _) (fun _ _ => rfl) (fun _ => by decide)⟩
  · rw [eL]
    exact ⟨_, pa, cp, rfl, W.al 0 0 6, fun e => absurd e hk0, by rw [nk_N_al]; omega, by rw [nk_S_al]; omega⟩
  · obtain ⟨r, hr9⟩ := eM h1 H1
    exact ⟨r, fun e => absurd e hk0, hr9⟩
theorem wr_a {α : Type} {h : nk_H} {x j : Nat} (v : Int32) (hk : nk_K h x = 1) (hj : j < nk_L h x) (hj2 : j < 2147483648) (K : nk_H → Option (nk_H × α)) : (nk_wI h (some x) (Int32.ofNat j) v).bind K = K (nk_sI h x j v) := by
  simp [nk_wI, hk, ia_n0 hj2, ia_nn hj2, hj]
theorem uJ_v (s : Nat → Nat → Int32) {v u : Nat} (hvu : u ≠ v) : uJ s v u 2 v = s 2 v ^^^ (1 <<< (Int32.ofNat u &&& 31)) := by
  unfold uJ
  rw [u2_j _ _ _ _ _ (Ne.symm hvu), u2_eq]
theorem q_turn (W : WR h X n w a c hr pa cp s m) {v u : Nat} (hv : v < 6) (hu : u < 6) (hvu : u ≠ v) : ∃ h9, f_X6_turn h (X + 1) (Int32.ofNat v) (Int32.ofNat u) = some (h9, ()) ∧ nk_N h9 = nk_N h ∧ nk_S h9 = nk_S h ∧ WR h9 X n w a c hr pa cp (uJ s v u) m := by
  have hN := W.N
  obtain ⟨-, -, -, -, -, -, ⟨k3, k4, k5, k6, k7, k8, k9⟩, -⟩ := W.1.1.1
  obtain ⟨-, -, -, g4⟩ := W.1.2.1
  have ebit : ∀ (h : nk_H) (k : Nat) (K : nk_H → Int32 → Option (nk_H × Unit)), nk_do (f_X11_bit h (Int32.ofNat k)) K = K h (1 <<< (Int32.ofNat k &&& 31)) := fun h k K => rfl
  refine ⟨nk_sI (nk_sI h (X + 2) v (s 2 v ^^^ (1 <<< (Int32.ofNat u &&& 31)))) (X + 2) u (s 2 u ^^^ (1 <<< (Int32.ofNat v &&& 31))), ?_, rfl, rfl, ?_⟩
  · unfold f_X6_turn
    have e2 : nk_I (nk_sI h (X + 2) v (s 2 v ^^^ (1 <<< (Int32.ofNat u &&& 31)))) (X + 2) u = s 2 u := by
      rw [nk_I_sI, nk_u2_nk _ _ _ _ _ hvu]; exact (g4 u hu).1
    rw [rd_P [14] (by rw [k3]; decide) k4, rd_a 1 k6 (by omega) (by omega) (g4 v hv).1, ebit, wr_a _ k6 (by omega) (by omega), rd_P (h := nk_sI h (X + 2) v (s 2 v ^^^ (1 <<< (Int32.ofNat u &&& 31)))) [14] (by show nk_K h (X + 1) ∈ [14]; rw [k3]; decide) k4, rd_a (h := nk_sI h (X + 2) v (s 2 v ^^^ (1 <<< (Int32.ofNat u &&& 31)))) 1 k6 (by show u < nk_L h (X + 2); omega) (by omega) e2, ebit, wr_a (h := nk_sI h (X + 2) v (s 2 v ^^^ (1 <<< (Int32.ofNat u &&& 31)))) _ k6 (by show u < nk_L h (X + 2); omega) (by omega)]
  · refine W.links ?_ (fun k hk => uJ_k s v u hk) (fun k hk => ?_) (uJ_I W.I hv hu)
    · exact (Gn_sI (DI := fun x => x = X + 2) h (X + 2) v _ no (Or.inl rfl)).trans (Gn_sI (DI := fun x => x = X + 2) _ (X + 2) u _ no (Or.inl rfl))
    · rw [nk_I_sI, nk_I_sI]
      unfold uJ
      by_cases h1 : k = u
      · rw [h1, nk_u2_eq, u2_eq]
      · rw [nk_u2_nk _ _ _ _ _ h1, u2_j _ _ _ _ _ h1]
        by_cases h2 : k = v
        · rw [h2, nk_u2_eq, u2_eq]
        · rw [nk_u2_nk _ _ _ _ _ h2, u2_j _ _ _ _ _ h2]; exact (g4 k hk).1
theorem q_degree (W : WR h X n w a c hr pa cp s m) {v : Nat} (hv : v < 6) : f_X6_degree h (X + 1) (Int32.ofNat v) = some (h, cnt (gb (s 2 v))) := by
  obtain ⟨-, -, -, -, -, -, ⟨k3, k4, k5, k6, k7, k8, k9⟩, -⟩ := W.1.1.1
  obtain ⟨-, -, -, g4⟩ := W.1.2.1
  obtain ⟨b, hb, eb⟩ := W.I.2.2.2.2.2.2.2.1.2.2 v hv
  unfold f_X6_degree
  rw [rd_P [14] (by rw [k3]; decide) k4, rd_a 1 k6 (by omega) (by omega) (g4 v hv).1, do_eq (bc h (by rw [eb]; exact six_of hb))]
theorem q_areLinked (W : WR h X n w a c hr pa cp s m) {v u : Nat} (hv : v < 6) (hu : u < 6) : f_X6_areLinked h (X + 1) (Int32.ofNat v) (Int32.ofNat u) = some (h, b2i (gb (s 2 v) u)) := by
  obtain ⟨-, -, -, -, -, -, ⟨k3, k4, k5, k6, k7, k8, k9⟩, -⟩ := W.1.1.1
  obtain ⟨-, -, -, g4⟩ := W.1.2.1
  unfold f_X6_areLinked
  rw [rd_P [14] (by rw [k3]; decide) k4, rd_a 1 k6 (by omega) (by omega) (g4 v hv).1, do_eq (cls_hasBit h _ hu), nk_zr_b]
theorem mb_two (h : nk_H) (v u : Int32) : f_X11_mustBeTwoKiosks h v u = if (rg v 6 && rg u 6) = true then (if v = u then xx h nk_IA else some (h, .inl ())) else xx h nk_IX := by
  unfold f_X11_mustBeTwoKiosks
  rw [dt_if (mb_kiosk h v)]
  cases rg v 6 with
  | false => rfl
  | true =>
    rw [if_pos rfl, dt_if (mb_kiosk h u)]
    cases rg u 6 <;> rfl
theorem m_errorOfLink {M : Nat} (H : St h M s) (v u : Int32) (b : Bool) : f_X12_errorOfLink h M v u (b2i b) = some (h, if (rg v 6 && rg u 6) = true then (if v = u then 2 else if gb (s 2 v.toNatClampNeg) u.toNatClampNeg = b then 3 else 0) else 1) := by
  unfold f_X12_errorOfLink f_X12_errorOfLink_c14 f_X12_errorOfLink_c44
  rw [do_eq (m_isKiosk h v), ite_not]
  cases h0 : rg v 6 with
  | false => rfl
  | true =>
    rw [if_neg (by decide), do_eq (m_isKiosk h u), ite_not]
    cases h1 : rg u 6 with
    | false => rfl
    | true =>
      obtain ⟨k, rfl, hk⟩ := rg_ex (by decide) h0
      obtain ⟨j, rfl, hj⟩ := rg_ex (by decide) h1
      rw [if_neg (by decide)]
      by_cases e : Int32.ofNat k = Int32.ofNat j
      · rw [if_pos e, if_pos (by rfl), if_pos e]
      · rw [if_neg e, if_pos (by rfl), if_neg e, w_gP H 2, w_aI H 2 (by show k < 6; omega), gb_mod _ hj, ia_nn (by omega), ia_nn (by omega)]
        cases gb (s 2 k) j <;> cases b <;> rfl
theorem m_turns {M : Nat} (H : St h M s) {v u : Nat} (hv : v < 6) (hu : u < 6) (hvu : u ≠ v) : Ok h M (uJ s v u) (cnt (gb (uJ s v u 2 v))) (f_X12_turns h M (Int32.ofNat v) (Int32.ofNat u)) := by
  unfold f_X12_turns
  rw [w_gP H 2, w_aI H 2 (by show v < 6; omega)]
  refine w_wI H 2 _ (by show v < 6; omega) (fun h1 H => ?_)
  rw [w_gP H 2, w_aI H 2 (by show u < 6; omega), u2_j _ _ _ _ _ hvu]
  refine w_wI H 2 _ (by show u < 6; omega) (fun h2 H => ?_)
  rw [w_gP H 2, w_aI H 2 (by show v < 6; omega), do_eq (m_many h2 _)]
  exact Ok.here H
end JN
