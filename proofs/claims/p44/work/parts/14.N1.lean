/-! ===== a heap that holds another one's cells, renamed: what a function does there ===== -/
/-- h holds the cells D of g, renamed by ρ; the cells F of h are as in h0 -/
def nt_R (ρ : Nat → Nat) (D F : Nat → Prop) (h0 : nk_H) (u v : Nat) (h g : nk_H) : Prop :=
  (∀ a b, D a → D b → ρ a = ρ b → a = b) ∧ (∀ a, D a → nk_K h (ρ a) = nk_K g a) ∧
  (∀ a, D a → nk_K g a ≠ 0 → nk_K g a ≠ 20 → nk_L h (ρ a) = nk_L g a ∧ (∀ j, nk_I h (ρ a) j = nk_I g a j) ∧ (∀ j, nk_P h (ρ a) j = (nk_P g a j).map ρ) ∧ ∀ j b, nk_P g a j = some b → D b ∧ b < nk_N g) ∧
  (∀ i, D (nk_N g + i) ∧ ρ (nk_N g + i) = nk_N h + i ∧ nk_K g (nk_N g + i) = 0) ∧
  (D (nk_E g) ∧ ρ (nk_E g) = nk_E h ∧ nk_E h = nk_E h0 ∧ nk_E g < nk_N g) ∧ (nk_S h + u = nk_S g + v ∧ nk_N h0 ≤ nk_N h ∧ ∀ y, y < nk_N h0 → nk_K h y = nk_K h0 y) ∧
  ∀ x, F x → x < nk_N h ∧ (∀ a, D a → nk_K g a ≠ 0 → nk_K g a ≠ 20 → ρ a ≠ x) ∧ nk_K h x = nk_K h0 x ∧ nk_L h x = nk_L h0 x ∧ (∀ j, nk_I h x j = nk_I h0 x j) ∧ ∀ j, nk_P h x j = nk_P h0 x j
def nt_V (ρ : Nat → Nat) (D : Nat → Prop) (n : Nat) (p q : Option Nat) : Prop := q = p.map ρ ∧ ∀ b, p = some b → D b ∧ b < n
def nt_A (ρ : Nat → Nat) (D : Nat → Prop) (n : Nat) (a b : Nat) : Prop := (D a ∧ a < n) ∧ b = ρ a
def nt_q {α : Type} (_ : Nat) (a b : α) : Prop := a = b
def nt_F {α : Type} (ρ : Nat → Nat) (D F : Nat → Prop) (h0 : nk_H) (u v k : Nat) (V : Nat → α → α → Prop) (x y : Option (nk_H × α)) : Prop := ∀ (g : nk_H) (r : α), x = some (g, r) → ∃ (h : nk_H) (r' : α), y = some (h, r') ∧ nt_R ρ D F h0 u v h g ∧ V (nk_N g) r r' ∧ k ≤ nk_N g
section NT
variable {ρ : Nat → Nat} {D F : Nat → Prop} {h0 : nk_H} {u v n n' k k' : Nat} {h g : nk_H} {α β : Type} {V : Nat → α → α → Prop}
theorem nt_vS {a b : Nat} (h : nt_A ρ D n a b) : nt_V ρ D n (some a) (some b) := ⟨by rw [h.2]; rfl, fun c e => by cases e; exact h.1⟩
theorem nt_vn : nt_V ρ D n none none := ⟨rfl, fun _ e => by cases e⟩
theorem nt_vm {p q : Option Nat} (h : nt_V ρ D n p q) (le : n ≤ n') : nt_V ρ D n' p q := ⟨h.1, fun b e => ⟨(h.2 b e).1, Nat.lt_of_lt_of_le (h.2 b e).2 le⟩⟩
theorem nt_am {a b : Nat} (h : nt_A ρ D n a b) (le : n ≤ n') : nt_A ρ D n' a b := ⟨⟨h.1.1, Nat.lt_of_lt_of_le h.1.2 le⟩, h.2⟩
theorem nt_aN (R : nt_R ρ D F h0 u v h g) (lt : nk_N g < n) : nt_A ρ D n (nk_N g) (nk_N h) := ⟨⟨(R.2.2.2.1 0).1, lt⟩, (R.2.2.2.1 0).2.1.symm⟩
theorem nt_vN (R : nt_R ρ D F h0 u v h g) (lt : nk_N g < n) : nt_V ρ D n (some (nk_N g)) (some (nk_N h)) := nt_vS (nt_aN R lt)
theorem nt_vE (R : nt_R ρ D F h0 u v h g) (le : nk_N g ≤ n) : nt_V ρ D n (some (nk_E g)) (some (nk_E h)) := nt_vS ⟨⟨R.2.2.2.2.1.1, Nat.lt_of_lt_of_le R.2.2.2.2.1.2.2.2 le⟩, R.2.2.2.2.1.2.1.symm⟩
theorem nt_eq (R : nt_R ρ D F h0 u v h g) {p p' q q' : Option Nat} (a : nt_V ρ D n p p') (b : nt_V ρ D n' q q') : (p = q) ↔ (p' = q') := by
  obtain ⟨rfl, a2⟩ := a
  obtain ⟨rfl, b2⟩ := b
  cases p with
  | none => cases q <;> simp
  | some x =>
    cases q with
    | none => simp
    | some y =>
      simp only [Option.map_some, Option.some.injEq]
      exact ⟨fun e => by rw [e], fun e => R.1 x y (a2 x rfl).1 (b2 y rfl).1 e⟩
theorem nt_k (R : nt_R ρ D F h0 u v h g) {a b : Nat} (A : nt_A ρ D n a b) (c : Nat) : (nk_K g a = c) ↔ (nk_K h b = c) := by
  rw [A.2, R.2.1 a A.1.1]
theorem nt_none {y : Option (nk_H × α)} : nt_F ρ D F h0 u v k V none y := fun _ _ e => by cases e
theorem nt_fk {x y : Option (nk_H × α)} (f : nt_F ρ D F h0 u v k' V x y) (le : k ≤ k') : nt_F ρ D F h0 u v k V x y := fun g1 r1 e => by
  obtain ⟨h1, r2, a, b, c, d⟩ := f g1 r1 e
  exact ⟨h1, r2, a, b, c, Nat.le_trans le d⟩
theorem nt_ret (R : nt_R ρ D F h0 u v h g) {r r' : α} (hv : V (nk_N g) r r') (le : k ≤ nk_N g) : nt_F ρ D F h0 u v k V (some (g, r)) (some (h, r')) := fun g1 r1 e => by
  cases e; exact ⟨h, r', rfl, R, hv, le⟩
theorem nt_zr (R : nt_R ρ D F h0 u v h g) {r r' : α} (x : Int32) (hv : V (nk_N g) r r') (le : k ≤ nk_N g) : nt_F ρ D F h0 u v k V (nk_zr x (g, r)) (nk_zr x (h, r')) := by
  unfold nk_zr
  by_cases e : vp_nar .boolean x = x
  · rw [if_pos e, if_pos e]; exact nt_ret R hv le
  · rw [if_neg e]; exact nt_none
theorem nt_ite {c : Prop} [Decidable c] {a b a' b' : Option (nk_H × α)} (p : nt_F ρ D F h0 u v k V a a') (q : nt_F ρ D F h0 u v k V b b') : nt_F ρ D F h0 u v k V (if c then a else b) (if c then a' else b') := by
  by_cases e : c
  · rw [if_pos e, if_pos e]; exact p
  · rw [if_neg e, if_neg e]; exact q
theorem nt_iteP {c c' : Prop} [Decidable c] [Decidable c'] (w : c ↔ c') {a b a' b' : Option (nk_H × α)} (p : nt_F ρ D F h0 u v k V a a') (q : nt_F ρ D F h0 u v k V b b') : nt_F ρ D F h0 u v k V (if c then a else b) (if c' then a' else b') := by
  by_cases e : c
  · rw [if_pos e, if_pos (w.mp e)]; exact p
  · rw [if_neg e, if_neg (fun z => e (w.mpr z))]; exact q
theorem nt_doE {x y : Option (nk_H × β)} {A A' : nk_H → β → Option (nk_H × α)} (hx : nt_F ρ D F h0 u v k' nt_q x y) (hK : ∀ g1 h1 r, nt_R ρ D F h0 u v h1 g1 → k' ≤ nk_N g1 → nt_F ρ D F h0 u v k V (A g1 r) (A' h1 r)) : nt_F ρ D F h0 u v k V (nk_do x A) (nk_do y A') := by
  intro g2 r2 e
  cases hx2 : x with
  | none => rw [hx2] at e; cases e
  | some z =>
    obtain ⟨g1, r1⟩ := z
    obtain ⟨h1, r1', e1, R1, e9, le⟩ := hx g1 r1 hx2
    cases e9
    rw [hx2] at e
    obtain ⟨h2, r2', e2, R2, V2, le2⟩ := hK g1 h1 r1 R1 le g2 r2 e
    exact ⟨h2, r2', by rw [e1]; exact e2, R2, V2, le2⟩
theorem nt_doV {x y : Option (nk_H × Option Nat)} {A A' : nk_H → Option Nat → Option (nk_H × α)} (hx : nt_F ρ D F h0 u v k' (nt_V ρ D) x y) (hK : ∀ g1 h1 r r', nt_R ρ D F h0 u v h1 g1 → nt_V ρ D (nk_N g1) r r' → k' ≤ nk_N g1 → nt_F ρ D F h0 u v k V (A g1 r) (A' h1 r')) : nt_F ρ D F h0 u v k V (nk_do x A) (nk_do y A') := by
  intro g2 r2 e
  cases hx2 : x with
  | none => rw [hx2] at e; cases e
  | some z =>
    obtain ⟨g1, r1⟩ := z
    obtain ⟨h1, r1', e1, R1, V1, le⟩ := hx g1 r1 hx2
    rw [hx2] at e
    obtain ⟨h2, r2', e2, R2, V2, le2⟩ := hK g1 h1 r1 r1' R1 V1 le g2 r2 e
    exact ⟨h2, r2', by rw [e1]; exact e2, R2, V2, le2⟩
theorem nt_dt {γ : Type} {x y : Option (nk_H × (β ⊕ String))} {A A' : nk_H → β → Option (nk_H × (γ ⊕ String))} (hk : k ≤ k') (hx : nt_F ρ D F h0 u v k' nt_q x y) (hK : ∀ g1 h1 r, nt_R ρ D F h0 u v h1 g1 → k' ≤ nk_N g1 → nt_F ρ D F h0 u v k nt_q (A g1 r) (A' h1 r)) : nt_F ρ D F h0 u v k nt_q (nk_dt x A) (nk_dt y A') := by
  intro g2 r2 e
  cases hx2 : x with
  | none => rw [hx2] at e; cases e
  | some z =>
    obtain ⟨g1, r1⟩ := z
    obtain ⟨h1, r1', e1, R1, e9, le⟩ := hx g1 r1 hx2
    cases e9
    rw [hx2] at e
    rw [e1]
    cases r1 with
    | inl b => exact hK g1 h1 b R1 le g2 r2 e
    | inr E => cases e; exact ⟨h1, .inr E, rfl, R1, rfl, Nat.le_trans hk le⟩
/-- reading -/
theorem nt_ks {ks : List Nat} (hks : 0 ∉ ks ∧ 20 ∉ ks) {k : Nat} (hk : k ∈ ks) : k ≠ 0 ∧ k ≠ 20 := ⟨fun e => hks.1 (by rw [← e]; exact hk), fun e => hks.2 (by rw [← e]; exact hk)⟩
theorem nt_gI (R : nt_R ρ D F h0 u v h g) {p p' : Option Nat} (P : nt_V ρ D n p p') {ks : List Nat} {fk : Nat} {A A' : Int32 → Option (nk_H × α)} (hK : ∀ x, nt_F ρ D F h0 u v k V (A x) (A' x)) (hks : 0 ∉ ks ∧ 20 ∉ ks := by decide) : nt_F ρ D F h0 u v k V ((nk_gI ks fk g p).bind A) ((nk_gI ks fk h p').bind A') := by
  obtain ⟨rfl, P2⟩ := P
  cases p with
  | none => exact nt_none
  | some a =>
    have ha := (P2 a rfl).1
    have hk := R.2.1 a ha
    unfold nk_gI
    by_cases e : nk_K g a ∈ ks
    · have q := nt_ks hks e
      have := (R.2.2.1 a ha q.1 q.2).2.1 fk
      simp only [Option.map_some, Option.bind_some, hk, if_pos e, this]
      exact hK _
    · simp only [Option.bind_some, if_neg e]; exact nt_none
theorem nt_gP (R : nt_R ρ D F h0 u v h g) {p p' : Option Nat} (P : nt_V ρ D n p p') {ks : List Nat} {fk : Nat} {A A' : Option Nat → Option (nk_H × α)} (hK : ∀ x x', nt_V ρ D (nk_N g) x x' → nt_F ρ D F h0 u v k V (A x) (A' x')) (hks : 0 ∉ ks ∧ 20 ∉ ks := by decide) : nt_F ρ D F h0 u v k V ((nk_gP ks fk g p).bind A) ((nk_gP ks fk h p').bind A') := by
  obtain ⟨rfl, P2⟩ := P
  cases p with
  | none => exact nt_none
  | some a =>
    have ha := (P2 a rfl).1
    have hk := R.2.1 a ha
    unfold nk_gP
    by_cases e : nk_K g a ∈ ks
    · have q := nt_ks hks e
      obtain ⟨-, -, q3, q4⟩ := R.2.2.1 a ha q.1 q.2
      simp only [Option.map_some, Option.bind_some, hk, if_pos e]
      exact hK _ _ ⟨q3 fk, fun b hb => q4 fk b hb⟩
    · simp only [Option.bind_some, if_neg e]; exact nt_none
theorem nt_rcv (R : nt_R ρ D F h0 u v h g) {p p' : Option Nat} (P : nt_V ρ D n p p') {ks : List Nat} {A A' : Nat → Option (nk_H × α)} (hK : ∀ x x', nt_A ρ D n x x' → nt_F ρ D F h0 u v k V (A x) (A' x')) : nt_F ρ D F h0 u v k V ((nk_rcv ks g p).bind A) ((nk_rcv ks h p').bind A') := by
  obtain ⟨rfl, P2⟩ := P
  cases p with
  | none => exact nt_none
  | some a =>
    have ha := (P2 a rfl).1
    have hk := R.2.1 a ha
    unfold nk_rcv
    by_cases e : nk_K g a ∈ ks
    · simp only [Option.map_some, Option.bind_some, hk, if_pos e]
      exact hK _ _ ⟨P2 a rfl, rfl⟩
    · simp only [Option.bind_some, if_neg e]; exact nt_none
theorem nt_cc (R : nt_R ρ D F h0 u v h g) {p p' : Option Nat} (P : nt_V ρ D n p p') {ks : List Nat} {A A' : Unit → Option (nk_H × α)} (hK : nt_F ρ D F h0 u v k V (A ()) (A' ())) : nt_F ρ D F h0 u v k V ((nk_cc ks g p).bind A) ((nk_cc ks h p').bind A') := by
  obtain ⟨rfl, P2⟩ := P
  cases p with
  | none => exact hK
  | some a =>
    have ha := (P2 a rfl).1
    have hk := R.2.1 a ha
    unfold nk_cc
    by_cases e : nk_K g a ∈ ks
    · simp only [Option.map_some, hk, if_pos e]
      exact hK
    · simp only [if_neg e]; exact nt_none
theorem nt_aI (R : nt_R ρ D F h0 u v h g) {p p' : Option Nat} (P : nt_V ρ D n p p') {c : Nat} {i : Int32} {A A' : Int32 → Option (nk_H × α)} (hK : ∀ x, nt_F ρ D F h0 u v k V (A x) (A' x)) (hc : c ≠ 0 ∧ c ≠ 20 := by decide) : nt_F ρ D F h0 u v k V ((nk_aI c g p i).bind A) ((nk_aI c h p' i).bind A') := by
  obtain ⟨rfl, P2⟩ := P
  cases p with
  | none => exact nt_none
  | some a =>
    have ha := (P2 a rfl).1
    have hk := R.2.1 a ha
    unfold nk_aI
    by_cases e : nk_K g a = c ∧ ¬ i < 0 ∧ i.toNatClampNeg < nk_L g a
    · obtain ⟨q1, q2, -⟩ := R.2.2.1 a ha (by rw [e.1]; exact hc.1) (by rw [e.1]; exact hc.2)
      have e' : nk_K h (ρ a) = c ∧ ¬ i < 0 ∧ i.toNatClampNeg < nk_L h (ρ a) := by rw [hk, q1]; exact e
      simp only [Option.map_some, Option.bind_some, if_pos e, if_pos e', q2]
      exact hK _
    · simp only [Option.bind_some, if_neg e]; exact nt_none
theorem nt_aP (R : nt_R ρ D F h0 u v h g) {p p' : Option Nat} (P : nt_V ρ D n p p') {c : Nat} {i : Int32} {A A' : Option Nat → Option (nk_H × α)} (hK : ∀ x x', nt_V ρ D (nk_N g) x x' → nt_F ρ D F h0 u v k V (A x) (A' x')) (hc : c ≠ 0 ∧ c ≠ 20 := by decide) : nt_F ρ D F h0 u v k V ((nk_aP c g p i).bind A) ((nk_aP c h p' i).bind A') := by
  obtain ⟨rfl, P2⟩ := P
  cases p with
  | none => exact nt_none
  | some a =>
    have ha := (P2 a rfl).1
    have hk := R.2.1 a ha
    unfold nk_aP
    by_cases e : nk_K g a = c ∧ ¬ i < 0 ∧ i.toNatClampNeg < nk_L g a
    · obtain ⟨q1, -, q3, q4⟩ := R.2.2.1 a ha (by rw [e.1]; exact hc.1) (by rw [e.1]; exact hc.2)
      have e' : nk_K h (ρ a) = c ∧ ¬ i < 0 ∧ i.toNatClampNeg < nk_L h (ρ a) := by rw [hk, q1]; exact e
      simp only [Option.map_some, Option.bind_some, if_pos e, if_pos e']
      exact hK _ _ ⟨q3 _, fun b hb => q4 _ b hb⟩
    · simp only [Option.bind_some, if_neg e]; exact nt_none
theorem nt_len (R : nt_R ρ D F h0 u v h g) {p p' : Option Nat} (P : nt_V ρ D n p p') {A A' : Int32 → Option (nk_H × α)} (hK : ∀ x, nt_F ρ D F h0 u v k V (A x) (A' x)) : nt_F ρ D F h0 u v k V ((nk_len g p).bind A) ((nk_len h p').bind A') := by
  obtain ⟨rfl, P2⟩ := P
  cases p with
  | none => exact nt_none
  | some a =>
    have ha := (P2 a rfl).1
    have hk := R.2.1 a ha
    unfold nk_len
    by_cases e : 1 ≤ nk_K g a ∧ nk_K g a ≤ 6
    · obtain ⟨q1, -⟩ := R.2.2.1 a ha (by omega) (by omega)
      simp only [Option.map_some, Option.bind_some, hk, if_pos e, q1]
      exact hK _
    · by_cases e2 : nk_K g a = 20
      · simp only [Option.map_some, Option.bind_some, hk, if_neg e, if_pos e2]
        exact hK _
      · simp only [Option.bind_some, if_neg e, if_neg e2]; exact nt_none
theorem nt_gc (R : nt_R ρ D F h0 u v h g) {p p' : Option Nat} (P : nt_V ρ D n p p') {A A' : Option Nat → Option (nk_H × α)} (hK : ∀ x x', ((x = some (nk_M g)) ↔ (x' = some (nk_M h))) → nt_F ρ D F h0 u v k V (A x) (A' x')) : nt_F ρ D F h0 u v k V ((nk_gc g p).bind A) ((nk_gc h p').bind A') := by
  obtain ⟨rfl, P2⟩ := P
  cases p with
  | none => exact nt_none
  | some a =>
    have ha := (P2 a rfl).1
    have hk := R.2.1 a ha
    unfold nk_gc
    by_cases e : nk_K g a = 4
    · simp only [Option.map_some, Option.bind_some, hk, if_pos e]
      exact hK _ _ ⟨fun _ => rfl, fun _ => rfl⟩
    · simp only [Option.bind_some, if_neg e]; exact nt_none
/-- writing -/
theorem nt_sI (R : nt_R ρ D F h0 u v h g) {a : Nat} (ha : D a) (k0 : nk_K g a ≠ 0) (k1 : nk_K g a ≠ 20) (k : Nat) (x : Int32) : nt_R ρ D F h0 u v (nk_sI h (ρ a) k x) (nk_sI g a k x) := by
  obtain ⟨r1, r2, r3, r4, r5, r7, r8⟩ := R
  refine ⟨r1, r2, fun b hb b0 b1 => ?_, r4, r5, r7, fun y hy => ?_⟩
  · obtain ⟨q1, q2, q3, q4⟩ := r3 b hb b0 b1
    refine ⟨q1, fun j => ?_, q3, q4⟩
    rw [nk_I_sI, nk_I_sI]
    by_cases e : b = a
    · subst e
      by_cases ej : j = k
      · subst ej; rw [nk_u2_eq, nk_u2_eq]
      · rw [nk_u2_nk _ _ _ _ _ ej, nk_u2_nk _ _ _ _ _ ej]; exact q2 j
    · rw [nk_u2_ne _ _ _ _ j e, nk_u2_ne _ _ _ _ j (fun z => e (r1 b a hb ha z))]; exact q2 j
  · obtain ⟨q1, q2, q3, q4, q5, q6⟩ := r8 y hy
    refine ⟨q1, q2, q3, q4, fun j => ?_, q6⟩
    rw [nk_I_sI, nk_u2_ne _ _ _ _ j (fun z => q2 a ha k0 k1 z.symm)]; exact q5 j
theorem nt_sP (R : nt_R ρ D F h0 u v h g) {a : Nat} (ha : D a) (k0 : nk_K g a ≠ 0) (k1 : nk_K g a ≠ 20) (k : Nat) {p p' : Option Nat} (P : nt_V ρ D (nk_N g) p p') : nt_R ρ D F h0 u v (nk_sP h (ρ a) k p') (nk_sP g a k p) := by
  obtain ⟨r1, r2, r3, r4, r5, r7, r8⟩ := R
  obtain ⟨rfl, P3⟩ := P
  refine ⟨r1, r2, fun b hb b0 b1 => ?_, r4, r5, r7, fun y hy => ?_⟩
  · obtain ⟨q1, q2, q3, q4⟩ := r3 b hb b0 b1
    refine ⟨q1, q2, fun j => ?_, fun j c hc => ?_⟩
    · rw [nk_P_sP, nk_P_sP]
      by_cases e : b = a
      · subst e
        by_cases ej : j = k
        · subst ej; rw [nk_u2_eq, nk_u2_eq]
        · rw [nk_u2_nk _ _ _ _ _ ej, nk_u2_nk _ _ _ _ _ ej]; exact q3 j
      · rw [nk_u2_ne _ _ _ _ j e, nk_u2_ne _ _ _ _ j (fun z => e (r1 b a hb ha z))]; exact q3 j
    · rw [nk_P_sP] at hc
      by_cases e : b = a
      · subst e
        by_cases ej : j = k
        · subst ej; rw [nk_u2_eq] at hc; exact P3 c hc
        · rw [nk_u2_nk _ _ _ _ _ ej] at hc; exact q4 j c hc
      · rw [nk_u2_ne _ _ _ _ j e] at hc; exact q4 j c hc
  · obtain ⟨q1, q2, q3, q4, q5, q6⟩ := r8 y hy
    refine ⟨q1, q2, q3, q4, q5, fun j => ?_⟩
    rw [nk_P_sP, nk_u2_ne _ _ _ _ j (fun z => q2 a ha k0 k1 z.symm)]; exact q6 j
theorem nt_alR (R : nt_R ρ D F h0 u v h g) (c n w : Nat) : nt_R ρ D F h0 u v (nk_al h c n w) (nk_al g c n w) := by
  obtain ⟨r1, r2, r3, r4, r5, r7, r8⟩ := R
  have hd := (r4 0).1
  have hn : ρ (nk_N g) = nk_N h := (r4 0).2.1
  have ne : ∀ a, D a → a ≠ nk_N g → ρ a ≠ nk_N h := fun a ha e z => e (r1 a (nk_N g) ha hd (by rw [z, hn]))
  refine ⟨r1, fun a ha => ?_, fun a ha k0 k1 => ?_, fun i => ?_, ⟨r5.1, r5.2.1, r5.2.2.1, by rw [nk_N_al]; exact Nat.lt_succ_of_lt r5.2.2.2⟩, ⟨by rw [nk_S_al, nk_S_al]; omega, by rw [nk_N_al]; omega, fun y hy => by rw [nk_K_al, nk_u1_ne _ _ _ (by omega)]; exact r7.2.2 y hy⟩, fun x hx => ?_⟩
  · rw [nk_K_al, nk_K_al]
    by_cases e : a = nk_N g
    · subst e; rw [hn, nk_u1_eq, nk_u1_eq]
    · rw [nk_u1_ne _ _ _ e, nk_u1_ne _ _ _ (ne a ha e)]; exact r2 a ha
  · rw [nk_L_al, nk_L_al, nk_I_al, nk_I_al, nk_P_al, nk_P_al]
    by_cases e : a = nk_N g
    · subst e
      rw [hn, nk_u1_eq, nk_u1_eq, nk_u1_eq, nk_u1_eq, nk_u1_eq, nk_u1_eq]
      exact ⟨rfl, fun _ => rfl, fun _ => rfl, fun _ _ z => by cases z⟩
    · rw [nk_K_al, nk_u1_ne _ _ _ e] at k0 k1
      rw [nk_u1_ne _ _ _ e, nk_u1_ne _ _ _ e, nk_u1_ne _ _ _ e, nk_u1_ne _ _ _ (ne a ha e), nk_u1_ne _ _ _ (ne a ha e), nk_u1_ne _ _ _ (ne a ha e)]
      obtain ⟨q1, q2, q3, q4⟩ := r3 a ha k0 k1
      exact ⟨q1, q2, q3, fun j b hb => ⟨(q4 j b hb).1, Nat.lt_succ_of_lt (q4 j b hb).2⟩⟩
  · rw [nk_N_al, nk_N_al, nk_K_al, show nk_N g + 1 + i = nk_N g + (1 + i) by omega, nk_u1_ne _ _ _ (by omega)]
    obtain ⟨q1, q2, q3⟩ := r4 (1 + i)
    exact ⟨q1, by rw [q2]; omega, q3⟩
  · obtain ⟨q1, q2, q3, q4, q5, q6⟩ := r8 x hx
    have hxn : x ≠ nk_N h := by omega
    rw [nk_N_al, nk_K_al h, nk_L_al h, nk_I_al h, nk_P_al h, nk_u1_ne _ _ _ hxn, nk_u1_ne _ _ _ hxn, nk_u1_ne _ _ _ hxn, nk_u1_ne _ _ _ hxn]
    refine ⟨by omega, fun a ha k0 k1 => ?_, q3, q4, q5, q6⟩
    by_cases e : a = nk_N g
    · subst e; rw [hn]; omega
    · rw [nk_K_al, nk_u1_ne _ _ _ e] at k0 k1
      exact q2 a ha k0 k1
theorem nt_pI (R : nt_R ρ D F h0 u v h g) {p p' : Option Nat} (P : nt_V ρ D n p p') {ks : List Nat} {fk : Nat} {x : Int32} {A A' : nk_H → Option (nk_H × α)} (hK : ∀ g1 h1, nt_R ρ D F h0 u v h1 g1 → nk_N g ≤ nk_N g1 → nt_F ρ D F h0 u v k V (A g1) (A' h1)) (hks : 0 ∉ ks ∧ 20 ∉ ks := by decide) : nt_F ρ D F h0 u v k V ((nk_pI ks fk g p x).bind A) ((nk_pI ks fk h p' x).bind A') := by
  obtain ⟨rfl, P2⟩ := P
  cases p with
  | none => exact nt_none
  | some a =>
    have ha := (P2 a rfl).1
    have hk := R.2.1 a ha
    unfold nk_pI
    by_cases e : nk_K g a ∈ ks
    · have q := nt_ks hks e
      simp only [Option.map_some, Option.bind_some, hk, if_pos e]
      exact hK _ _ (nt_sI R ha q.1 q.2 fk x) (Nat.le_refl _)
    · simp only [Option.bind_some, if_neg e]; exact nt_none
theorem nt_pZ (R : nt_R ρ D F h0 u v h g) {p p' : Option Nat} (P : nt_V ρ D n p p') {ks : List Nat} {fk : Nat} {x : Int32} {A A' : nk_H → Option (nk_H × α)} (hK : ∀ g1 h1, nt_R ρ D F h0 u v h1 g1 → nk_N g ≤ nk_N g1 → nt_F ρ D F h0 u v k V (A g1) (A' h1)) (hks : 0 ∉ ks ∧ 20 ∉ ks := by decide) : nt_F ρ D F h0 u v k V ((nk_pZ ks fk g p x).bind A) ((nk_pZ ks fk h p' x).bind A') := by
  obtain ⟨rfl, P2⟩ := P
  cases p with
  | none => exact nt_none
  | some a =>
    have ha := (P2 a rfl).1
    have hk := R.2.1 a ha
    unfold nk_pZ
    by_cases e : nk_K g a ∈ ks ∧ (x = 0 ∨ x = 1)
    · have q := nt_ks hks e.1
      simp only [Option.map_some, Option.bind_some, hk, if_pos e]
      exact hK _ _ (nt_sI R ha q.1 q.2 fk x) (Nat.le_refl _)
    · simp only [Option.bind_some, if_neg e]; exact nt_none
theorem nt_pP (R : nt_R ρ D F h0 u v h g) {p p' : Option Nat} (P : nt_V ρ D n p p') {ks : List Nat} {fk : Nat} {x x' : Option Nat} (Q : nt_V ρ D (nk_N g) x x') {A A' : nk_H → Option (nk_H × α)} (hK : ∀ g1 h1, nt_R ρ D F h0 u v h1 g1 → nk_N g ≤ nk_N g1 → nt_F ρ D F h0 u v k V (A g1) (A' h1)) (hks : 0 ∉ ks ∧ 20 ∉ ks := by decide) : nt_F ρ D F h0 u v k V ((nk_pP ks fk g p x).bind A) ((nk_pP ks fk h p' x').bind A') := by
  obtain ⟨rfl, P2⟩ := P
  cases p with
  | none => exact nt_none
  | some a =>
    have ha := (P2 a rfl).1
    have hk := R.2.1 a ha
    unfold nk_pP
    by_cases e : nk_K g a ∈ ks
    · have q := nt_ks hks e
      simp only [Option.map_some, Option.bind_some, hk, if_pos e]
      exact hK _ _ (nt_sP R ha q.1 q.2 fk Q) (Nat.le_refl _)
    · simp only [Option.bind_some, if_neg e]; exact nt_none
theorem nt_wI (R : nt_R ρ D F h0 u v h g) {p p' : Option Nat} (P : nt_V ρ D n p p') {i x : Int32} {A A' : nk_H → Option (nk_H × α)} (hK : ∀ g1 h1, nt_R ρ D F h0 u v h1 g1 → nk_N g ≤ nk_N g1 → nt_F ρ D F h0 u v k V (A g1) (A' h1)) : nt_F ρ D F h0 u v k V ((nk_wI g p i x).bind A) ((nk_wI h p' i x).bind A') := by
  obtain ⟨rfl, P2⟩ := P
  cases p with
  | none => exact nt_none
  | some a =>
    have ha := (P2 a rfl).1
    have hk := R.2.1 a ha
    unfold nk_wI
    by_cases e : nk_K g a = 1 ∧ ¬ i < 0 ∧ i.toNatClampNeg < nk_L g a
    · have k0 : nk_K g a ≠ 0 := by omega
      have k1 : nk_K g a ≠ 20 := by omega
      have e' : nk_K h (ρ a) = 1 ∧ ¬ i < 0 ∧ i.toNatClampNeg < nk_L h (ρ a) := by rw [hk, (R.2.2.1 a ha k0 k1).1]; exact e
      simp only [Option.map_some, Option.bind_some, if_pos e, if_pos e']
      exact hK _ _ (nt_sI R ha k0 k1 _ _) (Nat.le_refl _)
    · simp only [Option.bind_some, if_neg e]; exact nt_none
theorem nt_wZ (R : nt_R ρ D F h0 u v h g) {p p' : Option Nat} (P : nt_V ρ D n p p') {i x : Int32} {A A' : nk_H → Option (nk_H × α)} (hK : ∀ g1 h1, nt_R ρ D F h0 u v h1 g1 → nk_N g ≤ nk_N g1 → nt_F ρ D F h0 u v k V (A g1) (A' h1)) : nt_F ρ D F h0 u v k V ((nk_wZ g p i x).bind A) ((nk_wZ h p' i x).bind A') := by
  obtain ⟨rfl, P2⟩ := P
  cases p with
  | none => exact nt_none
  | some a =>
    have ha := (P2 a rfl).1
    have hk := R.2.1 a ha
    unfold nk_wZ
    by_cases e : nk_K g a = 2 ∧ ¬ i < 0 ∧ i.toNatClampNeg < nk_L g a
    · have k0 : nk_K g a ≠ 0 := by omega
      have k1 : nk_K g a ≠ 20 := by omega
      have e' : nk_K h (ρ a) = 2 ∧ ¬ i < 0 ∧ i.toNatClampNeg < nk_L h (ρ a) := by rw [hk, (R.2.2.1 a ha k0 k1).1]; exact e
      simp only [Option.map_some, Option.bind_some, if_pos e, if_pos e']
      exact hK _ _ (nt_sI R ha k0 k1 _ _) (Nat.le_refl _)
    · simp only [Option.bind_some, if_neg e]; exact nt_none
theorem nt_okv (R : nt_R ρ D F h0 u v h g) {p p' : Option Nat} (P : nt_V ρ D n p p') (c : Nat) : nk_okv c h p' = nk_okv c g p := by
  obtain ⟨rfl, P2⟩ := P
  cases p with
  | none => rfl
  | some a =>
    show (if c = 3 then nk_K h (ρ a) == 9 else _) = (if c = 3 then nk_K g a == 9 else _)
    rw [R.2.1 a (P2 a rfl).1]
theorem nt_wP (R : nt_R ρ D F h0 u v h g) {p p' : Option Nat} (P : nt_V ρ D n p p') {c : Nat} {i : Int32} {x x' : Option Nat} (Q : nt_V ρ D (nk_N g) x x') {A A' : nk_H → Option (nk_H × α)} (hK : ∀ g1 h1, nt_R ρ D F h0 u v h1 g1 → nk_N g ≤ nk_N g1 → nt_F ρ D F h0 u v k V (A g1) (A' h1)) (hc : c ≠ 0 ∧ c ≠ 20 := by decide) : nt_F ρ D F h0 u v k V ((nk_wP c g p i x).bind A) ((nk_wP c h p' i x').bind A') := by
  have ok := nt_okv R Q c
  obtain ⟨rfl, P2⟩ := P
  cases p with
  | none => exact nt_none
  | some a =>
    have ha := (P2 a rfl).1
    have hk := R.2.1 a ha
    unfold nk_wP
    by_cases e : nk_K g a = c ∧ ¬ i < 0 ∧ i.toNatClampNeg < nk_L g a ∧ nk_okv c g x = true
    · have k0 : nk_K g a ≠ 0 := by rw [e.1]; exact hc.1
      have k1 : nk_K g a ≠ 20 := by rw [e.1]; exact hc.2
      have e' : nk_K h (ρ a) = c ∧ ¬ i < 0 ∧ i.toNatClampNeg < nk_L h (ρ a) ∧ nk_okv c h x' = true := by rw [hk, (R.2.2.1 a ha k0 k1).1, ok]; exact e
      simp only [Option.map_some, Option.bind_some, if_pos e, if_pos e']
      exact hK _ _ (nt_sP R ha k0 k1 _ Q) (Nat.le_refl _)
    · simp only [Option.bind_some, if_neg e]; exact nt_none
theorem nt_al (R : nt_R ρ D F h0 u v h g) {c n w : Nat} {A A' : nk_H → Option (nk_H × α)} (hK : ∀ g1 h1, nt_R ρ D F h0 u v h1 g1 → nk_N g + 1 ≤ nk_N g1 → nt_F ρ D F h0 u v k V (A g1) (A' h1)) : nt_F ρ D F h0 u v k V ((some (nk_al g c n w)).bind A) ((some (nk_al h c n w)).bind A') := hK _ _ (nt_alR R c n w) (Nat.le_refl _)
theorem nt_na (R : nt_R ρ D F h0 u v h g) {c : Nat} {n : Int32} {A A' : nk_H → Option (nk_H × α)} (hK : ∀ g1 h1, nt_R ρ D F h0 u v h1 g1 → nk_N g + 1 ≤ nk_N g1 → nt_F ρ D F h0 u v k V (A g1) (A' h1)) : nt_F ρ D F h0 u v k V ((nk_na c g n).bind A) ((nk_na c h n).bind A') := by
  unfold nk_na
  by_cases e : ¬ n < 0 ∧ n.toNatClampNeg ≤ 65536
  · simp only [if_pos e, Option.bind_some]; exact hK _ _ (nt_alR R _ _ _) (Nat.le_refl _)
  · simp only [if_neg e]; exact nt_none
theorem nt_cPR (R : nt_R ρ D F h0 u v h g) {a0 a : Nat} (h0a : D a0) (k2 : nk_K g a0 ≠ 0) (k3 : nk_K g a0 ≠ 20) (ha : D a) (k0 : nk_K g a ≠ 0) (k1 : nk_K g a ≠ 20) (sp dp n : Nat) : nt_R ρ D F h0 u v (nk_cP h (ρ a) (va_cpy (nk_P h (ρ a0)) (nk_P h (ρ a)) sp dp n)) (nk_cP g a (va_cpy (nk_P g a0) (nk_P g a) sp dp n)) := by
  obtain ⟨r1, r2, r3, r4, r5, r7, r8⟩ := R
  obtain ⟨-, -, s3, s4⟩ := r3 a0 h0a k2 k3
  have hP : ∀ (x : nk_H) (y : Nat) (f : Nat → Option Nat), nk_P (nk_cP x y f) = nk_u1 (nk_P x) y f := fun _ _ _ => rfl
  refine ⟨r1, r2, fun b hb b0 b1 => ?_, r4, r5, r7, fun y hy => ?_⟩
  · obtain ⟨q1, q2, q3, q4⟩ := r3 b hb b0 b1
    refine ⟨q1, q2, fun j => ?_, fun j c hc => ?_⟩
    · rw [hP, hP]
      by_cases e : b = a
      · subst e
        rw [nk_u1_eq, nk_u1_eq]
        unfold va_cpy
        by_cases ej : dp ≤ j ∧ j < dp + n
        · rw [if_pos ej, if_pos ej]; exact s3 _
        · rw [if_neg ej, if_neg ej]; exact q3 j
      · rw [nk_u1_ne _ _ _ e, nk_u1_ne _ _ _ (fun z => e (r1 b a hb ha z))]; exact q3 j
    · rw [hP] at hc
      by_cases e : b = a
      · subst e
        rw [nk_u1_eq] at hc
        unfold va_cpy at hc
        by_cases ej : dp ≤ j ∧ j < dp + n
        · rw [if_pos ej] at hc; exact s4 _ c hc
        · rw [if_neg ej] at hc; exact q4 j c hc
      · rw [nk_u1_ne _ _ _ e] at hc; exact q4 j c hc
  · obtain ⟨q1, q2, q3, q4, q5, q6⟩ := r8 y hy
    refine ⟨q1, q2, q3, q4, q5, fun j => ?_⟩
    rw [hP, nk_u1_ne _ _ _ (fun z => q2 a ha k0 k1 z.symm)]; exact q6 j
theorem nt_cpP (R : nt_R ρ D F h0 u v h g) {p p' q q' : Option Nat} (P : nt_V ρ D n p p') (Q : nt_V ρ D n' q q') {sp dp n : Int32} {A A' : nk_H → Option (nk_H × α)} (hK : ∀ g1 h1, nt_R ρ D F h0 u v h1 g1 → nk_N g ≤ nk_N g1 → nt_F ρ D F h0 u v k V (A g1) (A' h1)) : nt_F ρ D F h0 u v k V ((nk_cpP g p sp q dp n).bind A) ((nk_cpP h p' sp q' dp n).bind A') := by
  obtain ⟨rfl, P2⟩ := P
  obtain ⟨rfl, Q2⟩ := Q
  cases p with
  | none => exact nt_none
  | some a0 =>
    cases q with
    | none => exact nt_none
    | some a =>
      have h1 := (P2 a0 rfl).1
      have h2 := (Q2 a rfl).1
      have hk1 := R.2.1 a0 h1
      have hk2 := R.2.1 a h2
      unfold nk_cpP
      by_cases e : nk_K g a0 = 4 ∧ nk_K g a = 4 ∧ a0 ≠ a ∧ nk_rg g a0 a sp dp n = true ∧ (List.range n.toNatClampNeg).all (fun j => nk_okv 4 g (nk_P g a0 (sp.toNatClampNeg + j))) = true
      · obtain ⟨e1, e2, e3, e4, e5⟩ := e
        obtain ⟨l1, -, p1, p2⟩ := R.2.2.1 a0 h1 (by omega) (by omega)
        obtain ⟨l2, -⟩ := R.2.2.1 a h2 (by omega) (by omega)
        have e' : nk_K h (ρ a0) = 4 ∧ nk_K h (ρ a) = 4 ∧ ρ a0 ≠ ρ a ∧ nk_rg h (ρ a0) (ρ a) sp dp n = true ∧ (List.range n.toNatClampNeg).all (fun j => nk_okv 4 h (nk_P h (ρ a0) (sp.toNatClampNeg + j))) = true := by
          refine ⟨by rw [hk1]; exact e1, by rw [hk2]; exact e2, fun z => e3 (R.1 a0 a h1 h2 z), ?_, ?_⟩
          · unfold nk_rg; rw [l1, l2]; exact e4
          · rw [← e5]
            congr 1
            funext j
            exact nt_okv R ⟨p1 _, fun b hb => p2 _ b hb⟩ 4
        simp only [Option.map_some, Option.bind_some, if_pos (And.intro e1 (And.intro e2 (And.intro e3 (And.intro e4 e5)))), if_pos e']
        exact hK _ _ (nt_cPR R h1 (by omega) (by omega) h2 (by omega) (by omega) _ _ _) (Nat.le_refl _)
      · simp only [Option.bind_some, if_neg e]; exact nt_none
theorem nt_cpI (R : nt_R ρ D F h0 u v h g) {p p' q q' : Option Nat} (P : nt_V ρ D n p p') (Q : nt_V ρ D n' q q') {sp dp n : Int32} {A A' : nk_H → Option (nk_H × α)} (hK : ∀ g1 h1, nt_R ρ D F h0 u v h1 g1 → nk_N g ≤ nk_N g1 → nt_F ρ D F h0 u v k V (A g1) (A' h1)) : nt_F ρ D F h0 u v k V ((nk_cpI g p sp q dp n).bind A) ((nk_cpI h p' sp q' dp n).bind A') := by
  obtain ⟨rfl, P2⟩ := P
  obtain ⟨rfl, Q2⟩ := Q
  cases p with
  | none => exact nt_none
  | some a0 =>
    cases q with
    | none => exact nt_none
    | some a =>
      have h1 := (P2 a0 rfl).1
      have h2 := (Q2 a rfl).1
      have hk1 := R.2.1 a0 h1
      have hk2 := R.2.1 a h2
      unfold nk_cpI
      by_cases e : nk_K g a0 = 1 ∧ nk_K g a = 1 ∧ a0 ≠ a ∧ nk_rg g a0 a sp dp n = true
      · obtain ⟨e1, e2, e3, e4⟩ := e
        obtain ⟨l1, i1, -⟩ := R.2.2.1 a0 h1 (by omega) (by omega)
        obtain ⟨l2, -⟩ := R.2.2.1 a h2 (by omega) (by omega)
        have e' : nk_K h (ρ a0) = 1 ∧ nk_K h (ρ a) = 1 ∧ ρ a0 ≠ ρ a ∧ nk_rg h (ρ a0) (ρ a) sp dp n = true := by
          refine ⟨by rw [hk1]; exact e1, by rw [hk2]; exact e2, fun z => e3 (R.1 a0 a h1 h2 z), ?_⟩
          unfold nk_rg; rw [l1, l2]; exact e4
        simp only [Option.map_some, Option.bind_some, if_pos (And.intro e1 (And.intro e2 (And.intro e3 e4))), if_pos e']
        refine hK _ _ ?_ (Nat.le_refl _)
        obtain ⟨r1, r2, r3, r4, r5, r7, r8⟩ := R
        have hI : ∀ (x : nk_H) (y : Nat) (f : Nat → Int32), nk_I (nk_cI x y f) = nk_u1 (nk_I x) y f := fun _ _ _ => rfl
        refine ⟨r1, r2, fun b hb b0 b1 => ?_, r4, r5, r7, fun y hy => ?_⟩
        · obtain ⟨q1, q2, q3, q4⟩ := r3 b hb b0 b1
          refine ⟨q1, fun j => ?_, q3, q4⟩
          rw [hI, hI]
          by_cases e : b = a
          · subst e
            rw [nk_u1_eq, nk_u1_eq]
            unfold va_cpy
            by_cases ej : dp.toNatClampNeg ≤ j ∧ j < dp.toNatClampNeg + n.toNatClampNeg
            · rw [if_pos ej, if_pos ej]; exact i1 _
            · rw [if_neg ej, if_neg ej]; exact q2 j
          · rw [nk_u1_ne _ _ _ e, nk_u1_ne _ _ _ (fun z => e (r1 b a hb h2 z))]; exact q2 j
        · obtain ⟨q1, q2, q3, q4, q5, q6⟩ := r8 y hy
          refine ⟨q1, q2, q3, q4, fun j => ?_, q6⟩
          rw [hI, nk_u1_ne _ _ _ (fun z => q2 a h2 (by omega) (by omega) z.symm)]; exact q5 j
      · simp only [Option.bind_some, if_neg e]; exact nt_none
theorem nt_mnR (R : nt_R ρ D F h0 u v h g) (n k : Nat) : nt_R ρ D F h0 u v (nk_mn h n k) (nk_mn g n k) := by
  obtain ⟨r1, r2, r3, r4, r5, r7, r8⟩ := R
  have new : ∀ a, D a → ((nk_N g ≤ a ∧ ρ a = nk_N h + (a - nk_N g)) ∨ (a < nk_N g ∧ ∀ i, ρ a ≠ nk_N h + i)) := fun a ha => by
    by_cases e : nk_N g ≤ a
    · left
      have := (r4 (a - nk_N g)).2.1
      rw [show nk_N g + (a - nk_N g) = a by omega] at this
      exact ⟨e, this⟩
    · right
      refine ⟨by omega, fun i z => ?_⟩
      have := r1 a (nk_N g + i) ha (r4 i).1 (by rw [z, (r4 i).2.1])
      omega
  have hK : ∀ x y, nk_K (nk_mn x n k) y = if y = nk_N x then 5 else if nk_N x < y ∧ y ≤ nk_N x + n then 1 else nk_K x y := fun _ _ => rfl
  have hI : ∀ x y j, nk_I (nk_mn x n k) y j = if nk_N x ≤ y ∧ y ≤ nk_N x + n then 0 else nk_I x y j := fun _ _ _ => rfl
  have hP : ∀ x y j, nk_P (nk_mn x n k) y j = if y = nk_N x then (if j < n then some (nk_N x + 1 + j) else none) else if nk_N x < y ∧ y ≤ nk_N x + n then none else nk_P x y j := fun _ _ _ => rfl
  have hL : ∀ x y, nk_L (nk_mn x n k) y = if y = nk_N x then n else if nk_N x < y ∧ y ≤ nk_N x + n then k else nk_L x y := fun _ _ => rfl
  refine ⟨r1, fun a ha => ?_, fun a ha k0 k1 => ?_, fun i => ?_, ⟨r5.1, r5.2.1, r5.2.2.1, by show nk_E g < nk_N g + 1 + n; omega⟩, ?_, fun x hx => ?_⟩
  · rw [hK, hK]
    rcases new a ha with ⟨e1, e2⟩ | ⟨e1, e2⟩
    · by_cases c1 : a = nk_N g
      · rw [if_pos c1, if_pos (by omega)]
      · rw [if_neg c1, if_neg (by omega)]
        by_cases c2 : nk_N g < a ∧ a ≤ nk_N g + n
        · rw [if_pos c2, if_pos (by omega)]
        · rw [if_neg c2, if_neg (by omega)]; exact r2 a ha
    · have z0 := e2 (ρ a - nk_N h)
      rw [if_neg (by omega), if_neg (by omega), if_neg (by omega), if_neg (by omega)]; exact r2 a ha
  · rw [hL, hL]
    rw [hK] at k0 k1
    rcases new a ha with ⟨e1, e2⟩ | ⟨e1, e2⟩
    · by_cases c1 : a = nk_N g
      · subst c1
        have c3 : ρ (nk_N g) = nk_N h := by omega
        rw [if_pos rfl, if_pos c3]
        refine ⟨rfl, fun j => ?_, fun j => ?_, fun j b hb => ?_⟩
        · rw [hI, hI, if_pos (by omega), if_pos (by omega)]
        · rw [hP, hP, if_pos rfl, if_pos c3]
          by_cases c4 : j < n
          · rw [if_pos c4, if_pos c4, Option.map_some]
            have := (r4 (1 + j)).2.1
            rw [show nk_N g + 1 + j = nk_N g + (1 + j) by omega, this, show nk_N h + (1 + j) = nk_N h + 1 + j by omega]
          · rw [if_neg c4, if_neg c4]; rfl
        · rw [hP, if_pos rfl] at hb
          by_cases c4 : j < n
          · rw [if_pos c4] at hb
            cases hb
            have := (r4 (1 + j)).1
            rw [show nk_N g + 1 + j = nk_N g + (1 + j) by omega]
            exact ⟨this, by show nk_N g + (1 + j) < nk_N g + 1 + n; omega⟩
          · rw [if_neg c4] at hb; cases hb
      · rw [if_neg c1, if_neg (show ¬ ρ a = nk_N h by omega)]
        rw [if_neg c1] at k0 k1
        by_cases c2 : nk_N g < a ∧ a ≤ nk_N g + n
        · have c3 : nk_N h < ρ a ∧ ρ a ≤ nk_N h + n := by omega
          rw [if_pos c2, if_pos c3]
          refine ⟨rfl, fun j => ?_, fun j => ?_, fun j b hb => ?_⟩
          · rw [hI, hI, if_pos (by omega), if_pos (by omega)]
          · rw [hP, hP, if_neg c1, if_neg (by omega), if_pos c2, if_pos c3]; rfl
          · rw [hP, if_neg c1, if_pos c2] at hb; cases hb
        · exfalso
          rw [if_neg c2] at k0
          have := (r4 (a - nk_N g)).2.2
          rw [show nk_N g + (a - nk_N g) = a by omega] at this
          exact k0 this
    · have z0 := e2 (ρ a - nk_N h)
      have c1 : ¬ a = nk_N g := by omega
      have c2 : ¬ (nk_N g < a ∧ a ≤ nk_N g + n) := by omega
      have c3 : ¬ ρ a = nk_N h := by omega
      have c4 : ¬ (nk_N h < ρ a ∧ ρ a ≤ nk_N h + n) := by omega
      rw [if_neg c1, if_neg c2] at k0 k1
      rw [if_neg c1, if_neg c2, if_neg c3, if_neg c4]
      obtain ⟨q1, q2, q3, q4⟩ := r3 a ha k0 k1
      refine ⟨q1, fun j => ?_, fun j => ?_, fun j b hb => ?_⟩
      · rw [hI, hI, if_neg (by omega), if_neg (by omega)]; exact q2 j
      · rw [hP, hP, if_neg c1, if_neg c2, if_neg c3, if_neg c4]; exact q3 j
      · rw [hP, if_neg c1, if_neg c2] at hb; exact ⟨(q4 j b hb).1, by show b < nk_N g + 1 + n; have := (q4 j b hb).2; omega⟩
  · have e1 : nk_N (nk_mn g n k) = nk_N g + 1 + n := rfl
    have e2 : nk_N (nk_mn h n k) = nk_N h + 1 + n := rfl
    rw [e1, e2, hK, show nk_N g + 1 + n + i = nk_N g + (1 + n + i) by omega, if_neg (by omega), if_neg (by omega)]
    obtain ⟨q1, q2, q3⟩ := r4 (1 + n + i)
    exact ⟨q1, by rw [q2]; omega, q3⟩
  · have e1 : nk_S (nk_mn g n k) = nk_S g + n + n * k := rfl
    have e2 : nk_S (nk_mn h n k) = nk_S h + n + n * k := rfl
    have e3 : nk_N (nk_mn h n k) = nk_N h + 1 + n := rfl
    rw [e1, e2, e3]
    refine ⟨by omega, by omega, fun y hy => ?_⟩
    rw [hK, if_neg (by omega), if_neg (by omega)]; exact r7.2.2 y hy
  · obtain ⟨q1, q2, q3, q4, q5, q6⟩ := r8 x hx
    have e2 : nk_N (nk_mn h n k) = nk_N h + 1 + n := rfl
    rw [e2, hK, hL, if_neg (by omega), if_neg (by omega), if_neg (by omega), if_neg (by omega)]
    refine ⟨by omega, fun a ha k0 k1 => ?_, q3, q4, fun j => ?_, fun j => ?_⟩
    · rcases new a ha with ⟨e1, e2⟩ | ⟨e1, e2⟩
      · omega
      · rw [hK, if_neg (by omega), if_neg (by omega)] at k0 k1
        exact q2 a ha k0 k1
    · rw [hI, if_neg (by omega)]; exact q5 j
    · rw [hP, if_neg (by omega), if_neg (by omega)]; exact q6 j
theorem nt_mna (R : nt_R ρ D F h0 u v h g) {n k9 : Int32} {A A' : nk_H → Option (nk_H × α)} (hK : ∀ g1 h1, nt_R ρ D F h0 u v h1 g1 → nk_N g + 1 ≤ nk_N g1 → nt_F ρ D F h0 u v k V (A g1) (A' h1)) : nt_F ρ D F h0 u v k V ((nk_mna g n k9).bind A) ((nk_mna h n k9).bind A') := by
  unfold nk_mna
  by_cases e : ¬ n < 0 ∧ ¬ k9 < 0 ∧ n.toNatClampNeg ≤ 65536 ∧ k9.toNatClampNeg ≤ 65536
  · simp only [if_pos e, Option.bind_some]; exact hK _ _ (nt_mnR R _ _) (by show nk_N g + 1 ≤ nk_N g + 1 + _; omega)
  · simp only [if_neg e]; exact nt_none
end NT
