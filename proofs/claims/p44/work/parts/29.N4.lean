/-! ===== what a question makes (by program: wip/p44/gen/gen_nb.py) ===== -/
def nb_F {α : Type} (n s : Nat) (x : Option (nk_H × α)) : Prop := ∀ (g : nk_H) (r : α), x = some (g, r) → nk_N g ≤ n ∧ nk_S g ≤ s
section NB
variable {α β : Type} {n s n' s' : Nat} {h : nk_H}
theorem nb_none : nb_F n s (none : Option (nk_H × α)) := fun _ _ e => by cases e
theorem nb_ret {r : α} (a : nk_N h ≤ n) (b : nk_S h ≤ s) : nb_F n s (some (h, r)) := fun g1 r1 e => by cases e; exact ⟨a, b⟩
theorem nb_zr {v : Int32} {r : α} (a : nk_N h ≤ n) (b : nk_S h ≤ s) : nb_F n s (nk_zr v (h, r)) := fun g1 r1 e => by
  unfold nk_zr at e
  split at e
  · cases e; exact ⟨a, b⟩
  · cases e
theorem nb_up {x : Option (nk_H × α)} (f : nb_F n' s' x) (a : n' ≤ n) (b : s' ≤ s) : nb_F n s x := fun g r e => ⟨Nat.le_trans (f g r e).1 a, Nat.le_trans (f g r e).2 b⟩
theorem nb_ite {c : Prop} [Decidable c] {a b : Option (nk_H × α)} (p : nb_F n s a) (q : nb_F n s b) : nb_F n s (if c then a else b) := by
  by_cases e : c
  · rw [if_pos e]; exact p
  · rw [if_neg e]; exact q
theorem nb_bind {γ : Type} {o : Option γ} {A : γ → Option (nk_H × α)} (k : ∀ x, nb_F n s (A x)) : nb_F n s (o.bind A) := by
  cases o with
  | none => exact nb_none
  | some x => exact k x
theorem nb_do {x : Option (nk_H × β)} {A : nk_H → β → Option (nk_H × α)} (f : nb_F n' s' x) (k : ∀ g r, nk_N g ≤ n' → nk_S g ≤ s' → nb_F n s (A g r)) : nb_F n s (nk_do x A) := by
  cases e : x with
  | none => exact nb_none
  | some z => exact k z.1 z.2 (f z.1 z.2 e).1 (f z.1 z.2 e).2
theorem nb_dt {γ : Type} {x : Option (nk_H × (β ⊕ String))} {A : nk_H → β → Option (nk_H × (γ ⊕ String))} (a : n' ≤ n) (b : s' ≤ s) (f : nb_F n' s' x) (k : ∀ g r, nk_N g ≤ n' → nk_S g ≤ s' → nb_F n s (A g r)) : nb_F n s (nk_dt x A) := by
  cases e : x with
  | none => exact nb_none
  | some z =>
    obtain ⟨g, r⟩ := z
    obtain ⟨f1, f2⟩ := f g r e
    cases r with
    | inl v => exact k g v f1 f2
    | inr E => intro g1 r1 e1; cases e1; exact ⟨Nat.le_trans f1 a, Nat.le_trans f2 b⟩
theorem nb_pI {ks : List Nat} {k : Nat} {p : Option Nat} {v : Int32} {A : nk_H → Option (nk_H × α)} (kk : ∀ g, nk_N g = nk_N h → nk_S g = nk_S h → nb_F n s (A g)) : nb_F n s ((nk_pI ks k h p v).bind A) := by
  unfold nk_pI
  cases p with
  | none => exact nb_none
  | some a =>
    rw [Option.bind_some]
    split
    · exact kk _ rfl rfl
    · exact nb_none
theorem nb_pZ {ks : List Nat} {k : Nat} {p : Option Nat} {v : Int32} {A : nk_H → Option (nk_H × α)} (kk : ∀ g, nk_N g = nk_N h → nk_S g = nk_S h → nb_F n s (A g)) : nb_F n s ((nk_pZ ks k h p v).bind A) := by
  unfold nk_pZ
  cases p with
  | none => exact nb_none
  | some a =>
    rw [Option.bind_some]
    split
    · exact kk _ rfl rfl
    · exact nb_none
theorem nb_wZ {p : Option Nat} {i v : Int32} {A : nk_H → Option (nk_H × α)} (kk : ∀ g, nk_N g = nk_N h → nk_S g = nk_S h → nb_F n s (A g)) : nb_F n s ((nk_wZ h p i v).bind A) := by
  unfold nk_wZ
  cases p with
  | none => exact nb_none
  | some a =>
    rw [Option.bind_some]
    split
    · exact kk _ rfl rfl
    · exact nb_none
theorem nb_al {c k w : Nat} {A : nk_H → Option (nk_H × α)} (kk : ∀ g, nk_N g = nk_N h + 1 → nk_S g = nk_S h + w → nb_F n s (A g)) : nb_F n s ((some (nk_al h c k w)).bind A) := kk _ rfl rfl
end NB
theorem b_Jx4a65c_size_8abf5   (h : nk_H) (t0 : Nat) : nb_F (nk_N h + 0) (nk_S h + 0) (f_Jx4a65c_size_8abf5 h t0) := by
  unfold f_Jx4a65c_size_8abf5
  refine nb_bind (fun x1 => ?_)
  exact nb_ret (by omega) (by omega)
theorem b_Jx4a65c_elementData_915e3   (h : nk_H) (t0 : Nat) (v1 : Int32) : nb_F (nk_N h + 0) (nk_S h + 0) (f_Jx4a65c_elementData_915e3 h t0 v1) := by
  unfold f_Jx4a65c_elementData_915e3
  refine nb_bind (fun x1 => ?_)
  refine nb_bind (fun x2 => ?_)
  exact nb_ret (by omega) (by omega)
theorem b_J3_checkIndex_8e157_c9   (h : nk_H) (v0 : Int32) (v1 : Int32) (v2 : Option Nat) : nb_F (nk_N h + 0) (nk_S h + 0) (f_J3_checkIndex_8e157_c9 h v0 v1 v2) := by
  unfold f_J3_checkIndex_8e157_c9
  exact nb_none
theorem b_J3_checkIndex_8e157   (h : nk_H) (v0 : Int32) (v1 : Int32) (v2 : Option Nat) : nb_F (nk_N h + 0) (nk_S h + 0) (f_J3_checkIndex_8e157 h v0 v1 v2) := by
  unfold f_J3_checkIndex_8e157
  refine nb_ite ?_ ?_
  · exact nb_up (b_J3_checkIndex_8e157_c9  _ _ _ _) (by omega) (by omega)
  · refine nb_ite ?_ ?_
    · exact nb_ret (by omega) (by omega)
    · exact nb_up (b_J3_checkIndex_8e157_c9  _ _ _ _) (by omega) (by omega)
theorem b_J15_checkIndex_7cf53   (h : nk_H) (v0 : Int32) (v1 : Int32) : nb_F (nk_N h + 0) (nk_S h + 0) (f_J15_checkIndex_7cf53 h v0 v1) := by
  unfold f_J15_checkIndex_7cf53
  refine nb_do (b_J3_checkIndex_8e157  _ _ _ _) (fun h1 x2 Lh1 Mh1 => ?_)
  exact nb_ret (by omega) (by omega)
theorem b_Jx4a65c_get_915e3   (h : nk_H) (t0 : Nat) (v1 : Int32) : nb_F (nk_N h + 0) (nk_S h + 0) (f_Jx4a65c_get_915e3 h t0 v1) := by
  unfold f_Jx4a65c_get_915e3
  refine nb_bind (fun x1 => ?_)
  refine nb_do (b_J15_checkIndex_7cf53  _ _ _) (fun h2 x3 Lh2 Mh2 => ?_)
  refine nb_bind (fun a4 => ?_)
  refine nb_do (b_Jx4a65c_elementData_915e3  _ _ _) (fun h5 x6 Lh5 Mh5 => ?_)
  exact nb_ret (by omega) (by omega)
theorem b_X9_hasInLine_c2 {r2 : nk_H → Option Nat → Option Nat → Option (nk_H × Int32)} (hr2 : ∀ (a0 : nk_H) (a1 : Option Nat) (a2 : Option Nat), nb_F (nk_N a0 + 0) (nk_S a0 + 0) (r2 a0 a1 a2)) (h : nk_H) (v1 : Option Nat) (v2 : Option Nat) : nb_F (nk_N h + 0) (nk_S h + 0) (f_X9_hasInLine_c2 r2 h v1 v2) := by
  unfold f_X9_hasInLine_c2
  refine nb_ite ?_ ?_
  · exact nb_zr (by omega) (by omega)
  · refine nb_ite ?_ ?_
    · exact nb_zr (by omega) (by omega)
    · refine nb_bind (fun x1 => ?_)
      exact nb_up (hr2 _ _ _) (by omega) (by omega)
theorem b_X9_hasInLine_b2   : ∀ (n : Nat) (a0 : nk_H) (a1 : Option Nat) (a2 : Option Nat), nb_F (nk_N a0 + 0) (nk_S a0 + 0) (f_X9_hasInLine_b2 n a0 a1 a2)
  | 0, _, _, _ => nb_none
  | n + 1, a0, a1, a2 => b_X9_hasInLine_c2 (b_X9_hasInLine_b2 n) a0 a1 a2
theorem b_X9_hasInLine   (h : nk_H) (t0 : Nat) (v1 : Option Nat) : nb_F (nk_N h + 0) (nk_S h + 0) (f_X9_hasInLine h t0 v1) := by
  unfold f_X9_hasInLine
  exact nb_up (b_X9_hasInLine_b2  _ _ _ _) (by omega) (by omega)
theorem b_X0_amountBy_c22   (h : nk_H) (s0 : Int32) : nb_F (nk_N h + 0) (nk_S h + 0) (f_X0_amountBy_c22 h s0) := by
  unfold f_X0_amountBy_c22
  exact nb_ret (by omega) (by omega)
theorem b_X0_amountBy   (h : nk_H) (t0 : Nat) (v1 : Option Nat) : nb_F (nk_N h + 0) (nk_S h + 0) (f_X0_amountBy h t0 v1) := by
  unfold f_X0_amountBy
  refine nb_bind (fun x1 => ?_)
  refine nb_bind (fun a2 => ?_)
  refine nb_do (b_X9_hasInLine  _ _ _) (fun h3 x4 Lh3 Mh3 => ?_)
  refine nb_ite ?_ ?_
  · exact nb_up (b_X0_amountBy_c22  _ _) (by omega) (by omega)
  · refine nb_bind (fun x5 => ?_)
    refine nb_bind (fun x6 => ?_)
    exact nb_up (b_X0_amountBy_c22  _ _) (by omega) (by omega)
theorem b_X1_count   (h : nk_H) (t0 : Nat) : nb_F (nk_N h + 0) (nk_S h + 0) (f_X1_count h t0) := by
  unfold f_X1_count
  refine nb_bind (fun x1 => ?_)
  refine nb_bind (fun a2 => ?_)
  refine nb_do (b_Jx4a65c_size_8abf5  _ _) (fun h3 x4 Lh3 Mh3 => ?_)
  exact nb_ret (by omega) (by omega)
theorem b_X1_actOf   (h : nk_H) (t0 : Nat) (v1 : Int32) : nb_F (nk_N h + 0) (nk_S h + 0) (f_X1_actOf h t0 v1) := by
  unfold f_X1_actOf
  refine nb_bind (fun x1 => ?_)
  refine nb_bind (fun a2 => ?_)
  refine nb_do (b_Jx4a65c_get_915e3  _ _ _) (fun h3 x4 Lh3 Mh3 => ?_)
  refine nb_bind (fun _ => ?_)
  exact nb_ret (by omega) (by omega)
theorem b_X1_sealAhead_c31   (h : nk_H) (s0 : Int32) : nb_F (nk_N h + 0) (nk_S h + 0) (f_X1_sealAhead_c31 h s0) := by
  unfold f_X1_sealAhead_c31
  exact nb_ret (by omega) (by omega)
theorem b_X1_sealAhead   (h : nk_H) (t0 : Nat) (v1 : Int32) : nb_F (nk_N h + 0) (nk_S h + 0) (f_X1_sealAhead h t0 v1) := by
  unfold f_X1_sealAhead
  refine nb_ite ?_ ?_
  · refine nb_bind (fun x1 => ?_)
    exact nb_up (b_X1_sealAhead_c31  _ _) (by omega) (by omega)
  · refine nb_bind (fun x2 => ?_)
    refine nb_bind (fun a3 => ?_)
    refine nb_do (b_Jx4a65c_get_915e3  _ _ _) (fun h4 x5 Lh4 Mh4 => ?_)
    refine nb_bind (fun _ => ?_)
    refine nb_bind (fun x7 => ?_)
    exact nb_up (b_X1_sealAhead_c31  _ _) (by omega) (by omega)
theorem b_X11_bit   (h : nk_H) (v0 : Int32) : nb_F (nk_N h + 0) (nk_S h + 0) (f_X11_bit h v0) := by
  unfold f_X11_bit
  exact nb_ret (by omega) (by omega)
theorem b_X11_hasBit_c14   (h : nk_H) (s0 : Int32) : nb_F (nk_N h + 0) (nk_S h + 0) (f_X11_hasBit_c14 h s0) := by
  unfold f_X11_hasBit_c14
  exact nb_zr (by omega) (by omega)
theorem b_X11_hasBit   (h : nk_H) (v0 : Int32) (v1 : Int32) : nb_F (nk_N h + 0) (nk_S h + 0) (f_X11_hasBit h v0 v1) := by
  unfold f_X11_hasBit
  refine nb_do (b_X11_bit  _ _) (fun h1 x2 Lh1 Mh1 => ?_)
  refine nb_ite ?_ ?_
  · exact nb_up (b_X11_hasBit_c14  _ _) (by omega) (by omega)
  · exact nb_up (b_X11_hasBit_c14  _ _) (by omega) (by omega)
theorem b_X11_saltOf   (h : nk_H) (v0 : Int32) (v1 : Int32) (v2 : Int32) : nb_F (nk_N h + 0) (nk_S h + 0) (f_X11_saltOf h v0 v1 v2) := by
  unfold f_X11_saltOf
  exact nb_ret (by omega) (by omega)
theorem b_X11_sealOf   (h : nk_H) (v0 : Int32) (v1 : Int32) : nb_F (nk_N h + 0) (nk_S h + 0) (f_X11_sealOf h v0 v1) := by
  unfold f_X11_sealOf
  exact nb_ret (by omega) (by omega)
theorem b_X11_markOf   (h : nk_H) (v0 : Int32) (v1 : Int32) (v2 : Int32) (v3 : Int32) : nb_F (nk_N h + 0) (nk_S h + 0) (f_X11_markOf h v0 v1 v2 v3) := by
  unfold f_X11_markOf
  refine nb_do (b_X11_saltOf  _ _ _ _) (fun h1 x2 Lh1 Mh1 => ?_)
  refine nb_do (b_X11_sealOf  _ _ _) (fun h3 x4 Lh3 Mh3 => ?_)
  exact nb_ret (by omega) (by omega)
theorem b_X11_sealFrom_c48 {r6 : nk_H → Int32 → Int32 → Int32 → Option Nat → Int32 → Int32 → Int32 → Option (nk_H × Int32)} (hr6 : ∀ (a0 : nk_H) (a1 : Int32) (a2 : Int32) (a3 : Int32) (a4 : Option Nat) (a5 : Int32) (a6 : Int32) (a7 : Int32), nb_F (nk_N a0 + 0) (nk_S a0 + 0) (r6 a0 a1 a2 a3 a4 a5 a6 a7)) (h : nk_H) (v0 : Int32) (v1 : Int32) (v2 : Int32) (v3 : Option Nat) (v4 : Int32) (v5 : Int32) (v6 : Int32) (s0 : Int32) : nb_F (nk_N h + 0) (nk_S h + 0) (f_X11_sealFrom_c48 r6 h v0 v1 v2 v3 v4 v5 v6 s0) := by
  unfold f_X11_sealFrom_c48
  refine nb_do (b_X11_sealOf  _ _ _) (fun h1 x2 Lh1 Mh1 => ?_)
  exact nb_up (hr6 _ _ _ _ _ _ _ _) (by omega) (by omega)
theorem b_X11_sealFrom_c65   (h : nk_H) (v0 : Int32) (v5 : Int32) : nb_F (nk_N h + 0) (nk_S h + 0) (f_X11_sealFrom_c65 h v0 v5) := by
  unfold f_X11_sealFrom_c65
  refine nb_do (b_X11_sealOf  _ _ _) (fun h3 x4 Lh3 Mh3 => ?_)
  exact nb_ret (by omega) (by omega)
theorem b_X11_sealFrom_c6 {r6 : nk_H → Int32 → Int32 → Int32 → Option Nat → Int32 → Int32 → Int32 → Option (nk_H × Int32)} (hr6 : ∀ (a0 : nk_H) (a1 : Int32) (a2 : Int32) (a3 : Int32) (a4 : Option Nat) (a5 : Int32) (a6 : Int32) (a7 : Int32), nb_F (nk_N a0 + 0) (nk_S a0 + 0) (r6 a0 a1 a2 a3 a4 a5 a6 a7)) (h : nk_H) (v0 : Int32) (v1 : Int32) (v2 : Int32) (v3 : Option Nat) (v4 : Int32) (v5 : Int32) (v6 : Int32) : nb_F (nk_N h + 0) (nk_S h + 0) (f_X11_sealFrom_c6 r6 h v0 v1 v2 v3 v4 v5 v6) := by
  unfold f_X11_sealFrom_c6
  refine nb_ite ?_ ?_
  · exact nb_up (b_X11_sealFrom_c65  _ _ _) (by omega) (by omega)
  · refine nb_bind (fun x5 => ?_)
    refine nb_ite ?_ ?_
    · exact nb_up (b_X11_sealFrom_c65  _ _ _) (by omega) (by omega)
    · refine nb_do (b_X11_hasBit  _ _ _) (fun h6 x7 Lh6 Mh6 => ?_)
      refine nb_ite ?_ ?_
      · refine nb_bind (fun x8 => ?_)
        refine nb_do (b_X11_markOf  _ _ _ _ _) (fun h9 x10 Lh9 Mh9 => ?_)
        exact nb_up (b_X11_sealFrom_c48 hr6 _ _ _ _ _ _ _ _ _) (by omega) (by omega)
      · refine nb_bind (fun x11 => ?_)
        exact nb_up (b_X11_sealFrom_c48 hr6 _ _ _ _ _ _ _ _ _) (by omega) (by omega)
theorem b_X11_sealFrom_b6   : ∀ (n : Nat) (a0 : nk_H) (a1 : Int32) (a2 : Int32) (a3 : Int32) (a4 : Option Nat) (a5 : Int32) (a6 : Int32) (a7 : Int32), nb_F (nk_N a0 + 0) (nk_S a0 + 0) (f_X11_sealFrom_b6 n a0 a1 a2 a3 a4 a5 a6 a7)
  | 0, _, _, _, _, _, _, _, _ => nb_none
  | n + 1, a0, a1, a2, a3, a4, a5, a6, a7 => b_X11_sealFrom_c6 (b_X11_sealFrom_b6 n) a0 a1 a2 a3 a4 a5 a6 a7
theorem b_X11_sealFrom   (h : nk_H) (v0 : Int32) (v1 : Int32) (v2 : Int32) (v3 : Option Nat) (v4 : Int32) : nb_F (nk_N h + 0) (nk_S h + 0) (f_X11_sealFrom h v0 v1 v2 v3 v4) := by
  unfold f_X11_sealFrom
  exact nb_up (b_X11_sealFrom_b6  _ _ _ _ _ _ _ _ _) (by omega) (by omega)
theorem b_X1_sealNow   (h : nk_H) (t0 : Nat) (v1 : Int32) (v2 : Option Nat) : nb_F (nk_N h + 0) (nk_S h + 0) (f_X1_sealNow h t0 v1 v2) := by
  unfold f_X1_sealNow
  refine nb_bind (fun a1 => ?_)
  refine nb_do (b_X1_sealAhead  _ _ _) (fun h2 x3 Lh2 Mh2 => ?_)
  refine nb_bind (fun x4 => ?_)
  refine nb_bind (fun x5 => ?_)
  refine nb_do (b_X11_sealFrom  _ _ _ _ _ _) (fun h6 x7 Lh6 Mh6 => ?_)
  exact nb_ret (by omega) (by omega)
theorem b_X1_firstBroken_c2 {r2 : nk_H → Nat → Int32 → Option (nk_H × Int32)} (hr2 : ∀ (a0 : nk_H) (a1 : Nat) (a2 : Int32), nb_F (nk_N a0 + 0) (nk_S a0 + 0) (r2 a0 a1 a2)) (h : nk_H) (t0 : Nat) (v1 : Int32) : nb_F (nk_N h + 0) (nk_S h + 0) (f_X1_firstBroken_c2 r2 h t0 v1) := by
  unfold f_X1_firstBroken_c2
  refine nb_bind (fun x1 => ?_)
  refine nb_bind (fun a2 => ?_)
  refine nb_do (b_Jx4a65c_size_8abf5  _ _) (fun h3 x4 Lh3 Mh3 => ?_)
  refine nb_ite ?_ ?_
  · exact nb_ret (by omega) (by omega)
  · refine nb_bind (fun x5 => ?_)
    refine nb_bind (fun a6 => ?_)
    refine nb_do (b_Jx4a65c_get_915e3  _ _ _) (fun h7 x8 Lh7 Mh7 => ?_)
    refine nb_bind (fun _ => ?_)
    refine nb_bind (fun a10 => ?_)
    refine nb_do (b_X1_sealNow  _ _ _ _) (fun h11 x12 Lh11 Mh11 => ?_)
    refine nb_bind (fun x13 => ?_)
    refine nb_ite ?_ ?_
    · exact nb_up (hr2 _ _ _) (by omega) (by omega)
    · exact nb_ret (by omega) (by omega)
theorem b_X1_firstBroken_b2   : ∀ (n : Nat) (a0 : nk_H) (a1 : Nat) (a2 : Int32), nb_F (nk_N a0 + 0) (nk_S a0 + 0) (f_X1_firstBroken_b2 n a0 a1 a2)
  | 0, _, _, _ => nb_none
  | n + 1, a0, a1, a2 => b_X1_firstBroken_c2 (b_X1_firstBroken_b2 n) a0 a1 a2
theorem b_X1_firstBroken   (h : nk_H) (t0 : Nat) : nb_F (nk_N h + 0) (nk_S h + 0) (f_X1_firstBroken h t0) := by
  unfold f_X1_firstBroken
  exact nb_up (b_X1_firstBroken_b2  _ _ _ _) (by omega) (by omega)
theorem b_X1_countStanding_c35 {r4 : nk_H → Nat → Int32 → Int32 → Option (nk_H × Int32)} (hr4 : ∀ (a0 : nk_H) (a1 : Nat) (a2 : Int32) (a3 : Int32), nb_F (nk_N a0 + 0) (nk_S a0 + 0) (r4 a0 a1 a2 a3)) (h : nk_H) (t0 : Nat) (v1 : Int32) (v2 : Int32) : nb_F (nk_N h + 0) (nk_S h + 0) (f_X1_countStanding_c35 r4 h t0 v1 v2) := by
  unfold f_X1_countStanding_c35
  exact nb_up (hr4 _ _ _ _) (by omega) (by omega)
theorem b_X1_countStanding_c4 {r4 : nk_H → Nat → Int32 → Int32 → Option (nk_H × Int32)} (hr4 : ∀ (a0 : nk_H) (a1 : Nat) (a2 : Int32) (a3 : Int32), nb_F (nk_N a0 + 0) (nk_S a0 + 0) (r4 a0 a1 a2 a3)) (h : nk_H) (t0 : Nat) (v1 : Int32) (v2 : Int32) : nb_F (nk_N h + 0) (nk_S h + 0) (f_X1_countStanding_c4 r4 h t0 v1 v2) := by
  unfold f_X1_countStanding_c4
  refine nb_bind (fun x1 => ?_)
  refine nb_bind (fun a2 => ?_)
  refine nb_do (b_Jx4a65c_size_8abf5  _ _) (fun h3 x4 Lh3 Mh3 => ?_)
  refine nb_ite ?_ ?_
  · exact nb_ret (by omega) (by omega)
  · refine nb_bind (fun x5 => ?_)
    refine nb_bind (fun a6 => ?_)
    refine nb_do (b_Jx4a65c_get_915e3  _ _ _) (fun h7 x8 Lh7 Mh7 => ?_)
    refine nb_bind (fun _ => ?_)
    refine nb_bind (fun x10 => ?_)
    refine nb_ite ?_ ?_
    · exact nb_up (b_X1_countStanding_c35 hr4 _ _ _ _) (by omega) (by omega)
    · exact nb_up (b_X1_countStanding_c35 hr4 _ _ _ _) (by omega) (by omega)
theorem b_X1_countStanding_b4   : ∀ (n : Nat) (a0 : nk_H) (a1 : Nat) (a2 : Int32) (a3 : Int32), nb_F (nk_N a0 + 0) (nk_S a0 + 0) (f_X1_countStanding_b4 n a0 a1 a2 a3)
  | 0, _, _, _, _ => nb_none
  | n + 1, a0, a1, a2, a3 => b_X1_countStanding_c4 (b_X1_countStanding_b4 n) a0 a1 a2 a3
theorem b_X1_countStanding   (h : nk_H) (t0 : Nat) : nb_F (nk_N h + 0) (nk_S h + 0) (f_X1_countStanding h t0) := by
  unfold f_X1_countStanding
  exact nb_up (b_X1_countStanding_b4  _ _ _ _ _) (by omega) (by omega)
theorem b_X2_leavesOut   (h : nk_H) (t0 : Nat) (v1 : Int32) : nb_F (nk_N h + 0) (nk_S h + 0) (f_X2_leavesOut h t0 v1) := by
  unfold f_X2_leavesOut
  refine nb_bind (fun x1 => ?_)
  refine nb_do (b_X11_hasBit  _ _ _) (fun h2 x3 Lh2 Mh2 => ?_)
  exact nb_zr (by omega) (by omega)
theorem b_X2_firstBroken_c7 {r7 : nk_H → Nat → Int32 → Int32 → Option (nk_H × Int32)} (hr7 : ∀ (a0 : nk_H) (a1 : Nat) (a2 : Int32) (a3 : Int32), nb_F (nk_N a0 + 0) (nk_S a0 + 0) (r7 a0 a1 a2 a3)) (h : nk_H) (t0 : Nat) (v1 : Int32) (v2 : Int32) : nb_F (nk_N h + 0) (nk_S h + 0) (f_X2_firstBroken_c7 r7 h t0 v1 v2) := by
  unfold f_X2_firstBroken_c7
  refine nb_bind (fun x1 => ?_)
  refine nb_ite ?_ ?_
  · exact nb_ret (by omega) (by omega)
  · refine nb_bind (fun x2 => ?_)
    refine nb_bind (fun x3 => ?_)
    refine nb_bind (fun x4 => ?_)
    refine nb_bind (fun x5 => ?_)
    refine nb_bind (fun x6 => ?_)
    refine nb_do (b_X11_sealFrom  _ _ _ _ _ _) (fun h7 x8 Lh7 Mh7 => ?_)
    refine nb_bind (fun x9 => ?_)
    refine nb_bind (fun x10 => ?_)
    refine nb_ite ?_ ?_
    · refine nb_bind (fun x11 => ?_)
      refine nb_bind (fun x12 => ?_)
      exact nb_up (hr7 _ _ _ _) (by omega) (by omega)
    · exact nb_ret (by omega) (by omega)
theorem b_X2_firstBroken_b7   : ∀ (n : Nat) (a0 : nk_H) (a1 : Nat) (a2 : Int32) (a3 : Int32), nb_F (nk_N a0 + 0) (nk_S a0 + 0) (f_X2_firstBroken_b7 n a0 a1 a2 a3)
  | 0, _, _, _, _ => nb_none
  | n + 1, a0, a1, a2, a3 => b_X2_firstBroken_c7 (b_X2_firstBroken_b7 n) a0 a1 a2 a3
theorem b_X2_firstBroken   (h : nk_H) (t0 : Nat) : nb_F (nk_N h + 0) (nk_S h + 0) (f_X2_firstBroken h t0) := by
  unfold f_X2_firstBroken
  refine nb_bind (fun x13 => ?_)
  exact nb_up (b_X2_firstBroken_b7  _ _ _ _ _) (by omega) (by omega)
theorem b_X2_tellsRecordAs_c50 {r17 : nk_H → Nat → Int32 → Option Nat → Int32 → Option (nk_H × Int32)} (hr17 : ∀ (a0 : nk_H) (a1 : Nat) (a2 : Int32) (a3 : Option Nat) (a4 : Int32), nb_F (nk_N a0 + 0) (nk_S a0 + 0) (r17 a0 a1 a2 a3 a4)) (h : nk_H) (t0 : Nat) (v1 : Int32) (v2 : Option Nat) (v3 : Int32) : nb_F (nk_N h + 0) (nk_S h + 0) (f_X2_tellsRecordAs_c50 r17 h t0 v1 v2 v3) := by
  unfold f_X2_tellsRecordAs_c50
  exact nb_up (hr17 _ _ _ _ _) (by omega) (by omega)
theorem b_X2_tellsRecordAs_c17 {r17 : nk_H → Nat → Int32 → Option Nat → Int32 → Option (nk_H × Int32)} (hr17 : ∀ (a0 : nk_H) (a1 : Nat) (a2 : Int32) (a3 : Option Nat) (a4 : Int32), nb_F (nk_N a0 + 0) (nk_S a0 + 0) (r17 a0 a1 a2 a3 a4)) (h : nk_H) (t0 : Nat) (v1 : Int32) (v2 : Option Nat) (v3 : Int32) : nb_F (nk_N h + 0) (nk_S h + 0) (f_X2_tellsRecordAs_c17 r17 h t0 v1 v2 v3) := by
  unfold f_X2_tellsRecordAs_c17
  refine nb_ite ?_ ?_
  · exact nb_zr (by omega) (by omega)
  · refine nb_bind (fun a1 => ?_)
    refine nb_do (b_X2_leavesOut  _ _ _) (fun h2 x3 Lh2 Mh2 => ?_)
    refine nb_ite ?_ ?_
    · refine nb_bind (fun x4 => ?_)
      refine nb_bind (fun x5 => ?_)
      refine nb_bind (fun x6 => ?_)
      refine nb_bind (fun x7 => ?_)
      refine nb_bind (fun x8 => ?_)
      refine nb_ite ?_ ?_
      · exact nb_up (b_X2_tellsRecordAs_c50 hr17 _ _ _ _ _) (by omega) (by omega)
      · exact nb_zr (by omega) (by omega)
    · exact nb_up (b_X2_tellsRecordAs_c50 hr17 _ _ _ _ _) (by omega) (by omega)
theorem b_X2_tellsRecordAs_b17   : ∀ (n : Nat) (a0 : nk_H) (a1 : Nat) (a2 : Int32) (a3 : Option Nat) (a4 : Int32), nb_F (nk_N a0 + 0) (nk_S a0 + 0) (f_X2_tellsRecordAs_b17 n a0 a1 a2 a3 a4)
  | 0, _, _, _, _, _ => nb_none
  | n + 1, a0, a1, a2, a3, a4 => b_X2_tellsRecordAs_c17 (b_X2_tellsRecordAs_b17 n) a0 a1 a2 a3 a4
theorem b_X2_tellsRecordAs   (h : nk_H) (t0 : Nat) (v1 : Int32) (v2 : Option Nat) : nb_F (nk_N h + 0) (nk_S h + 0) (f_X2_tellsRecordAs h t0 v1 v2) := by
  unfold f_X2_tellsRecordAs
  refine nb_bind (fun x9 => ?_)
  refine nb_bind (fun x10 => ?_)
  refine nb_bind (fun x11 => ?_)
  refine nb_ite ?_ ?_
  · exact nb_up (b_X2_tellsRecordAs_b17  _ _ _ _ _ _) (by omega) (by omega)
  · exact nb_zr (by omega) (by omega)
theorem b_X2_tellsAs_c2 {r2 : nk_H → Nat → Option Nat → Int32 → Option (nk_H × Int32)} (hr2 : ∀ (a0 : nk_H) (a1 : Nat) (a2 : Option Nat) (a3 : Int32), nb_F (nk_N a0 + 0) (nk_S a0 + 0) (r2 a0 a1 a2 a3)) (h : nk_H) (t0 : Nat) (v1 : Option Nat) (v2 : Int32) : nb_F (nk_N h + 0) (nk_S h + 0) (f_X2_tellsAs_c2 r2 h t0 v1 v2) := by
  unfold f_X2_tellsAs_c2
  refine nb_bind (fun x1 => ?_)
  refine nb_ite ?_ ?_
  · exact nb_zr (by omega) (by omega)
  · refine nb_bind (fun x2 => ?_)
    refine nb_bind (fun a3 => ?_)
    refine nb_do (b_X1_actOf  _ _ _) (fun h4 x5 Lh4 Mh4 => ?_)
    refine nb_bind (fun a6 => ?_)
    refine nb_do (b_X2_tellsRecordAs  _ _ _ _) (fun h7 x8 Lh7 Mh7 => ?_)
    refine nb_ite ?_ ?_
    · exact nb_zr (by omega) (by omega)
    · exact nb_up (hr2 _ _ _ _) (by omega) (by omega)
theorem b_X2_tellsAs_b2   : ∀ (n : Nat) (a0 : nk_H) (a1 : Nat) (a2 : Option Nat) (a3 : Int32), nb_F (nk_N a0 + 0) (nk_S a0 + 0) (f_X2_tellsAs_b2 n a0 a1 a2 a3)
  | 0, _, _, _, _ => nb_none
  | n + 1, a0, a1, a2, a3 => b_X2_tellsAs_c2 (b_X2_tellsAs_b2 n) a0 a1 a2 a3
theorem b_X2_tellsAs   (h : nk_H) (t0 : Nat) (v1 : Option Nat) : nb_F (nk_N h + 0) (nk_S h + 0) (f_X2_tellsAs h t0 v1) := by
  unfold f_X2_tellsAs
  exact nb_up (b_X2_tellsAs_b2  _ _ _ _ _) (by omega) (by omega)
theorem b_X3_init   (h : nk_H) (t0 : Nat) (v1 : Int32) (v2 : Int32) (v3 : Int32) (v4 : Int32) (v5 : Int32) (v6 : Int32) : nb_F (nk_N h + 0) (nk_S h + 0) (f_X3_init h t0 v1 v2 v3 v4 v5 v6) := by
  unfold f_X3_init
  refine nb_pI (fun h1 Lh1 Mh1 => ?_)
  refine nb_pI (fun h2 Lh2 Mh2 => ?_)
  refine nb_pI (fun h3 Lh3 Mh3 => ?_)
  refine nb_pI (fun h4 Lh4 Mh4 => ?_)
  refine nb_pI (fun h5 Lh5 Mh5 => ?_)
  refine nb_pI (fun h6 Lh6 Mh6 => ?_)
  exact nb_ret (by omega) (by omega)
theorem b_X4_isDeputation_c29   (h : nk_H) (s0 : Int32) : nb_F (nk_N h + 0) (nk_S h + 0) (f_X4_isDeputation_c29 h s0) := by
  unfold f_X4_isDeputation_c29
  exact nb_zr (by omega) (by omega)
theorem b_X4_isDeputation_c28   (h : nk_H) : nb_F (nk_N h + 0) (nk_S h + 0) (f_X4_isDeputation_c28 h) := by
  unfold f_X4_isDeputation_c28
  exact nb_up (b_X4_isDeputation_c29  _ _) (by omega) (by omega)
theorem b_X4_isDeputation   (h : nk_H) (t0 : Nat) (v1 : Int32) (v2 : Int32) (v3 : Int32) : nb_F (nk_N h + 0) (nk_S h + 0) (f_X4_isDeputation h t0 v1 v2 v3) := by
  unfold f_X4_isDeputation
  refine nb_bind (fun x1 => ?_)
  refine nb_ite ?_ ?_
  · refine nb_bind (fun x2 => ?_)
    refine nb_ite ?_ ?_
    · exact nb_up (b_X4_isDeputation_c28  _) (by omega) (by omega)
    · refine nb_bind (fun x3 => ?_)
      refine nb_ite ?_ ?_
      · exact nb_up (b_X4_isDeputation_c28  _) (by omega) (by omega)
      · exact nb_up (b_X4_isDeputation_c29  _ _) (by omega) (by omega)
  · exact nb_up (b_X4_isDeputation_c28  _) (by omega) (by omega)
theorem b_X6_areLinked   (h : nk_H) (t0 : Nat) (v1 : Int32) (v2 : Int32) : nb_F (nk_N h + 0) (nk_S h + 0) (f_X6_areLinked h t0 v1 v2) := by
  unfold f_X6_areLinked
  refine nb_bind (fun x1 => ?_)
  refine nb_bind (fun x2 => ?_)
  refine nb_do (b_X11_hasBit  _ _ _) (fun h3 x4 Lh3 Mh3 => ?_)
  exact nb_zr (by omega) (by omega)
theorem b_X6_reach_c36 {r5 : nk_H → Nat → Int32 → Int32 → Int32 → Int32 → Option (nk_H × Int32)} (hr5 : ∀ (a0 : nk_H) (a1 : Nat) (a2 : Int32) (a3 : Int32) (a4 : Int32) (a5 : Int32), nb_F (nk_N a0 + 0) (nk_S a0 + 0) (r5 a0 a1 a2 a3 a4 a5)) (h : nk_H) (t0 : Nat) (v1 : Int32) (v2 : Int32) (v3 : Int32) (v4 : Int32) : nb_F (nk_N h + 0) (nk_S h + 0) (f_X6_reach_c36 r5 h t0 v1 v2 v3 v4) := by
  unfold f_X6_reach_c36
  exact nb_up (hr5 _ _ _ _ _ _) (by omega) (by omega)
theorem b_X6_reach_c5 {r5 : nk_H → Nat → Int32 → Int32 → Int32 → Int32 → Option (nk_H × Int32)} (hr5 : ∀ (a0 : nk_H) (a1 : Nat) (a2 : Int32) (a3 : Int32) (a4 : Int32) (a5 : Int32), nb_F (nk_N a0 + 0) (nk_S a0 + 0) (r5 a0 a1 a2 a3 a4 a5)) (h : nk_H) (t0 : Nat) (v1 : Int32) (v2 : Int32) (v3 : Int32) (v4 : Int32) : nb_F (nk_N h + 0) (nk_S h + 0) (f_X6_reach_c5 r5 h t0 v1 v2 v3 v4) := by
  unfold f_X6_reach_c5
  refine nb_ite ?_ ?_
  · exact nb_ret (by omega) (by omega)
  · refine nb_do (b_X11_hasBit  _ _ _) (fun h1 x2 Lh1 Mh1 => ?_)
    refine nb_ite ?_ ?_
    · exact nb_up (b_X6_reach_c36 hr5 _ _ _ _ _ _) (by omega) (by omega)
    · refine nb_bind (fun x3 => ?_)
      refine nb_bind (fun x4 => ?_)
      exact nb_up (b_X6_reach_c36 hr5 _ _ _ _ _ _) (by omega) (by omega)
theorem b_X6_reach_b5   : ∀ (n : Nat) (a0 : nk_H) (a1 : Nat) (a2 : Int32) (a3 : Int32) (a4 : Int32) (a5 : Int32), nb_F (nk_N a0 + 0) (nk_S a0 + 0) (f_X6_reach_b5 n a0 a1 a2 a3 a4 a5)
  | 0, _, _, _, _, _, _ => nb_none
  | n + 1, a0, a1, a2, a3, a4, a5 => b_X6_reach_c5 (b_X6_reach_b5 n) a0 a1 a2 a3 a4 a5
theorem b_X6_reach   (h : nk_H) (t0 : Nat) (v1 : Int32) (v2 : Int32) : nb_F (nk_N h + 0) (nk_S h + 0) (f_X6_reach h t0 v1 v2) := by
  unfold f_X6_reach
  exact nb_up (b_X6_reach_b5  _ _ _ _ _ _ _) (by omega) (by omega)
theorem b_X7_count   (h : nk_H) (t0 : Nat) : nb_F (nk_N h + 0) (nk_S h + 0) (f_X7_count h t0) := by
  unfold f_X7_count
  refine nb_bind (fun x1 => ?_)
  refine nb_bind (fun a2 => ?_)
  refine nb_do (b_Jx4a65c_size_8abf5  _ _) (fun h3 x4 Lh3 Mh3 => ?_)
  exact nb_ret (by omega) (by omega)
theorem b_X7_pieceAt   (h : nk_H) (t0 : Nat) (v1 : Int32) : nb_F (nk_N h + 0) (nk_S h + 0) (f_X7_pieceAt h t0 v1) := by
  unfold f_X7_pieceAt
  refine nb_bind (fun x1 => ?_)
  refine nb_bind (fun a2 => ?_)
  refine nb_do (b_Jx4a65c_get_915e3  _ _ _) (fun h3 x4 Lh3 Mh3 => ?_)
  refine nb_bind (fun _ => ?_)
  exact nb_ret (by omega) (by omega)
theorem b_X8_isInMail   (h : nk_H) (t0 : Nat) (v1 : Int32) : nb_F (nk_N h + 0) (nk_S h + 0) (f_X8_isInMail h t0 v1) := by
  unfold f_X8_isInMail
  refine nb_bind (fun x1 => ?_)
  refine nb_bind (fun x2 => ?_)
  refine nb_do (b_X11_hasBit  _ _ _) (fun h3 x4 Lh3 Mh3 => ?_)
  exact nb_zr (by omega) (by omega)
theorem b_X7_unread_c36 {r4 : nk_H → Nat → Int32 → Int32 → Int32 → Option (nk_H × Int32)} (hr4 : ∀ (a0 : nk_H) (a1 : Nat) (a2 : Int32) (a3 : Int32) (a4 : Int32), nb_F (nk_N a0 + 0) (nk_S a0 + 0) (r4 a0 a1 a2 a3 a4)) (h : nk_H) (t0 : Nat) (v1 : Int32) (v2 : Int32) (v3 : Int32) : nb_F (nk_N h + 0) (nk_S h + 0) (f_X7_unread_c36 r4 h t0 v1 v2 v3) := by
  unfold f_X7_unread_c36
  exact nb_up (hr4 _ _ _ _ _) (by omega) (by omega)
theorem b_X7_unread_c4 {r4 : nk_H → Nat → Int32 → Int32 → Int32 → Option (nk_H × Int32)} (hr4 : ∀ (a0 : nk_H) (a1 : Nat) (a2 : Int32) (a3 : Int32) (a4 : Int32), nb_F (nk_N a0 + 0) (nk_S a0 + 0) (r4 a0 a1 a2 a3 a4)) (h : nk_H) (t0 : Nat) (v1 : Int32) (v2 : Int32) (v3 : Int32) : nb_F (nk_N h + 0) (nk_S h + 0) (f_X7_unread_c4 r4 h t0 v1 v2 v3) := by
  unfold f_X7_unread_c4
  refine nb_bind (fun x1 => ?_)
  refine nb_bind (fun a2 => ?_)
  refine nb_do (b_Jx4a65c_size_8abf5  _ _) (fun h3 x4 Lh3 Mh3 => ?_)
  refine nb_ite ?_ ?_
  · exact nb_ret (by omega) (by omega)
  · refine nb_bind (fun x5 => ?_)
    refine nb_bind (fun a6 => ?_)
    refine nb_do (b_Jx4a65c_get_915e3  _ _ _) (fun h7 x8 Lh7 Mh7 => ?_)
    refine nb_bind (fun _ => ?_)
    refine nb_bind (fun a10 => ?_)
    refine nb_do (b_X8_isInMail  _ _ _) (fun h11 x12 Lh11 Mh11 => ?_)
    refine nb_ite ?_ ?_
    · exact nb_up (b_X7_unread_c36 hr4 _ _ _ _ _) (by omega) (by omega)
    · exact nb_up (b_X7_unread_c36 hr4 _ _ _ _ _) (by omega) (by omega)
theorem b_X7_unread_b4   : ∀ (n : Nat) (a0 : nk_H) (a1 : Nat) (a2 : Int32) (a3 : Int32) (a4 : Int32), nb_F (nk_N a0 + 0) (nk_S a0 + 0) (f_X7_unread_b4 n a0 a1 a2 a3 a4)
  | 0, _, _, _, _, _ => nb_none
  | n + 1, a0, a1, a2, a3, a4 => b_X7_unread_c4 (b_X7_unread_b4 n) a0 a1 a2 a3 a4
theorem b_X7_unread   (h : nk_H) (t0 : Nat) (v1 : Int32) : nb_F (nk_N h + 0) (nk_S h + 0) (f_X7_unread h t0 v1) := by
  unfold f_X7_unread
  exact nb_up (b_X7_unread_b4  _ _ _ _ _ _) (by omega) (by omega)
theorem b_X7_lookAtRead_c52   (h : nk_H) : nb_F (nk_N h + 0) (nk_S h + 0) (f_X7_lookAtRead_c52 h) := by
  unfold f_X7_lookAtRead_c52
  exact nb_ret (by omega) (by omega)
theorem b_X7_lookAtRead_c2 {r2 : nk_H → Nat → Int32 → Int32 → Option (nk_H × Unit)} (hr2 : ∀ (a0 : nk_H) (a1 : Nat) (a2 : Int32) (a3 : Int32), nb_F (nk_N a0 + 0) (nk_S a0 + 0) (r2 a0 a1 a2 a3)) (h : nk_H) (t0 : Nat) (v1 : Int32) (v2 : Int32) : nb_F (nk_N h + 0) (nk_S h + 0) (f_X7_lookAtRead_c2 r2 h t0 v1 v2) := by
  unfold f_X7_lookAtRead_c2
  refine nb_bind (fun x1 => ?_)
  refine nb_bind (fun a2 => ?_)
  refine nb_do (b_Jx4a65c_size_8abf5  _ _) (fun h3 x4 Lh3 Mh3 => ?_)
  refine nb_ite ?_ ?_
  · exact nb_up (b_X7_lookAtRead_c52  _) (by omega) (by omega)
  · refine nb_bind (fun x5 => ?_)
    refine nb_bind (fun x6 => ?_)
    refine nb_ite ?_ ?_
    · exact nb_up (b_X7_lookAtRead_c52  _) (by omega) (by omega)
    · refine nb_bind (fun x7 => ?_)
      refine nb_bind (fun x8 => ?_)
      refine nb_bind (fun a9 => ?_)
      refine nb_do (b_Jx4a65c_get_915e3  _ _ _) (fun h10 x11 Lh10 Mh10 => ?_)
      refine nb_bind (fun _ => ?_)
      refine nb_bind (fun x13 => ?_)
      refine nb_do (b_X11_hasBit  _ _ _) (fun h14 x15 Lh14 Mh14 => ?_)
      refine nb_wZ (fun h16 Lh16 Mh16 => ?_)
      exact nb_up (hr2 _ _ _ _) (by omega) (by omega)
theorem b_X7_lookAtRead_b2   : ∀ (n : Nat) (a0 : nk_H) (a1 : Nat) (a2 : Int32) (a3 : Int32), nb_F (nk_N a0 + 0) (nk_S a0 + 0) (f_X7_lookAtRead_b2 n a0 a1 a2 a3)
  | 0, _, _, _, _ => nb_none
  | n + 1, a0, a1, a2, a3 => b_X7_lookAtRead_c2 (b_X7_lookAtRead_b2 n) a0 a1 a2 a3
theorem b_X7_lookAtRead   (h : nk_H) (t0 : Nat) (v1 : Int32) : nb_F (nk_N h + 0) (nk_S h + 0) (f_X7_lookAtRead h t0 v1) := by
  unfold f_X7_lookAtRead
  exact nb_up (b_X7_lookAtRead_b2  _ _ _ _ _) (by omega) (by omega)
theorem b_X8_couldBeReadFor_c27   (h : nk_H) (s0 : Int32) : nb_F (nk_N h + 0) (nk_S h + 0) (f_X8_couldBeReadFor_c27 h s0) := by
  unfold f_X8_couldBeReadFor_c27
  exact nb_zr (by omega) (by omega)
theorem b_X8_couldBeReadFor_c63   (h : nk_H) (s0 : Int32) : nb_F (nk_N h + 0) (nk_S h + 0) (f_X8_couldBeReadFor_c63 h s0) := by
  unfold f_X8_couldBeReadFor_c63
  exact nb_zr (by omega) (by omega)
theorem b_X8_couldBeReadFor_c62   (h : nk_H) : nb_F (nk_N h + 0) (nk_S h + 0) (f_X8_couldBeReadFor_c62 h) := by
  unfold f_X8_couldBeReadFor_c62
  exact nb_up (b_X8_couldBeReadFor_c63  _ _) (by omega) (by omega)
theorem b_X8_couldBeReadFor   (h : nk_H) (t0 : Nat) (v1 : Option Nat) : nb_F (nk_N h + 0) (nk_S h + 0) (f_X8_couldBeReadFor h t0 v1) := by
  unfold f_X8_couldBeReadFor
  refine nb_bind (fun x1 => ?_)
  refine nb_bind (fun x2 => ?_)
  refine nb_ite ?_ ?_
  · refine nb_bind (fun x3 => ?_)
    refine nb_bind (fun x4 => ?_)
    refine nb_ite ?_ ?_
    · exact nb_up (b_X8_couldBeReadFor_c27  _ _) (by omega) (by omega)
    · exact nb_up (b_X8_couldBeReadFor_c27  _ _) (by omega) (by omega)
  · refine nb_bind (fun x5 => ?_)
    refine nb_bind (fun x6 => ?_)
    refine nb_do (b_X11_hasBit  _ _ _) (fun h7 x8 Lh7 Mh7 => ?_)
    refine nb_ite ?_ ?_
    · exact nb_up (b_X8_couldBeReadFor_c62  _) (by omega) (by omega)
    · refine nb_bind (fun x9 => ?_)
      refine nb_bind (fun x10 => ?_)
      refine nb_bind (fun x11 => ?_)
      refine nb_bind (fun x12 => ?_)
      refine nb_ite ?_ ?_
      · exact nb_up (b_X8_couldBeReadFor_c62  _) (by omega) (by omega)
      · exact nb_up (b_X8_couldBeReadFor_c63  _ _) (by omega) (by omega)
theorem b_X7_lookAtReadable_c49   (h : nk_H) : nb_F (nk_N h + 0) (nk_S h + 0) (f_X7_lookAtReadable_c49 h) := by
  unfold f_X7_lookAtReadable_c49
  exact nb_ret (by omega) (by omega)
theorem b_X7_lookAtReadable_c2 {r2 : nk_H → Nat → Option Nat → Int32 → Option (nk_H × Unit)} (hr2 : ∀ (a0 : nk_H) (a1 : Nat) (a2 : Option Nat) (a3 : Int32), nb_F (nk_N a0 + 0) (nk_S a0 + 0) (r2 a0 a1 a2 a3)) (h : nk_H) (t0 : Nat) (v1 : Option Nat) (v2 : Int32) : nb_F (nk_N h + 0) (nk_S h + 0) (f_X7_lookAtReadable_c2 r2 h t0 v1 v2) := by
  unfold f_X7_lookAtReadable_c2
  refine nb_bind (fun x1 => ?_)
  refine nb_bind (fun a2 => ?_)
  refine nb_do (b_Jx4a65c_size_8abf5  _ _) (fun h3 x4 Lh3 Mh3 => ?_)
  refine nb_ite ?_ ?_
  · exact nb_up (b_X7_lookAtReadable_c49  _) (by omega) (by omega)
  · refine nb_bind (fun x5 => ?_)
    refine nb_bind (fun x6 => ?_)
    refine nb_ite ?_ ?_
    · exact nb_up (b_X7_lookAtReadable_c49  _) (by omega) (by omega)
    · refine nb_bind (fun x7 => ?_)
      refine nb_bind (fun x8 => ?_)
      refine nb_bind (fun a9 => ?_)
      refine nb_do (b_Jx4a65c_get_915e3  _ _ _) (fun h10 x11 Lh10 Mh10 => ?_)
      refine nb_bind (fun _ => ?_)
      refine nb_bind (fun a13 => ?_)
      refine nb_do (b_X8_couldBeReadFor  _ _ _) (fun h14 x15 Lh14 Mh14 => ?_)
      refine nb_wZ (fun h16 Lh16 Mh16 => ?_)
      exact nb_up (hr2 _ _ _ _) (by omega) (by omega)
theorem b_X7_lookAtReadable_b2   : ∀ (n : Nat) (a0 : nk_H) (a1 : Nat) (a2 : Option Nat) (a3 : Int32), nb_F (nk_N a0 + 0) (nk_S a0 + 0) (f_X7_lookAtReadable_b2 n a0 a1 a2 a3)
  | 0, _, _, _, _ => nb_none
  | n + 1, a0, a1, a2, a3 => b_X7_lookAtReadable_c2 (b_X7_lookAtReadable_b2 n) a0 a1 a2 a3
theorem b_X7_lookAtReadable   (h : nk_H) (t0 : Nat) (v1 : Option Nat) : nb_F (nk_N h + 0) (nk_S h + 0) (f_X7_lookAtReadable h t0 v1) := by
  unfold f_X7_lookAtReadable
  exact nb_up (b_X7_lookAtReadable_b2  _ _ _ _ _) (by omega) (by omega)
theorem b_X7_sees_c27   (h : nk_H) (s0 : Int32) : nb_F (nk_N h + 0) (nk_S h + 0) (f_X7_sees_c27 h s0) := by
  unfold f_X7_sees_c27
  exact nb_zr (by omega) (by omega)
theorem b_X7_sees_c26   (h : nk_H) : nb_F (nk_N h + 0) (nk_S h + 0) (f_X7_sees_c26 h) := by
  unfold f_X7_sees_c26
  exact nb_up (b_X7_sees_c27  _ _) (by omega) (by omega)
theorem b_X7_sees   (h : nk_H) (t0 : Nat) (v1 : Int32) : nb_F (nk_N h + 0) (nk_S h + 0) (f_X7_sees h t0 v1) := by
  unfold f_X7_sees
  refine nb_ite ?_ ?_
  · exact nb_up (b_X7_sees_c26  _) (by omega) (by omega)
  · refine nb_bind (fun x1 => ?_)
    refine nb_bind (fun x2 => ?_)
    refine nb_ite ?_ ?_
    · exact nb_up (b_X7_sees_c26  _) (by omega) (by omega)
    · refine nb_bind (fun x3 => ?_)
      refine nb_bind (fun x4 => ?_)
      refine nb_ite ?_ ?_
      · exact nb_up (b_X7_sees_c26  _) (by omega) (by omega)
      · exact nb_up (b_X7_sees_c27  _ _) (by omega) (by omega)
theorem b_X7_knows_c2 {r2 : nk_H → Nat → Option Nat → Option (nk_H × Int32)} (hr2 : ∀ (a0 : nk_H) (a1 : Nat) (a2 : Option Nat), nb_F (nk_N a0 + 0) (nk_S a0 + 0) (r2 a0 a1 a2)) (h : nk_H) (t0 : Nat) (v2 : Option Nat) : nb_F (nk_N h + 0) (nk_S h + 0) (f_X7_knows_c2 r2 h t0 v2) := by
  unfold f_X7_knows_c2
  refine nb_ite ?_ ?_
  · exact nb_zr (by omega) (by omega)
  · refine nb_bind (fun x1 => ?_)
    refine nb_bind (fun a2 => ?_)
    refine nb_do (b_X7_sees  _ _ _) (fun h3 x4 Lh3 Mh3 => ?_)
    refine nb_ite ?_ ?_
    · exact nb_zr (by omega) (by omega)
    · refine nb_bind (fun x5 => ?_)
      exact nb_up (hr2 _ _ _) (by omega) (by omega)
theorem b_X7_knows_b2   : ∀ (n : Nat) (a0 : nk_H) (a1 : Nat) (a2 : Option Nat), nb_F (nk_N a0 + 0) (nk_S a0 + 0) (f_X7_knows_b2 n a0 a1 a2)
  | 0, _, _, _ => nb_none
  | n + 1, a0, a1, a2 => b_X7_knows_c2 (b_X7_knows_b2 n) a0 a1 a2
theorem b_X7_knows   (h : nk_H) (t0 : Nat) (v1 : Option Nat) : nb_F (nk_N h + 0) (nk_S h + 0) (f_X7_knows h t0 v1) := by
  unfold f_X7_knows
  exact nb_up (b_X7_knows_b2  _ _ _ _) (by omega) (by omega)
theorem b_X8_isRevocationOf   (h : nk_H) (t0 : Nat) (v1 : Option Nat) : nb_F (nk_N h + 0) (nk_S h + 0) (f_X8_isRevocationOf h t0 v1) := by
  unfold f_X8_isRevocationOf
  exact nb_zr (by omega) (by omega)
theorem b_X10_isRevocationOf_c13   (h : nk_H) (s0 : Int32) : nb_F (nk_N h + 0) (nk_S h + 0) (f_X10_isRevocationOf_c13 h s0) := by
  unfold f_X10_isRevocationOf_c13
  exact nb_zr (by omega) (by omega)
theorem b_X10_isRevocationOf   (h : nk_H) (t0 : Nat) (v1 : Option Nat) : nb_F (nk_N h + 0) (nk_S h + 0) (f_X10_isRevocationOf h t0 v1) := by
  unfold f_X10_isRevocationOf
  refine nb_bind (fun x1 => ?_)
  refine nb_ite ?_ ?_
  · exact nb_up (b_X10_isRevocationOf_c13  _ _) (by omega) (by omega)
  · exact nb_up (b_X10_isRevocationOf_c13  _ _) (by omega) (by omega)
theorem b_X7_revokesAlone_c41 {r2 : nk_H → Nat → Option Nat → Int32 → Option (nk_H × Int32)} (hr2 : ∀ (a0 : nk_H) (a1 : Nat) (a2 : Option Nat) (a3 : Int32), nb_F (nk_N a0 + 0) (nk_S a0 + 0) (r2 a0 a1 a2 a3)) (h : nk_H) (t0 : Nat) (v1 : Option Nat) (v2 : Int32) : nb_F (nk_N h + 0) (nk_S h + 0) (f_X7_revokesAlone_c41 r2 h t0 v1 v2) := by
  unfold f_X7_revokesAlone_c41
  exact nb_up (hr2 _ _ _ _) (by omega) (by omega)
theorem b_X7_revokesAlone_c2 {r2 : nk_H → Nat → Option Nat → Int32 → Option (nk_H × Int32)} (hr2 : ∀ (a0 : nk_H) (a1 : Nat) (a2 : Option Nat) (a3 : Int32), nb_F (nk_N a0 + 0) (nk_S a0 + 0) (r2 a0 a1 a2 a3)) (h : nk_H) (t0 : Nat) (v1 : Option Nat) (v2 : Int32) : nb_F (nk_N h + 0) (nk_S h + 0) (f_X7_revokesAlone_c2 r2 h t0 v1 v2) := by
  unfold f_X7_revokesAlone_c2
  refine nb_bind (fun x1 => ?_)
  refine nb_bind (fun a2 => ?_)
  refine nb_do (b_Jx4a65c_size_8abf5  _ _) (fun h3 x4 Lh3 Mh3 => ?_)
  refine nb_ite ?_ ?_
  · exact nb_zr (by omega) (by omega)
  · refine nb_bind (fun a5 => ?_)
    refine nb_do (b_X7_sees  _ _ _) (fun h6 x7 Lh6 Mh6 => ?_)
    refine nb_ite ?_ ?_
    · exact nb_up (b_X7_revokesAlone_c41 hr2 _ _ _ _) (by omega) (by omega)
    · refine nb_bind (fun x8 => ?_)
      refine nb_bind (fun a9 => ?_)
      refine nb_do (b_Jx4a65c_get_915e3  _ _ _) (fun h10 x11 Lh10 Mh10 => ?_)
      refine nb_bind (fun _ => ?_)
      refine nb_bind (fun a13 => ?_)
      refine nb_do (n' := nk_N h10 + 0) (s' := nk_S h10 + 0) ?_ (fun h14 x15 Lh14 Mh14 => ?_)
      · refine nb_ite ?_ ?_
        · exact nb_up (b_X8_isRevocationOf  _ _ _) (by omega) (by omega)
        · refine nb_ite ?_ ?_
          · exact nb_up (b_X8_isRevocationOf  _ _ _) (by omega) (by omega)
          · refine nb_ite ?_ ?_
            · exact nb_up (b_X8_isRevocationOf  _ _ _) (by omega) (by omega)
            · exact nb_up (b_X10_isRevocationOf  _ _ _) (by omega) (by omega)
      · refine nb_ite ?_ ?_
        · exact nb_up (b_X7_revokesAlone_c41 hr2 _ _ _ _) (by omega) (by omega)
        · exact nb_zr (by omega) (by omega)
theorem b_X7_revokesAlone_b2   : ∀ (n : Nat) (a0 : nk_H) (a1 : Nat) (a2 : Option Nat) (a3 : Int32), nb_F (nk_N a0 + 0) (nk_S a0 + 0) (f_X7_revokesAlone_b2 n a0 a1 a2 a3)
  | 0, _, _, _, _ => nb_none
  | n + 1, a0, a1, a2, a3 => b_X7_revokesAlone_c2 (b_X7_revokesAlone_b2 n) a0 a1 a2 a3
theorem b_X7_revokesAlone   (h : nk_H) (t0 : Nat) (v1 : Option Nat) : nb_F (nk_N h + 0) (nk_S h + 0) (f_X7_revokesAlone h t0 v1) := by
  unfold f_X7_revokesAlone
  exact nb_up (b_X7_revokesAlone_b2  _ _ _ _ _) (by omega) (by omega)
theorem b_X7_revokes_c2 {r2 : nk_H → Nat → Option Nat → Option (nk_H × Int32)} (hr2 : ∀ (a0 : nk_H) (a1 : Nat) (a2 : Option Nat), nb_F (nk_N a0 + 0) (nk_S a0 + 0) (r2 a0 a1 a2)) (h : nk_H) (t0 : Nat) (v2 : Option Nat) : nb_F (nk_N h + 0) (nk_S h + 0) (f_X7_revokes_c2 r2 h t0 v2) := by
  unfold f_X7_revokes_c2
  refine nb_ite ?_ ?_
  · exact nb_zr (by omega) (by omega)
  · refine nb_bind (fun a1 => ?_)
    refine nb_do (b_X7_revokesAlone  _ _ _) (fun h2 x3 Lh2 Mh2 => ?_)
    refine nb_ite ?_ ?_
    · refine nb_bind (fun x4 => ?_)
      exact nb_up (hr2 _ _ _) (by omega) (by omega)
    · exact nb_zr (by omega) (by omega)
theorem b_X7_revokes_b2   : ∀ (n : Nat) (a0 : nk_H) (a1 : Nat) (a2 : Option Nat), nb_F (nk_N a0 + 0) (nk_S a0 + 0) (f_X7_revokes_b2 n a0 a1 a2)
  | 0, _, _, _ => nb_none
  | n + 1, a0, a1, a2 => b_X7_revokes_c2 (b_X7_revokes_b2 n) a0 a1 a2
theorem b_X7_revokes   (h : nk_H) (t0 : Nat) (v1 : Option Nat) : nb_F (nk_N h + 0) (nk_S h + 0) (f_X7_revokes h t0 v1) := by
  unfold f_X7_revokes
  exact nb_up (b_X7_revokes_b2  _ _ _ _) (by omega) (by omega)
theorem b_X8_amountBy   (h : nk_H) (t0 : Nat) (v1 : Option Nat) : nb_F (nk_N h + 0) (nk_S h + 0) (f_X8_amountBy h t0 v1) := by
  unfold f_X8_amountBy
  exact nb_ret (by omega) (by omega)
theorem b_X7_doneWith_c41 {r4 : nk_H → Nat → Option Nat → Int32 → Int32 → Option (nk_H × Int32)} (hr4 : ∀ (a0 : nk_H) (a1 : Nat) (a2 : Option Nat) (a3 : Int32) (a4 : Int32), nb_F (nk_N a0 + 0) (nk_S a0 + 0) (r4 a0 a1 a2 a3 a4)) (h : nk_H) (t0 : Nat) (v1 : Option Nat) (v2 : Int32) (v3 : Int32) : nb_F (nk_N h + 0) (nk_S h + 0) (f_X7_doneWith_c41 r4 h t0 v1 v2 v3) := by
  unfold f_X7_doneWith_c41
  exact nb_up (hr4 _ _ _ _ _) (by omega) (by omega)
theorem b_X7_doneWith_c4 {r4 : nk_H → Nat → Option Nat → Int32 → Int32 → Option (nk_H × Int32)} (hr4 : ∀ (a0 : nk_H) (a1 : Nat) (a2 : Option Nat) (a3 : Int32) (a4 : Int32), nb_F (nk_N a0 + 0) (nk_S a0 + 0) (r4 a0 a1 a2 a3 a4)) (h : nk_H) (t0 : Nat) (v1 : Option Nat) (v2 : Int32) (v3 : Int32) : nb_F (nk_N h + 0) (nk_S h + 0) (f_X7_doneWith_c4 r4 h t0 v1 v2 v3) := by
  unfold f_X7_doneWith_c4
  refine nb_bind (fun x1 => ?_)
  refine nb_bind (fun a2 => ?_)
  refine nb_do (b_Jx4a65c_size_8abf5  _ _) (fun h3 x4 Lh3 Mh3 => ?_)
  refine nb_ite ?_ ?_
  · exact nb_ret (by omega) (by omega)
  · refine nb_bind (fun a5 => ?_)
    refine nb_do (b_X7_sees  _ _ _) (fun h6 x7 Lh6 Mh6 => ?_)
    refine nb_ite ?_ ?_
    · exact nb_up (b_X7_doneWith_c41 hr4 _ _ _ _ _) (by omega) (by omega)
    · refine nb_bind (fun x8 => ?_)
      refine nb_bind (fun a9 => ?_)
      refine nb_do (b_Jx4a65c_get_915e3  _ _ _) (fun h10 x11 Lh10 Mh10 => ?_)
      refine nb_bind (fun _ => ?_)
      refine nb_bind (fun a13 => ?_)
      refine nb_do (n' := nk_N h10 + 0) (s' := nk_S h10 + 0) ?_ (fun h14 x15 Lh14 Mh14 => ?_)
      · refine nb_ite ?_ ?_
        · exact nb_up (b_X0_amountBy  _ _ _) (by omega) (by omega)
        · refine nb_ite ?_ ?_
          · exact nb_up (b_X8_amountBy  _ _ _) (by omega) (by omega)
          · refine nb_ite ?_ ?_
            · exact nb_up (b_X8_amountBy  _ _ _) (by omega) (by omega)
            · exact nb_up (b_X8_amountBy  _ _ _) (by omega) (by omega)
      · exact nb_up (b_X7_doneWith_c41 hr4 _ _ _ _ _) (by omega) (by omega)
theorem b_X7_doneWith_b4   : ∀ (n : Nat) (a0 : nk_H) (a1 : Nat) (a2 : Option Nat) (a3 : Int32) (a4 : Int32), nb_F (nk_N a0 + 0) (nk_S a0 + 0) (f_X7_doneWith_b4 n a0 a1 a2 a3 a4)
  | 0, _, _, _, _, _ => nb_none
  | n + 1, a0, a1, a2, a3, a4 => b_X7_doneWith_c4 (b_X7_doneWith_b4 n) a0 a1 a2 a3 a4
theorem b_X7_doneWith   (h : nk_H) (t0 : Nat) (v1 : Option Nat) : nb_F (nk_N h + 0) (nk_S h + 0) (f_X7_doneWith h t0 v1) := by
  unfold f_X7_doneWith
  exact nb_up (b_X7_doneWith_b4  _ _ _ _ _ _) (by omega) (by omega)
theorem b_X7_wouldPassTotal_c2 {r2 : nk_H → Nat → Int32 → Option Nat → Option (nk_H × Int32)} (hr2 : ∀ (a0 : nk_H) (a1 : Nat) (a2 : Int32) (a3 : Option Nat), nb_F (nk_N a0 + 0) (nk_S a0 + 0) (r2 a0 a1 a2 a3)) (h : nk_H) (t0 : Nat) (v2 : Int32) (v3 : Option Nat) : nb_F (nk_N h + 0) (nk_S h + 0) (f_X7_wouldPassTotal_c2 r2 h t0 v2 v3) := by
  unfold f_X7_wouldPassTotal_c2
  refine nb_ite ?_ ?_
  · exact nb_zr (by omega) (by omega)
  · refine nb_bind (fun a1 => ?_)
    refine nb_do (b_X7_doneWith  _ _ _) (fun h2 x3 Lh2 Mh2 => ?_)
    refine nb_bind (fun x4 => ?_)
    refine nb_ite ?_ ?_
    · refine nb_bind (fun x5 => ?_)
      exact nb_up (hr2 _ _ _ _) (by omega) (by omega)
    · exact nb_zr (by omega) (by omega)
theorem b_X7_wouldPassTotal_b2   : ∀ (n : Nat) (a0 : nk_H) (a1 : Nat) (a2 : Int32) (a3 : Option Nat), nb_F (nk_N a0 + 0) (nk_S a0 + 0) (f_X7_wouldPassTotal_b2 n a0 a1 a2 a3)
  | 0, _, _, _, _ => nb_none
  | n + 1, a0, a1, a2, a3 => b_X7_wouldPassTotal_c2 (b_X7_wouldPassTotal_b2 n) a0 a1 a2 a3
theorem b_X7_wouldPassTotal   (h : nk_H) (t0 : Nat) (v1 : Option Nat) (v2 : Int32) : nb_F (nk_N h + 0) (nk_S h + 0) (f_X7_wouldPassTotal h t0 v1 v2) := by
  unfold f_X7_wouldPassTotal
  exact nb_up (b_X7_wouldPassTotal_b2  _ _ _ _ _) (by omega) (by omega)
theorem b_X8_isDeputation   (h : nk_H) (t0 : Nat) (v1 : Int32) (v2 : Int32) (v3 : Int32) : nb_F (nk_N h + 0) (nk_S h + 0) (f_X8_isDeputation h t0 v1 v2 v3) := by
  unfold f_X8_isDeputation
  exact nb_zr (by omega) (by omega)
theorem b_X7_deputes_c47 {r3 : nk_H → Nat → Int32 → Int32 → Int32 → Int32 → Option (nk_H × Int32)} (hr3 : ∀ (a0 : nk_H) (a1 : Nat) (a2 : Int32) (a3 : Int32) (a4 : Int32) (a5 : Int32), nb_F (nk_N a0 + 0) (nk_S a0 + 0) (r3 a0 a1 a2 a3 a4 a5)) (h : nk_H) (t0 : Nat) (v1 : Int32) (v2 : Int32) (v3 : Int32) (v4 : Int32) : nb_F (nk_N h + 0) (nk_S h + 0) (f_X7_deputes_c47 r3 h t0 v1 v2 v3 v4) := by
  unfold f_X7_deputes_c47
  exact nb_up (hr3 _ _ _ _ _ _) (by omega) (by omega)
theorem b_X7_deputes_c3 {r3 : nk_H → Nat → Int32 → Int32 → Int32 → Int32 → Option (nk_H × Int32)} (hr3 : ∀ (a0 : nk_H) (a1 : Nat) (a2 : Int32) (a3 : Int32) (a4 : Int32) (a5 : Int32), nb_F (nk_N a0 + 0) (nk_S a0 + 0) (r3 a0 a1 a2 a3 a4 a5)) (h : nk_H) (t0 : Nat) (v1 : Int32) (v2 : Int32) (v3 : Int32) (v4 : Int32) : nb_F (nk_N h + 0) (nk_S h + 0) (f_X7_deputes_c3 r3 h t0 v1 v2 v3 v4) := by
  unfold f_X7_deputes_c3
  refine nb_bind (fun x1 => ?_)
  refine nb_bind (fun a2 => ?_)
  refine nb_do (b_Jx4a65c_size_8abf5  _ _) (fun h3 x4 Lh3 Mh3 => ?_)
  refine nb_ite ?_ ?_
  · exact nb_zr (by omega) (by omega)
  · refine nb_bind (fun a5 => ?_)
    refine nb_do (b_X7_sees  _ _ _) (fun h6 x7 Lh6 Mh6 => ?_)
    refine nb_ite ?_ ?_
    · exact nb_up (b_X7_deputes_c47 hr3 _ _ _ _ _ _) (by omega) (by omega)
    · refine nb_bind (fun x8 => ?_)
      refine nb_bind (fun a9 => ?_)
      refine nb_do (b_Jx4a65c_get_915e3  _ _ _) (fun h10 x11 Lh10 Mh10 => ?_)
      refine nb_bind (fun _ => ?_)
      refine nb_bind (fun a13 => ?_)
      refine nb_do (n' := nk_N h10 + 0) (s' := nk_S h10 + 0) ?_ (fun h14 x15 Lh14 Mh14 => ?_)
      · refine nb_ite ?_ ?_
        · exact nb_up (b_X8_isDeputation  _ _ _ _ _) (by omega) (by omega)
        · refine nb_ite ?_ ?_
          · exact nb_up (b_X4_isDeputation  _ _ _ _ _) (by omega) (by omega)
          · refine nb_ite ?_ ?_
            · exact nb_up (b_X8_isDeputation  _ _ _ _ _) (by omega) (by omega)
            · exact nb_up (b_X8_isDeputation  _ _ _ _ _) (by omega) (by omega)
      · refine nb_ite ?_ ?_
        · exact nb_up (b_X7_deputes_c47 hr3 _ _ _ _ _ _) (by omega) (by omega)
        · exact nb_zr (by omega) (by omega)
theorem b_X7_deputes_b3   : ∀ (n : Nat) (a0 : nk_H) (a1 : Nat) (a2 : Int32) (a3 : Int32) (a4 : Int32) (a5 : Int32), nb_F (nk_N a0 + 0) (nk_S a0 + 0) (f_X7_deputes_b3 n a0 a1 a2 a3 a4 a5)
  | 0, _, _, _, _, _, _ => nb_none
  | n + 1, a0, a1, a2, a3, a4, a5 => b_X7_deputes_c3 (b_X7_deputes_b3 n) a0 a1 a2 a3 a4 a5
theorem b_X7_deputes   (h : nk_H) (t0 : Nat) (v1 : Int32) (v2 : Int32) (v3 : Int32) : nb_F (nk_N h + 0) (nk_S h + 0) (f_X7_deputes h t0 v1 v2 v3) := by
  unfold f_X7_deputes
  exact nb_up (b_X7_deputes_b3  _ _ _ _ _ _ _) (by omega) (by omega)
theorem b_X7_officerAt_c15   (h : nk_H) (s0 : Int32) : nb_F (nk_N h + 0) (nk_S h + 0) (f_X7_officerAt_c15 h s0) := by
  unfold f_X7_officerAt_c15
  exact nb_ret (by omega) (by omega)
theorem b_X7_officerAt   (h : nk_H) (t0 : Nat) (v1 : Int32) (v2 : Int32) : nb_F (nk_N h + 0) (nk_S h + 0) (f_X7_officerAt h t0 v1 v2) := by
  unfold f_X7_officerAt
  refine nb_bind (fun a1 => ?_)
  refine nb_do (b_X7_deputes  _ _ _ _ _) (fun h2 x3 Lh2 Mh2 => ?_)
  refine nb_ite ?_ ?_
  · exact nb_up (b_X7_officerAt_c15  _ _) (by omega) (by omega)
  · exact nb_up (b_X7_officerAt_c15  _ _) (by omega) (by omega)
theorem b_X9_isOver_c2 {r2 : nk_H → Int32 → Option Nat → Option (nk_H × Int32)} (hr2 : ∀ (a0 : nk_H) (a1 : Int32) (a2 : Option Nat), nb_F (nk_N a0 + 0) (nk_S a0 + 0) (r2 a0 a1 a2)) (h : nk_H) (v1 : Int32) (v2 : Option Nat) : nb_F (nk_N h + 0) (nk_S h + 0) (f_X9_isOver_c2 r2 h v1 v2) := by
  unfold f_X9_isOver_c2
  refine nb_ite ?_ ?_
  · exact nb_zr (by omega) (by omega)
  · refine nb_bind (fun x1 => ?_)
    refine nb_ite ?_ ?_
    · refine nb_bind (fun x2 => ?_)
      exact nb_up (hr2 _ _ _) (by omega) (by omega)
    · exact nb_zr (by omega) (by omega)
theorem b_X9_isOver_b2   : ∀ (n : Nat) (a0 : nk_H) (a1 : Int32) (a2 : Option Nat), nb_F (nk_N a0 + 0) (nk_S a0 + 0) (f_X9_isOver_b2 n a0 a1 a2)
  | 0, _, _, _ => nb_none
  | n + 1, a0, a1, a2 => b_X9_isOver_c2 (b_X9_isOver_b2 n) a0 a1 a2
theorem b_X9_isOver   (h : nk_H) (t0 : Nat) (v1 : Int32) : nb_F (nk_N h + 0) (nk_S h + 0) (f_X9_isOver h t0 v1) := by
  unfold f_X9_isOver
  exact nb_up (b_X9_isOver_b2  _ _ _ _) (by omega) (by omega)
theorem b_X9_limitsBelow_c2 {r2 : nk_H → Int32 → Option Nat → Option (nk_H × Int32)} (hr2 : ∀ (a0 : nk_H) (a1 : Int32) (a2 : Option Nat), nb_F (nk_N a0 + 0) (nk_S a0 + 0) (r2 a0 a1 a2)) (h : nk_H) (v1 : Int32) (v2 : Option Nat) : nb_F (nk_N h + 0) (nk_S h + 0) (f_X9_limitsBelow_c2 r2 h v1 v2) := by
  unfold f_X9_limitsBelow_c2
  refine nb_ite ?_ ?_
  · exact nb_zr (by omega) (by omega)
  · refine nb_bind (fun x1 => ?_)
    refine nb_ite ?_ ?_
    · refine nb_bind (fun x2 => ?_)
      exact nb_up (hr2 _ _ _) (by omega) (by omega)
    · exact nb_zr (by omega) (by omega)
theorem b_X9_limitsBelow_b2   : ∀ (n : Nat) (a0 : nk_H) (a1 : Int32) (a2 : Option Nat), nb_F (nk_N a0 + 0) (nk_S a0 + 0) (f_X9_limitsBelow_b2 n a0 a1 a2)
  | 0, _, _, _ => nb_none
  | n + 1, a0, a1, a2 => b_X9_limitsBelow_c2 (b_X9_limitsBelow_b2 n) a0 a1 a2
theorem b_X9_limitsBelow   (h : nk_H) (t0 : Nat) (v1 : Int32) : nb_F (nk_N h + 0) (nk_S h + 0) (f_X9_limitsBelow h t0 v1) := by
  unfold f_X9_limitsBelow
  exact nb_up (b_X9_limitsBelow_b2  _ _ _ _) (by omega) (by omega)
theorem b_X7_reasonAgainst_c116   (h : nk_H) (s0 : Int32) : nb_F (nk_N h + 0) (nk_S h + 0) (f_X7_reasonAgainst_c116 h s0) := by
  unfold f_X7_reasonAgainst_c116
  exact nb_ret (by omega) (by omega)
theorem b_X7_reasonAgainst   (h : nk_H) (t0 : Nat) (v1 : Option Nat) (v2 : Option Nat) : nb_F (nk_N h + 0) (nk_S h + 0) (f_X7_reasonAgainst h t0 v1 v2) := by
  unfold f_X7_reasonAgainst
  refine nb_bind (fun a1 => ?_)
  refine nb_do (b_X7_knows  _ _ _) (fun h2 x3 Lh2 Mh2 => ?_)
  refine nb_ite ?_ ?_
  · exact nb_ret (by omega) (by omega)
  · refine nb_bind (fun x4 => ?_)
    refine nb_bind (fun x5 => ?_)
    refine nb_ite ?_ ?_
    · refine nb_bind (fun a6 => ?_)
      refine nb_do (b_X7_revokes  _ _ _) (fun h7 x8 Lh7 Mh7 => ?_)
      refine nb_ite ?_ ?_
      · refine nb_bind (fun x9 => ?_)
        refine nb_bind (fun a10 => ?_)
        refine nb_do (b_X9_isOver  _ _ _) (fun h11 x12 Lh11 Mh11 => ?_)
        refine nb_ite ?_ ?_
        · refine nb_bind (fun x13 => ?_)
          refine nb_bind (fun x14 => ?_)
          refine nb_do (b_X11_hasBit  _ _ _) (fun h15 x16 Lh15 Mh15 => ?_)
          refine nb_ite ?_ ?_
          · exact nb_ret (by omega) (by omega)
          · refine nb_bind (fun x17 => ?_)
            refine nb_bind (fun a18 => ?_)
            refine nb_do (b_X9_limitsBelow  _ _ _) (fun h19 x20 Lh19 Mh19 => ?_)
            refine nb_ite ?_ ?_
            · refine nb_bind (fun x21 => ?_)
              refine nb_bind (fun a22 => ?_)
              refine nb_do (b_X7_wouldPassTotal  _ _ _ _) (fun h23 x24 Lh23 Mh23 => ?_)
              refine nb_ite ?_ ?_
              · refine nb_bind (fun x25 => ?_)
                refine nb_bind (fun x26 => ?_)
                refine nb_bind (fun x27 => ?_)
                refine nb_bind (fun a28 => ?_)
                refine nb_do (b_X7_officerAt  _ _ _ _) (fun h29 x30 Lh29 Mh29 => ?_)
                refine nb_ite ?_ ?_
                · exact nb_up (b_X7_reasonAgainst_c116  _ _) (by omega) (by omega)
                · exact nb_up (b_X7_reasonAgainst_c116  _ _) (by omega) (by omega)
              · exact nb_ret (by omega) (by omega)
            · exact nb_ret (by omega) (by omega)
        · exact nb_ret (by omega) (by omega)
      · exact nb_ret (by omega) (by omega)
    · exact nb_ret (by omega) (by omega)
theorem b_X11_mustBeKiosk_c10   (h : nk_H) : nb_F (nk_N h + 1) (nk_S h + 6) (f_X11_mustBeKiosk_c10 h) := by
  unfold f_X11_mustBeKiosk_c10
  exact nb_ret (by rw [nk_N_al]; omega) (by rw [nk_S_al]; omega)
theorem b_X11_mustBeKiosk   (h : nk_H) (v0 : Int32) : nb_F (nk_N h + 1) (nk_S h + 6) (f_X11_mustBeKiosk h v0) := by
  unfold f_X11_mustBeKiosk
  refine nb_ite ?_ ?_
  · exact nb_up (b_X11_mustBeKiosk_c10  _) (by omega) (by omega)
  · refine nb_ite ?_ ?_
    · exact nb_ret (by omega) (by omega)
    · exact nb_up (b_X11_mustBeKiosk_c10  _) (by omega) (by omega)
theorem b_X11_mustBeWithin_c10   (h : nk_H) : nb_F (nk_N h + 1) (nk_S h + 6) (f_X11_mustBeWithin_c10 h) := by
  unfold f_X11_mustBeWithin_c10
  exact nb_ret (by rw [nk_N_al]; omega) (by rw [nk_S_al]; omega)
theorem b_X11_mustBeWithin   (h : nk_H) (v0 : Int32) (v1 : Int32) (v2 : Int32) : nb_F (nk_N h + 1) (nk_S h + 6) (f_X11_mustBeWithin h v0 v1 v2) := by
  unfold f_X11_mustBeWithin
  refine nb_ite ?_ ?_
  · exact nb_up (b_X11_mustBeWithin_c10  _) (by omega) (by omega)
  · refine nb_ite ?_ ?_
    · exact nb_ret (by omega) (by omega)
    · exact nb_up (b_X11_mustBeWithin_c10  _) (by omega) (by omega)
theorem b_X11_mustBePerson_c10   (h : nk_H) : nb_F (nk_N h + 1) (nk_S h + 6) (f_X11_mustBePerson_c10 h) := by
  unfold f_X11_mustBePerson_c10
  exact nb_ret (by rw [nk_N_al]; omega) (by rw [nk_S_al]; omega)
theorem b_X11_mustBePerson   (h : nk_H) (v0 : Int32) : nb_F (nk_N h + 1) (nk_S h + 6) (f_X11_mustBePerson h v0) := by
  unfold f_X11_mustBePerson
  refine nb_ite ?_ ?_
  · exact nb_up (b_X11_mustBePerson_c10  _) (by omega) (by omega)
  · refine nb_ite ?_ ?_
    · exact nb_ret (by omega) (by omega)
    · exact nb_up (b_X11_mustBePerson_c10  _) (by omega) (by omega)
theorem b_X11_mustBePower_c15   (h : nk_H) : nb_F (nk_N h + 1) (nk_S h + 6) (f_X11_mustBePower_c15 h) := by
  unfold f_X11_mustBePower_c15
  exact nb_ret (by rw [nk_N_al]; omega) (by rw [nk_S_al]; omega)
theorem b_X11_mustBePower   (h : nk_H) (t0 : Nat) (v1 : Int32) : nb_F (nk_N h + 1) (nk_S h + 6) (f_X11_mustBePower h t0 v1) := by
  unfold f_X11_mustBePower
  refine nb_ite ?_ ?_
  · exact nb_up (b_X11_mustBePower_c15  _) (by omega) (by omega)
  · refine nb_bind (fun x1 => ?_)
    refine nb_bind (fun a2 => ?_)
    refine nb_do (b_Jx4a65c_size_8abf5  _ _) (fun h3 x4 Lh3 Mh3 => ?_)
    refine nb_ite ?_ ?_
    · exact nb_ret (by omega) (by omega)
    · exact nb_up (b_X11_mustBePower_c15  _) (by omega) (by omega)
theorem b_X11_isGoodAt_c46   (h : nk_H) (s0 : Int32) : nb_F (nk_N h + 0) (nk_S h + 0) (f_X11_isGoodAt_c46 h s0) := by
  unfold f_X11_isGoodAt_c46
  exact nb_zr (by omega) (by omega)
theorem b_X11_isGoodAt_c45   (h : nk_H) : nb_F (nk_N h + 0) (nk_S h + 0) (f_X11_isGoodAt_c45 h) := by
  unfold f_X11_isGoodAt_c45
  exact nb_up (b_X11_isGoodAt_c46  _ _) (by omega) (by omega)
theorem b_X11_isGoodAt   (h : nk_H) (t0 : Nat) (v1 : Int32) (v2 : Option Nat) : nb_F (nk_N h + 0) (nk_S h + 0) (f_X11_isGoodAt h t0 v1 v2) := by
  unfold f_X11_isGoodAt
  refine nb_bind (fun x1 => ?_)
  refine nb_bind (fun a2 => ?_)
  refine nb_do (b_X7_lookAtRead  _ _ _) (fun h3 x4 Lh3 Mh3 => ?_)
  refine nb_bind (fun x5 => ?_)
  refine nb_bind (fun a6 => ?_)
  refine nb_do (b_X7_knows  _ _ _) (fun h7 x8 Lh7 Mh7 => ?_)
  refine nb_ite ?_ ?_
  · exact nb_up (b_X11_isGoodAt_c45  _) (by omega) (by omega)
  · refine nb_bind (fun x9 => ?_)
    refine nb_bind (fun a10 => ?_)
    refine nb_do (b_X7_revokes  _ _ _) (fun h11 x12 Lh11 Mh11 => ?_)
    refine nb_ite ?_ ?_
    · refine nb_bind (fun x13 => ?_)
      refine nb_bind (fun a14 => ?_)
      refine nb_do (b_X9_isOver  _ _ _) (fun h15 x16 Lh15 Mh15 => ?_)
      refine nb_ite ?_ ?_
      · exact nb_up (b_X11_isGoodAt_c46  _ _) (by omega) (by omega)
      · exact nb_up (b_X11_isGoodAt_c45  _) (by omega) (by omega)
    · exact nb_up (b_X11_isGoodAt_c45  _) (by omega) (by omega)
theorem b_X11_deedNow   (h : nk_H) (t0 : Nat) (v1 : Int32) (v2 : Int32) (v3 : Int32) : nb_F (nk_N h + 1) (nk_S h + 6) (f_X11_deedNow h t0 v1 v2 v3) := by
  unfold f_X11_deedNow
  refine nb_al (fun h1 Lh1 Mh1 => ?_)
  refine nb_bind (fun x2 => ?_)
  refine nb_bind (fun x3 => ?_)
  refine nb_bind (fun x4 => ?_)
  refine nb_do (b_X3_init  _ _ _ _ _ _ _ _) (fun h5 x6 Lh5 Mh5 => ?_)
  exact nb_ret (by omega) (by omega)
theorem b_X11_reasonByMail   (h : nk_H) (t0 : Nat) (v1 : Option Nat) : nb_F (nk_N h + 0) (nk_S h + 0) (f_X11_reasonByMail h t0 v1) := by
  unfold f_X11_reasonByMail
  refine nb_bind (fun x1 => ?_)
  refine nb_bind (fun a2 => ?_)
  refine nb_do (b_X7_lookAtReadable  _ _ _) (fun h3 x4 Lh3 Mh3 => ?_)
  refine nb_bind (fun x5 => ?_)
  refine nb_bind (fun x6 => ?_)
  refine nb_bind (fun x7 => ?_)
  refine nb_bind (fun a8 => ?_)
  refine nb_do (b_X7_reasonAgainst  _ _ _ _) (fun h9 x10 Lh9 Mh9 => ?_)
  exact nb_ret (by omega) (by omega)
theorem b_X11_mustBeRecord_c21   (h : nk_H) : nb_F (nk_N h + 1) (nk_S h + 6) (f_X11_mustBeRecord_c21 h) := by
  unfold f_X11_mustBeRecord_c21
  exact nb_ret (by rw [nk_N_al]; omega) (by rw [nk_S_al]; omega)
theorem b_X11_mustBeRecord   (h : nk_H) (t0 : Nat) (v1 : Int32) (v2 : Int32) : nb_F (nk_N h + 2) (nk_S h + 12) (f_X11_mustBeRecord h t0 v1 v2) := by
  unfold f_X11_mustBeRecord
  refine nb_dt (by omega) (by omega) (b_X11_mustBeKiosk  _ _) (fun h1 x2 Lh1 Mh1 => ?_)
  refine nb_ite ?_ ?_
  · exact nb_up (b_X11_mustBeRecord_c21  _) (by omega) (by omega)
  · refine nb_bind (fun x3 => ?_)
    refine nb_bind (fun x4 => ?_)
    refine nb_bind (fun a5 => ?_)
    refine nb_do (b_X1_count  _ _) (fun h6 x7 Lh6 Mh6 => ?_)
    refine nb_ite ?_ ?_
    · exact nb_ret (by omega) (by omega)
    · exact nb_up (b_X11_mustBeRecord_c21  _) (by omega) (by omega)
theorem b_X11_mustBeCopy_c15   (h : nk_H) : nb_F (nk_N h + 1) (nk_S h + 6) (f_X11_mustBeCopy_c15 h) := by
  unfold f_X11_mustBeCopy_c15
  exact nb_ret (by rw [nk_N_al]; omega) (by rw [nk_S_al]; omega)
theorem b_X11_mustBeCopy   (h : nk_H) (t0 : Nat) (v1 : Int32) : nb_F (nk_N h + 1) (nk_S h + 6) (f_X11_mustBeCopy h t0 v1) := by
  unfold f_X11_mustBeCopy
  refine nb_ite ?_ ?_
  · exact nb_up (b_X11_mustBeCopy_c15  _) (by omega) (by omega)
  · refine nb_bind (fun x1 => ?_)
    refine nb_bind (fun a2 => ?_)
    refine nb_do (b_Jx4a65c_size_8abf5  _ _) (fun h3 x4 Lh3 Mh3 => ?_)
    refine nb_ite ?_ ?_
    · exact nb_ret (by omega) (by omega)
    · exact nb_up (b_X11_mustBeCopy_c15  _) (by omega) (by omega)
theorem b_X11_mustBePlace_c27   (h : nk_H) : nb_F (nk_N h + 1) (nk_S h + 6) (f_X11_mustBePlace_c27 h) := by
  unfold f_X11_mustBePlace_c27
  exact nb_ret (by rw [nk_N_al]; omega) (by rw [nk_S_al]; omega)
theorem b_X11_mustBePlace   (h : nk_H) (t0 : Nat) (v1 : Int32) (v2 : Int32) : nb_F (nk_N h + 2) (nk_S h + 12) (f_X11_mustBePlace h t0 v1 v2) := by
  unfold f_X11_mustBePlace
  refine nb_bind (fun a1 => ?_)
  refine nb_dt (by omega) (by omega) (b_X11_mustBeCopy  _ _ _) (fun h2 x3 Lh2 Mh2 => ?_)
  refine nb_ite ?_ ?_
  · exact nb_up (b_X11_mustBePlace_c27  _) (by omega) (by omega)
  · refine nb_bind (fun x4 => ?_)
    refine nb_bind (fun a5 => ?_)
    refine nb_do (b_Jx4a65c_get_915e3  _ _ _) (fun h6 x7 Lh6 Mh6 => ?_)
    refine nb_bind (fun _ => ?_)
    refine nb_bind (fun x9 => ?_)
    refine nb_ite ?_ ?_
    · exact nb_ret (by omega) (by omega)
    · exact nb_up (b_X11_mustBePlace_c27  _) (by omega) (by omega)
theorem b_X11_mustBePart_c10   (h : nk_H) : nb_F (nk_N h + 1) (nk_S h + 6) (f_X11_mustBePart_c10 h) := by
  unfold f_X11_mustBePart_c10
  exact nb_ret (by rw [nk_N_al]; omega) (by rw [nk_S_al]; omega)
theorem b_X11_mustBePart   (h : nk_H) (v0 : Int32) : nb_F (nk_N h + 1) (nk_S h + 6) (f_X11_mustBePart h v0) := by
  unfold f_X11_mustBePart
  refine nb_ite ?_ ?_
  · exact nb_up (b_X11_mustBePart_c10  _) (by omega) (by omega)
  · refine nb_ite ?_ ?_
    · exact nb_ret (by omega) (by omega)
    · exact nb_up (b_X11_mustBePart_c10  _) (by omega) (by omega)
theorem b_X11_hour   (h : nk_H) (t0 : Nat) : nb_F (nk_N h + 0) (nk_S h + 0) (f_X11_hour h t0) := by
  unfold f_X11_hour
  refine nb_bind (fun x1 => ?_)
  exact nb_ret (by omega) (by omega)
theorem b_X11_news   (h : nk_H) (t0 : Nat) : nb_F (nk_N h + 0) (nk_S h + 0) (f_X11_news h t0) := by
  unfold f_X11_news
  refine nb_bind (fun x1 => ?_)
  refine nb_bind (fun a2 => ?_)
  refine nb_do (b_X7_count  _ _) (fun h3 x4 Lh3 Mh3 => ?_)
  exact nb_ret (by omega) (by omega)
theorem b_X11_powers   (h : nk_H) (t0 : Nat) : nb_F (nk_N h + 0) (nk_S h + 0) (f_X11_powers h t0) := by
  unfold f_X11_powers
  refine nb_bind (fun x1 => ?_)
  refine nb_bind (fun a2 => ?_)
  refine nb_do (b_Jx4a65c_size_8abf5  _ _) (fun h3 x4 Lh3 Mh3 => ?_)
  exact nb_ret (by omega) (by omega)
theorem b_X11_records   (h : nk_H) (t0 : Nat) (v1 : Int32) : nb_F (nk_N h + 1) (nk_S h + 6) (f_X11_records h t0 v1) := by
  unfold f_X11_records
  refine nb_dt (by omega) (by omega) (b_X11_mustBeKiosk  _ _) (fun h1 x2 Lh1 Mh1 => ?_)
  refine nb_bind (fun x3 => ?_)
  refine nb_bind (fun x4 => ?_)
  refine nb_bind (fun a5 => ?_)
  refine nb_do (b_X1_count  _ _) (fun h6 x7 Lh6 Mh6 => ?_)
  exact nb_ret (by omega) (by omega)
theorem b_X11_areJoined   (h : nk_H) (t0 : Nat) (v1 : Int32) (v2 : Int32) : nb_F (nk_N h + 2) (nk_S h + 12) (f_X11_areJoined h t0 v1 v2) := by
  unfold f_X11_areJoined
  refine nb_dt (by omega) (by omega) (b_X11_mustBeKiosk  _ _) (fun h1 x2 Lh1 Mh1 => ?_)
  refine nb_dt (by omega) (by omega) (b_X11_mustBeKiosk  _ _) (fun h3 x4 Lh3 Mh3 => ?_)
  refine nb_bind (fun x5 => ?_)
  refine nb_bind (fun a6 => ?_)
  refine nb_do (b_X6_areLinked  _ _ _ _) (fun h7 x8 Lh7 Mh7 => ?_)
  exact nb_zr (by omega) (by omega)
theorem b_X11_mustBePiece_c15   (h : nk_H) : nb_F (nk_N h + 1) (nk_S h + 6) (f_X11_mustBePiece_c15 h) := by
  unfold f_X11_mustBePiece_c15
  exact nb_ret (by rw [nk_N_al]; omega) (by rw [nk_S_al]; omega)
theorem b_X11_mustBePiece   (h : nk_H) (t0 : Nat) (v1 : Int32) : nb_F (nk_N h + 1) (nk_S h + 6) (f_X11_mustBePiece h t0 v1) := by
  unfold f_X11_mustBePiece
  refine nb_ite ?_ ?_
  · exact nb_up (b_X11_mustBePiece_c15  _) (by omega) (by omega)
  · refine nb_bind (fun x1 => ?_)
    refine nb_bind (fun a2 => ?_)
    refine nb_do (b_X7_count  _ _) (fun h3 x4 Lh3 Mh3 => ?_)
    refine nb_ite ?_ ?_
    · exact nb_ret (by omega) (by omega)
    · exact nb_up (b_X11_mustBePiece_c15  _) (by omega) (by omega)
theorem b_X11_came   (h : nk_H) (t0 : Nat) (v1 : Int32) (v2 : Int32) : nb_F (nk_N h + 2) (nk_S h + 12) (f_X11_came h t0 v1 v2) := by
  unfold f_X11_came
  refine nb_dt (by omega) (by omega) (b_X11_mustBeKiosk  _ _) (fun h1 x2 Lh1 Mh1 => ?_)
  refine nb_bind (fun a3 => ?_)
  refine nb_dt (by omega) (by omega) (b_X11_mustBePiece  _ _ _) (fun h4 x5 Lh4 Mh4 => ?_)
  refine nb_bind (fun x6 => ?_)
  refine nb_bind (fun a7 => ?_)
  refine nb_do (b_X7_pieceAt  _ _ _) (fun h8 x9 Lh8 Mh8 => ?_)
  refine nb_bind (fun x10 => ?_)
  refine nb_bind (fun x11 => ?_)
  exact nb_ret (by omega) (by omega)
theorem b_X11_cameByLinks_c49 {r49 : nk_H → Nat → Int32 → Int32 → Int32 → Option (nk_H × (Int32 ⊕ String))} (hr49 : ∀ (a0 : nk_H) (a1 : Nat) (a2 : Int32) (a3 : Int32) (a4 : Int32), nb_F (nk_N a0 + 0) (nk_S a0 + 0) (r49 a0 a1 a2 a3 a4)) (h : nk_H) (t0 : Nat) (v1 : Int32) (v4 : Int32) (v5 : Int32) : nb_F (nk_N h + 0) (nk_S h + 0) (f_X11_cameByLinks_c49 r49 h t0 v1 v4 v5) := by
  unfold f_X11_cameByLinks_c49
  refine nb_bind (fun x1 => ?_)
  refine nb_ite ?_ ?_
  · exact nb_ret (by omega) (by omega)
  · refine nb_bind (fun x2 => ?_)
    refine nb_bind (fun a3 => ?_)
    refine nb_do (b_X6_reach  _ _ _ _) (fun h4 x5 Lh4 Mh4 => ?_)
    refine nb_do (b_X11_hasBit  _ _ _) (fun h6 x7 Lh6 Mh6 => ?_)
    refine nb_ite ?_ ?_
    · exact nb_up (hr49 _ _ _ _ _) (by omega) (by omega)
    · exact nb_ret (by omega) (by omega)
theorem b_X11_cameByLinks_b49   : ∀ (n : Nat) (a0 : nk_H) (a1 : Nat) (a2 : Int32) (a3 : Int32) (a4 : Int32), nb_F (nk_N a0 + 0) (nk_S a0 + 0) (f_X11_cameByLinks_b49 n a0 a1 a2 a3 a4)
  | 0, _, _, _, _, _ => nb_none
  | n + 1, a0, a1, a2, a3, a4 => b_X11_cameByLinks_c49 (b_X11_cameByLinks_b49 n) a0 a1 a2 a3 a4
theorem b_X11_cameByLinks   (h : nk_H) (t0 : Nat) (v1 : Int32) (v2 : Int32) : nb_F (nk_N h + 2) (nk_S h + 12) (f_X11_cameByLinks h t0 v1 v2) := by
  unfold f_X11_cameByLinks
  refine nb_dt (by omega) (by omega) (b_X11_mustBeKiosk  _ _) (fun h8 x9 Lh8 Mh8 => ?_)
  refine nb_bind (fun a10 => ?_)
  refine nb_dt (by omega) (by omega) (b_X11_mustBePiece  _ _ _) (fun h11 x12 Lh11 Mh11 => ?_)
  refine nb_bind (fun x13 => ?_)
  refine nb_bind (fun a14 => ?_)
  refine nb_do (b_X7_pieceAt  _ _ _) (fun h15 x16 Lh15 Mh15 => ?_)
  refine nb_bind (fun x17 => ?_)
  refine nb_do (b_X11_bit  _ _) (fun h18 x19 Lh18 Mh18 => ?_)
  refine nb_do (b_X11_hasBit  _ _ _) (fun h20 x21 Lh20 Mh20 => ?_)
  refine nb_ite ?_ ?_
  · refine nb_bind (fun x22 => ?_)
    exact nb_up (b_X11_cameByLinks_b49  _ _ _ _ _ _) (by omega) (by omega)
  · refine nb_bind (fun x23 => ?_)
    exact nb_ret (by omega) (by omega)
theorem b_X11_isRead   (h : nk_H) (t0 : Nat) (v1 : Int32) (v2 : Int32) : nb_F (nk_N h + 2) (nk_S h + 12) (f_X11_isRead h t0 v1 v2) := by
  unfold f_X11_isRead
  refine nb_dt (by omega) (by omega) (b_X11_mustBeKiosk  _ _) (fun h1 x2 Lh1 Mh1 => ?_)
  refine nb_bind (fun a3 => ?_)
  refine nb_dt (by omega) (by omega) (b_X11_mustBePiece  _ _ _) (fun h4 x5 Lh4 Mh4 => ?_)
  refine nb_bind (fun x6 => ?_)
  refine nb_bind (fun a7 => ?_)
  refine nb_do (b_X7_pieceAt  _ _ _) (fun h8 x9 Lh8 Mh8 => ?_)
  refine nb_bind (fun x10 => ?_)
  refine nb_do (b_X11_hasBit  _ _ _) (fun h11 x12 Lh11 Mh11 => ?_)
  exact nb_zr (by omega) (by omega)
theorem b_X11_mail   (h : nk_H) (t0 : Nat) (v1 : Int32) : nb_F (nk_N h + 1) (nk_S h + 6) (f_X11_mail h t0 v1) := by
  unfold f_X11_mail
  refine nb_dt (by omega) (by omega) (b_X11_mustBeKiosk  _ _) (fun h1 x2 Lh1 Mh1 => ?_)
  refine nb_bind (fun x3 => ?_)
  refine nb_bind (fun a4 => ?_)
  refine nb_do (b_X7_unread  _ _ _) (fun h5 x6 Lh5 Mh5 => ?_)
  exact nb_ret (by omega) (by omega)
theorem b_X11_source_c32   (h : nk_H) (s0 : Int32) : nb_F (nk_N h + 0) (nk_S h + 0) (f_X11_source_c32 h s0) := by
  unfold f_X11_source_c32
  exact nb_ret (by omega) (by omega)
theorem b_X11_source   (h : nk_H) (t0 : Nat) (v1 : Int32) : nb_F (nk_N h + 1) (nk_S h + 6) (f_X11_source h t0 v1) := by
  unfold f_X11_source
  refine nb_bind (fun a1 => ?_)
  refine nb_dt (by omega) (by omega) (b_X11_mustBePower  _ _ _) (fun h2 x3 Lh2 Mh2 => ?_)
  refine nb_bind (fun x4 => ?_)
  refine nb_bind (fun a5 => ?_)
  refine nb_do (b_Jx4a65c_get_915e3  _ _ _) (fun h6 x7 Lh6 Mh6 => ?_)
  refine nb_bind (fun _ => ?_)
  refine nb_bind (fun x9 => ?_)
  refine nb_ite ?_ ?_
  · exact nb_up (b_X11_source_c32  _ _) (by omega) (by omega)
  · refine nb_bind (fun x10 => ?_)
    exact nb_up (b_X11_source_c32  _ _) (by omega) (by omega)
theorem b_X11_holder   (h : nk_H) (t0 : Nat) (v1 : Int32) : nb_F (nk_N h + 1) (nk_S h + 6) (f_X11_holder h t0 v1) := by
  unfold f_X11_holder
  refine nb_bind (fun a1 => ?_)
  refine nb_dt (by omega) (by omega) (b_X11_mustBePower  _ _ _) (fun h2 x3 Lh2 Mh2 => ?_)
  refine nb_bind (fun x4 => ?_)
  refine nb_bind (fun a5 => ?_)
  refine nb_do (b_Jx4a65c_get_915e3  _ _ _) (fun h6 x7 Lh6 Mh6 => ?_)
  refine nb_bind (fun _ => ?_)
  refine nb_bind (fun x9 => ?_)
  exact nb_ret (by omega) (by omega)
theorem b_X11_isGood   (h : nk_H) (t0 : Nat) (v1 : Int32) (v2 : Int32) : nb_F (nk_N h + 2) (nk_S h + 12) (f_X11_isGood h t0 v1 v2) := by
  unfold f_X11_isGood
  refine nb_dt (by omega) (by omega) (b_X11_mustBeKiosk  _ _) (fun h1 x2 Lh1 Mh1 => ?_)
  refine nb_bind (fun a3 => ?_)
  refine nb_dt (by omega) (by omega) (b_X11_mustBePower  _ _ _) (fun h4 x5 Lh4 Mh4 => ?_)
  refine nb_bind (fun x6 => ?_)
  refine nb_bind (fun a7 => ?_)
  refine nb_do (b_Jx4a65c_get_915e3  _ _ _) (fun h8 x9 Lh8 Mh8 => ?_)
  refine nb_bind (fun _ => ?_)
  refine nb_bind (fun a11 => ?_)
  refine nb_do (b_X11_isGoodAt  _ _ _ _) (fun h12 x13 Lh12 Mh12 => ?_)
  exact nb_zr (by omega) (by omega)
theorem b_X11_done   (h : nk_H) (t0 : Nat) (v1 : Int32) (v2 : Int32) : nb_F (nk_N h + 2) (nk_S h + 12) (f_X11_done h t0 v1 v2) := by
  unfold f_X11_done
  refine nb_dt (by omega) (by omega) (b_X11_mustBeKiosk  _ _) (fun h1 x2 Lh1 Mh1 => ?_)
  refine nb_bind (fun a3 => ?_)
  refine nb_dt (by omega) (by omega) (b_X11_mustBePower  _ _ _) (fun h4 x5 Lh4 Mh4 => ?_)
  refine nb_bind (fun x6 => ?_)
  refine nb_bind (fun a7 => ?_)
  refine nb_do (b_X7_lookAtRead  _ _ _) (fun h8 x9 Lh8 Mh8 => ?_)
  refine nb_bind (fun x10 => ?_)
  refine nb_bind (fun x11 => ?_)
  refine nb_bind (fun a12 => ?_)
  refine nb_do (b_Jx4a65c_get_915e3  _ _ _) (fun h13 x14 Lh13 Mh13 => ?_)
  refine nb_bind (fun _ => ?_)
  refine nb_bind (fun a16 => ?_)
  refine nb_do (b_X7_doneWith  _ _ _) (fun h17 x18 Lh17 Mh17 => ?_)
  exact nb_ret (by omega) (by omega)
theorem b_X11_against   (h : nk_H) (t0 : Nat) (v1 : Int32) (v2 : Int32) (v3 : Int32) (v4 : Int32) : nb_F (nk_N h + 5) (nk_S h + 30) (f_X11_against h t0 v1 v2 v3 v4) := by
  unfold f_X11_against
  refine nb_dt (by omega) (by omega) (b_X11_mustBeKiosk  _ _) (fun h1 x2 Lh1 Mh1 => ?_)
  refine nb_dt (by omega) (by omega) (b_X11_mustBePerson  _ _) (fun h3 x4 Lh3 Mh3 => ?_)
  refine nb_bind (fun a5 => ?_)
  refine nb_dt (by omega) (by omega) (b_X11_mustBePower  _ _ _) (fun h6 x7 Lh6 Mh6 => ?_)
  refine nb_dt (by omega) (by omega) (b_X11_mustBeWithin  _ _ _ _) (fun h8 x9 Lh8 Mh8 => ?_)
  refine nb_bind (fun x10 => ?_)
  refine nb_bind (fun a11 => ?_)
  refine nb_do (b_X7_lookAtRead  _ _ _) (fun h12 x13 Lh12 Mh12 => ?_)
  refine nb_bind (fun x14 => ?_)
  refine nb_bind (fun x15 => ?_)
  refine nb_bind (fun a16 => ?_)
  refine nb_do (b_Jx4a65c_get_915e3  _ _ _) (fun h17 x18 Lh17 Mh17 => ?_)
  refine nb_bind (fun _ => ?_)
  refine nb_bind (fun a20 => ?_)
  refine nb_do (b_X11_deedNow  _ _ _ _ _) (fun h21 x22 Lh21 Mh21 => ?_)
  refine nb_bind (fun a23 => ?_)
  refine nb_do (b_X7_reasonAgainst  _ _ _ _) (fun h24 x25 Lh24 Mh24 => ?_)
  exact nb_ret (by omega) (by omega)
theorem b_X11_choices_c78 {r39 : nk_H → Nat → Option Nat → Int32 → Int32 → Option (nk_H × (Int32 ⊕ String))} (hr39 : ∀ (a0 : nk_H) (a1 : Nat) (a2 : Option Nat) (a3 : Int32) (a4 : Int32), nb_F (nk_N a0 + 0) (nk_S a0 + 0) (r39 a0 a1 a2 a3 a4)) (h : nk_H) (t0 : Nat) (v4 : Option Nat) (v5 : Int32) (v6 : Int32) : nb_F (nk_N h + 0) (nk_S h + 0) (f_X11_choices_c78 r39 h t0 v4 v5 v6) := by
  unfold f_X11_choices_c78
  exact nb_up (hr39 _ _ _ _ _) (by omega) (by omega)
theorem b_X11_choices_c39 {r39 : nk_H → Nat → Option Nat → Int32 → Int32 → Option (nk_H × (Int32 ⊕ String))} (hr39 : ∀ (a0 : nk_H) (a1 : Nat) (a2 : Option Nat) (a3 : Int32) (a4 : Int32), nb_F (nk_N a0 + 0) (nk_S a0 + 0) (r39 a0 a1 a2 a3 a4)) (h : nk_H) (t0 : Nat) (v4 : Option Nat) (v5 : Int32) (v6 : Int32) : nb_F (nk_N h + 0) (nk_S h + 0) (f_X11_choices_c39 r39 h t0 v4 v5 v6) := by
  unfold f_X11_choices_c39
  refine nb_bind (fun x1 => ?_)
  refine nb_bind (fun a2 => ?_)
  refine nb_do (b_Jx4a65c_size_8abf5  _ _) (fun h3 x4 Lh3 Mh3 => ?_)
  refine nb_ite ?_ ?_
  · exact nb_ret (by omega) (by omega)
  · refine nb_bind (fun x5 => ?_)
    refine nb_bind (fun x6 => ?_)
    refine nb_bind (fun a7 => ?_)
    refine nb_do (b_Jx4a65c_get_915e3  _ _ _) (fun h8 x9 Lh8 Mh8 => ?_)
    refine nb_bind (fun _ => ?_)
    refine nb_bind (fun a11 => ?_)
    refine nb_do (b_X7_reasonAgainst  _ _ _ _) (fun h12 x13 Lh12 Mh12 => ?_)
    refine nb_ite ?_ ?_
    · exact nb_up (b_X11_choices_c78 hr39 _ _ _ _ _) (by omega) (by omega)
    · exact nb_up (b_X11_choices_c78 hr39 _ _ _ _ _) (by omega) (by omega)
theorem b_X11_choices_b39   : ∀ (n : Nat) (a0 : nk_H) (a1 : Nat) (a2 : Option Nat) (a3 : Int32) (a4 : Int32), nb_F (nk_N a0 + 0) (nk_S a0 + 0) (f_X11_choices_b39 n a0 a1 a2 a3 a4)
  | 0, _, _, _, _, _ => nb_none
  | n + 1, a0, a1, a2, a3, a4 => b_X11_choices_c39 (b_X11_choices_b39 n) a0 a1 a2 a3 a4
theorem b_X11_choices   (h : nk_H) (t0 : Nat) (v1 : Int32) (v2 : Int32) (v3 : Int32) : nb_F (nk_N h + 4) (nk_S h + 24) (f_X11_choices h t0 v1 v2 v3) := by
  unfold f_X11_choices
  refine nb_dt (by omega) (by omega) (b_X11_mustBeKiosk  _ _) (fun h14 x15 Lh14 Mh14 => ?_)
  refine nb_dt (by omega) (by omega) (b_X11_mustBePerson  _ _) (fun h16 x17 Lh16 Mh16 => ?_)
  refine nb_dt (by omega) (by omega) (b_X11_mustBeWithin  _ _ _ _) (fun h18 x19 Lh18 Mh18 => ?_)
  refine nb_bind (fun a20 => ?_)
  refine nb_do (b_X11_deedNow  _ _ _ _ _) (fun h21 x22 Lh21 Mh21 => ?_)
  refine nb_bind (fun x23 => ?_)
  refine nb_bind (fun a24 => ?_)
  refine nb_do (b_X7_lookAtRead  _ _ _) (fun h25 x26 Lh25 Mh25 => ?_)
  exact nb_up (b_X11_choices_b39  _ _ _ _ _ _) (by omega) (by omega)
theorem b_X11_stands   (h : nk_H) (t0 : Nat) (v1 : Int32) (v2 : Int32) : nb_F (nk_N h + 2) (nk_S h + 12) (f_X11_stands h t0 v1 v2) := by
  unfold f_X11_stands
  refine nb_bind (fun a1 => ?_)
  refine nb_dt (by omega) (by omega) (b_X11_mustBeRecord  _ _ _ _) (fun h2 x3 Lh2 Mh2 => ?_)
  refine nb_bind (fun x4 => ?_)
  refine nb_bind (fun x5 => ?_)
  refine nb_bind (fun a6 => ?_)
  refine nb_do (b_X1_actOf  _ _ _) (fun h7 x8 Lh7 Mh7 => ?_)
  refine nb_bind (fun x9 => ?_)
  exact nb_zr (by omega) (by omega)
theorem b_X11_fault   (h : nk_H) (t0 : Nat) (v1 : Int32) (v2 : Int32) : nb_F (nk_N h + 2) (nk_S h + 12) (f_X11_fault h t0 v1 v2) := by
  unfold f_X11_fault
  refine nb_bind (fun a1 => ?_)
  refine nb_dt (by omega) (by omega) (b_X11_mustBeRecord  _ _ _ _) (fun h2 x3 Lh2 Mh2 => ?_)
  refine nb_bind (fun x4 => ?_)
  refine nb_bind (fun x5 => ?_)
  refine nb_bind (fun a6 => ?_)
  refine nb_do (b_X1_actOf  _ _ _) (fun h7 x8 Lh7 Mh7 => ?_)
  refine nb_bind (fun a9 => ?_)
  refine nb_do (b_X11_reasonByMail  _ _ _) (fun h10 x11 Lh10 Mh10 => ?_)
  exact nb_ret (by omega) (by omega)
theorem b_X11_standing_c4 {r4 : nk_H → Nat → Int32 → Int32 → Option (nk_H × Int32)} (hr4 : ∀ (a0 : nk_H) (a1 : Nat) (a2 : Int32) (a3 : Int32), nb_F (nk_N a0 + 0) (nk_S a0 + 0) (r4 a0 a1 a2 a3)) (h : nk_H) (t0 : Nat) (v1 : Int32) (v2 : Int32) : nb_F (nk_N h + 0) (nk_S h + 0) (f_X11_standing_c4 r4 h t0 v1 v2) := by
  unfold f_X11_standing_c4
  refine nb_ite ?_ ?_
  · exact nb_ret (by omega) (by omega)
  · refine nb_bind (fun x1 => ?_)
    refine nb_bind (fun x2 => ?_)
    refine nb_bind (fun a3 => ?_)
    refine nb_do (b_X1_countStanding  _ _) (fun h4 x5 Lh4 Mh4 => ?_)
    exact nb_up (hr4 _ _ _ _) (by omega) (by omega)
theorem b_X11_standing_b4   : ∀ (n : Nat) (a0 : nk_H) (a1 : Nat) (a2 : Int32) (a3 : Int32), nb_F (nk_N a0 + 0) (nk_S a0 + 0) (f_X11_standing_b4 n a0 a1 a2 a3)
  | 0, _, _, _, _ => nb_none
  | n + 1, a0, a1, a2, a3 => b_X11_standing_c4 (b_X11_standing_b4 n) a0 a1 a2 a3
theorem b_X11_standing   (h : nk_H) (t0 : Nat) : nb_F (nk_N h + 0) (nk_S h + 0) (f_X11_standing h t0) := by
  unfold f_X11_standing
  exact nb_up (b_X11_standing_b4  _ _ _ _ _) (by omega) (by omega)
theorem b_X11_pieceOf   (h : nk_H) (t0 : Nat) (v1 : Int32) (v2 : Int32) : nb_F (nk_N h + 2) (nk_S h + 12) (f_X11_pieceOf h t0 v1 v2) := by
  unfold f_X11_pieceOf
  refine nb_bind (fun a1 => ?_)
  refine nb_dt (by omega) (by omega) (b_X11_mustBeRecord  _ _ _ _) (fun h2 x3 Lh2 Mh2 => ?_)
  refine nb_bind (fun x4 => ?_)
  refine nb_bind (fun x5 => ?_)
  refine nb_bind (fun a6 => ?_)
  refine nb_do (b_X1_actOf  _ _ _) (fun h7 x8 Lh7 Mh7 => ?_)
  refine nb_bind (fun x9 => ?_)
  exact nb_ret (by omega) (by omega)
theorem b_X11_part   (h : nk_H) (t0 : Nat) (v1 : Int32) (v2 : Int32) (v3 : Int32) : nb_F (nk_N h + 3) (nk_S h + 18) (f_X11_part h t0 v1 v2 v3) := by
  unfold f_X11_part
  refine nb_bind (fun a1 => ?_)
  refine nb_dt (by omega) (by omega) (b_X11_mustBeRecord  _ _ _ _) (fun h2 x3 Lh2 Mh2 => ?_)
  refine nb_dt (by omega) (by omega) (b_X11_mustBePart  _ _) (fun h4 x5 Lh4 Mh4 => ?_)
  refine nb_bind (fun x6 => ?_)
  refine nb_bind (fun x7 => ?_)
  refine nb_bind (fun a8 => ?_)
  refine nb_do (b_X1_actOf  _ _ _) (fun h9 x10 Lh9 Mh9 => ?_)
  refine nb_bind (fun x11 => ?_)
  refine nb_bind (fun x12 => ?_)
  exact nb_ret (by omega) (by omega)
theorem b_X11_seal   (h : nk_H) (t0 : Nat) (v1 : Int32) (v2 : Int32) : nb_F (nk_N h + 2) (nk_S h + 12) (f_X11_seal h t0 v1 v2) := by
  unfold f_X11_seal
  refine nb_bind (fun a1 => ?_)
  refine nb_dt (by omega) (by omega) (b_X11_mustBeRecord  _ _ _ _) (fun h2 x3 Lh2 Mh2 => ?_)
  refine nb_bind (fun x4 => ?_)
  refine nb_bind (fun x5 => ?_)
  refine nb_bind (fun a6 => ?_)
  refine nb_do (b_X1_actOf  _ _ _) (fun h7 x8 Lh7 Mh7 => ?_)
  refine nb_bind (fun x9 => ?_)
  exact nb_ret (by omega) (by omega)
theorem b_X11_broken   (h : nk_H) (t0 : Nat) (v1 : Int32) : nb_F (nk_N h + 1) (nk_S h + 6) (f_X11_broken h t0 v1) := by
  unfold f_X11_broken
  refine nb_dt (by omega) (by omega) (b_X11_mustBeKiosk  _ _) (fun h1 x2 Lh1 Mh1 => ?_)
  refine nb_bind (fun x3 => ?_)
  refine nb_bind (fun x4 => ?_)
  refine nb_bind (fun a5 => ?_)
  refine nb_do (b_X1_firstBroken  _ _) (fun h6 x7 Lh6 Mh6 => ?_)
  exact nb_ret (by omega) (by omega)
theorem b_X11_size   (h : nk_H) (t0 : Nat) (v1 : Int32) : nb_F (nk_N h + 1) (nk_S h + 6) (f_X11_size h t0 v1) := by
  unfold f_X11_size
  refine nb_bind (fun a1 => ?_)
  refine nb_dt (by omega) (by omega) (b_X11_mustBeCopy  _ _ _) (fun h2 x3 Lh2 Mh2 => ?_)
  refine nb_bind (fun x4 => ?_)
  refine nb_bind (fun a5 => ?_)
  refine nb_do (b_Jx4a65c_get_915e3  _ _ _) (fun h6 x7 Lh6 Mh6 => ?_)
  refine nb_bind (fun _ => ?_)
  refine nb_bind (fun x9 => ?_)
  exact nb_ret (by omega) (by omega)
theorem b_X11_copied_c45   (h : nk_H) (s0 : Int32) : nb_F (nk_N h + 0) (nk_S h + 0) (f_X11_copied_c45 h s0) := by
  unfold f_X11_copied_c45
  exact nb_ret (by omega) (by omega)
theorem b_X11_copied   (h : nk_H) (t0 : Nat) (v1 : Int32) (v2 : Int32) (v3 : Int32) : nb_F (nk_N h + 3) (nk_S h + 18) (f_X11_copied h t0 v1 v2 v3) := by
  unfold f_X11_copied
  refine nb_bind (fun a1 => ?_)
  refine nb_dt (by omega) (by omega) (b_X11_mustBePlace  _ _ _ _) (fun h2 x3 Lh2 Mh2 => ?_)
  refine nb_dt (by omega) (by omega) (b_X11_mustBePart  _ _) (fun h4 x5 Lh4 Mh4 => ?_)
  refine nb_bind (fun x6 => ?_)
  refine nb_bind (fun a7 => ?_)
  refine nb_do (b_Jx4a65c_get_915e3  _ _ _) (fun h8 x9 Lh8 Mh8 => ?_)
  refine nb_bind (fun _ => ?_)
  refine nb_bind (fun a11 => ?_)
  refine nb_do (b_X2_leavesOut  _ _ _) (fun h12 x13 Lh12 Mh12 => ?_)
  refine nb_ite ?_ ?_
  · refine nb_bind (fun x14 => ?_)
    refine nb_bind (fun x15 => ?_)
    refine nb_bind (fun x16 => ?_)
    exact nb_up (b_X11_copied_c45  _ _) (by omega) (by omega)
  · exact nb_up (b_X11_copied_c45  _ _) (by omega) (by omega)
theorem b_X11_brokenCopy   (h : nk_H) (t0 : Nat) (v1 : Int32) : nb_F (nk_N h + 1) (nk_S h + 6) (f_X11_brokenCopy h t0 v1) := by
  unfold f_X11_brokenCopy
  refine nb_bind (fun a1 => ?_)
  refine nb_dt (by omega) (by omega) (b_X11_mustBeCopy  _ _ _) (fun h2 x3 Lh2 Mh2 => ?_)
  refine nb_bind (fun x4 => ?_)
  refine nb_bind (fun a5 => ?_)
  refine nb_do (b_Jx4a65c_get_915e3  _ _ _) (fun h6 x7 Lh6 Mh6 => ?_)
  refine nb_bind (fun _ => ?_)
  refine nb_bind (fun a9 => ?_)
  refine nb_do (b_X2_firstBroken  _ _) (fun h10 x11 Lh10 Mh10 => ?_)
  exact nb_ret (by omega) (by omega)
theorem b_X11_isTrue   (h : nk_H) (t0 : Nat) (v1 : Int32) : nb_F (nk_N h + 1) (nk_S h + 6) (f_X11_isTrue h t0 v1) := by
  unfold f_X11_isTrue
  refine nb_bind (fun a1 => ?_)
  refine nb_dt (by omega) (by omega) (b_X11_mustBeCopy  _ _ _) (fun h2 x3 Lh2 Mh2 => ?_)
  refine nb_bind (fun x4 => ?_)
  refine nb_bind (fun a5 => ?_)
  refine nb_do (b_Jx4a65c_get_915e3  _ _ _) (fun h6 x7 Lh6 Mh6 => ?_)
  refine nb_bind (fun _ => ?_)
  refine nb_bind (fun x9 => ?_)
  refine nb_bind (fun x10 => ?_)
  refine nb_bind (fun x11 => ?_)
  refine nb_bind (fun a12 => ?_)
  refine nb_do (b_X2_tellsAs  _ _ _) (fun h13 x14 Lh13 Mh13 => ?_)
  exact nb_zr (by omega) (by omega)
