/-! ===== calls in the functions' words; casts; Math ===== -/
def nk_do {β γ : Type} (g : Option (nk_H × β)) (K : nk_H → β → Option γ) : Option γ := g.bind fun x => K x.1 x.2
def nk_dt {β γ : Type} (g : Option (nk_H × (β ⊕ String))) (K : nk_H → β → Option (nk_H × (γ ⊕ String))) : Option (nk_H × (γ ⊕ String)) := g.bind fun x => nk_th x K
section NKG
variable {α : Type} {G : nk_G} {l : Launch} {own : String} {cc : ByteArray} {nL : Nat} {ret : Option FieldType} {fr lo : Nat} {ini : Bool} {en : α → Option Value ⊕ String} {pc : Nat} {lv : List (Nat × nk_V)} {st0 st : List nk_V} {h : nk_H}
theorem nr_doV {K : nk_H → Unit → Option (nk_H × α)} {g : Option (nk_H × Unit)} (go : nk_Go G l own cc nL ret fr lo ini pc lv st0 st h nk_eV g) (kk : ∀ h1 v, nk_Sim G l own cc nL ret fr lo ini en (pc + 3) lv st h1 (K h1 v)) : nk_Sim G l own cc nL ret fr lo ini en pc lv st0 h (nk_do g K) :=
  nk_goV go (fun h1 => kk h1 ())
theorem nr_doI {K : nk_H → Int32 → Option (nk_H × α)} {g : Option (nk_H × Int32)} (go : nk_Go G l own cc nL ret fr lo ini pc lv st0 st h nk_eI g) (kk : ∀ h1 v, nk_Sim G l own cc nL ret fr lo ini en (pc + 3) lv (.inl v :: st) h1 (K h1 v)) : nk_Sim G l own cc nL ret fr lo ini en pc lv st0 h (nk_do g K) :=
  nk_goI go kk
theorem nr_doR {K : nk_H → Option Nat → Option (nk_H × α)} {g : Option (nk_H × Option Nat)} (go : nk_Go G l own cc nL ret fr lo ini pc lv st0 st h nk_eR g) (kk : ∀ h1 v, nk_Sim G l own cc nL ret fr lo ini en (pc + 3) lv (.inr v :: st) h1 (K h1 v)) : nk_Sim G l own cc nL ret fr lo ini en pc lv st0 h (nk_do g K) :=
  nk_goR go kk
end NKG
section NKT
variable {γ : Type} {G : nk_G} {l : Launch} {own : String} {cc : ByteArray} {nL : Nat} {ret : Option FieldType} {fr lo : Nat} {ini : Bool} {en : γ ⊕ String → Option Value ⊕ String} {pc : Nat} {lv : List (Nat × nk_V)} {st0 st : List nk_V} {h : nk_H}
theorem nr_dtV {K : nk_H → Unit → Option (nk_H × (γ ⊕ String))} {g : Option (nk_H × (Unit ⊕ String))} (go : nk_Go G l own cc nL ret fr lo ini pc lv st0 st h nk_eVt g) (hen : ∀ E, en (.inr E) = .inr E) (kk : ∀ h1 v, nk_Sim G l own cc nL ret fr lo ini en (pc + 3) lv st h1 (K h1 v)) (hnl : nk_nl own cc := by exact Or.inl (by decide)) : nk_Sim G l own cc nL ret fr lo ini en pc lv st0 h (nk_dt g K) :=
  nk_goVt go hen hnl (fun h1 => kk h1 ())
theorem nr_dtI {K : nk_H → Int32 → Option (nk_H × (γ ⊕ String))} {g : Option (nk_H × (Int32 ⊕ String))} (go : nk_Go G l own cc nL ret fr lo ini pc lv st0 st h nk_eIt g) (hen : ∀ E, en (.inr E) = .inr E) (kk : ∀ h1 v, nk_Sim G l own cc nL ret fr lo ini en (pc + 3) lv (.inl v :: st) h1 (K h1 v)) (hnl : nk_nl own cc := by exact Or.inl (by decide)) : nk_Sim G l own cc nL ret fr lo ini en pc lv st0 h (nk_dt g K) :=
  nk_goIt go hen hnl kk
end NKT
/-- a cast: of null, or of a kind -/
def nk_cc (ks : List Nat) (h : nk_H) (p : Option Nat) : Option Unit := match p with
  | none => some ()
  | some a => if nk_K h a ∈ ks then some () else none
section NKR
variable {α : Type} {G : nk_G} {l : Launch} {own : String} {cc : ByteArray} {nL : Nat} {ret : Option FieldType} {fr lo : Nat} {ini : Bool} {en : α → Option Value ⊕ String} {pc : Nat} {lv lv2 : List (Nat × nk_V)} {st : List nk_V} {h : nk_H} {f : Option (nk_H × α)}
/-- the kinds that a class's name admits: by the same name, or by a word -/
def nk_Ca (nm : String) : List Nat → Prop
  | [] => True
  | c :: t => (∃ (ci : Nat) (q : vw_C), c = ci + 7 ∧ nk_cl[ci]? = some q ∧ (q.1 = nm ∨ Cond.castable q.1 nm ∈ nk_T)) ∧ nk_Ca nm t
theorem nk_Ca.get {nm : String} {ks : List Nat} (h : nk_Ca nm ks) {c : Nat} (hc : c ∈ ks) : ∃ (ci : Nat) (q : vw_C), c = ci + 7 ∧ nk_cl[ci]? = some q ∧ (q.1 = nm ∨ Cond.castable q.1 nm ∈ nk_T) := by
  induction ks with
  | nil => cases hc
  | cons d t ih =>
    rcases List.mem_cons.mp hc with rfl | hc
    · exact h.1
    · exact ih h.2 hc
theorem nr_cast {i : Nat} {nm : String} {ks : List Nat} {x : Option Nat} {F : Unit → Option (nk_H × α)} (d : decode cc pc = .ok (.checkcast i, 3)) (wl : Cond.classLink own i nm ∈ nk_T) (w : nk_Ca nm ks) (kk : nk_Sim G l own cc nL ret fr lo ini en (pc + 3) lv (.inr x :: st) h (F ())) : nk_Sim G l own cc nL ret fr lo ini en pc lv (.inr x :: st) h ((nk_cc ks h x).bind F) := by
  refine nk_bind (fun v hv => nk_pure (fun p e R s m args below meth c H locs cells slots Q ls X hR hl k9 => ?_) kk)
  have hKn := X.2.2.2.2.2.2.1
  cases x with
  | none => exact lv_castN X.1 X.2.1 d (k9 ls hl)
  | some a =>
    by_cases hm : nk_K h a ∈ ks
    · obtain ⟨ci, q, e1, hq, hc⟩ := w.get hm
      have hr := nk_recv hKn hR e1 hq
      rcases hc with hc | hc
      · exact va_castE X.1 X.2.1 X.2.2.2.2.2.1 (hKn.use wl args) (by rw [← hc]; exact hr) d (k9 ls hl)
      · exact va_castY X.1 X.2.1 X.2.2.2.2.2.1 (hKn.use wl args) (hKn.use hc #[]) hr d (k9 ls hl)
    · exact absurd ((if_neg hm).symm.trans hv) (fun z => nomatch z)
theorem nr_max {i : Nat} {x y : Int32} (d : decode cc pc = .ok (.invokestatic i, 3)) (wl : Cond.methodLink own i Lib.Math.max.name ∈ nk_T) (ws : Cond.static Lib.Math.max.name ∈ nk_T) (wi : Cond.initialized "java/lang/Math" ∈ nk_T) (wc : Cond.code Lib.Math.max.name Lib.Math.max.code 2 (some .int) ∈ nk_T) (hfr : 1 ≤ fr) (hlo : st.length + 13 ≤ lo) (kk : nk_Sim G l own cc nL ret fr lo ini en (pc + 3) lv (.inl (if x < y then y else x) :: st) h f) : nk_Sim G l own cc nL ret fr lo ini en pc lv (.inl y :: .inl x :: st) h f := by
  intro h' r hf
  obtain ⟨k1, k2, k3⟩ := kk h' r hf
  refine ⟨k1, k2, fun p e R s m args below meth c X sb b1 b2 b3 b4 H ls locs hR hl hq => ?_⟩
  have hKn := X.2.2.2.2.2.2.1
  have g1 : fr ≤ R.frames := X.2.2.2.2.2.2.2.2.1
  have g2 : lo ≤ R.locals := X.2.2.2.2.2.2.2.2.2.1
  exact va_mmax X.1 X.2.1 (by rw [X.2.2.1]; exact hl.1.symm) X.2.2.2.2.2.1 (hKn.use wl args) (hKn.use ws args) (hKn.use wi args) (hKn.use wc args) (by omega) (by show ((nk_vs st).map fun v => v.category).sum + 13 ≤ R.locals; rw [nk_sum]; omega) (by omega) (by omega) d (k3 p e R s m args below meth c X sb b1 b2 b3 b4 H ls locs hR hl hq)
theorem nr_min {i : Nat} {x y : Int32} (d : decode cc pc = .ok (.invokestatic i, 3)) (wl : Cond.methodLink own i Lib.Math.min.name ∈ nk_T) (ws : Cond.static Lib.Math.min.name ∈ nk_T) (wi : Cond.initialized "java/lang/Math" ∈ nk_T) (wc : Cond.code Lib.Math.min.name Lib.Math.min.code 2 (some .int) ∈ nk_T) (hfr : 1 ≤ fr) (hlo : st.length + 13 ≤ lo) (kk : nk_Sim G l own cc nL ret fr lo ini en (pc + 3) lv (.inl (if y < x then y else x) :: st) h f) : nk_Sim G l own cc nL ret fr lo ini en pc lv (.inl y :: .inl x :: st) h f := by
  intro h' r hf
  obtain ⟨k1, k2, k3⟩ := kk h' r hf
  refine ⟨k1, k2, fun p e R s m args below meth c X sb b1 b2 b3 b4 H ls locs hR hl hq => ?_⟩
  have hKn := X.2.2.2.2.2.2.1
  have g1 : fr ≤ R.frames := X.2.2.2.2.2.2.2.2.1
  have g2 : lo ≤ R.locals := X.2.2.2.2.2.2.2.2.2.1
  exact va_mmin X.1 X.2.1 (by rw [X.2.2.1]; exact hl.1.symm) X.2.2.2.2.2.1 (hKn.use wl args) (hKn.use ws args) (hKn.use wi args) (hKn.use wc args) (by omega) (by show ((nk_vs st).map fun v => v.category).sum + 13 ≤ R.locals; rw [nk_sum]; omega) (by omega) (by omega) d (k3 p e R s m args below meth c X sb b1 b2 b3 b4 H ls locs hR hl hq)
end NKR

/-! ===== calls that may throw, where nothing catches: no answer is claimed if they do; a remainder by what may be 0 ===== -/
def nk_st {γ : Type} (g : Option (nk_H × (γ ⊕ String))) : Option (nk_H × γ) := g.bind fun x => match x.2 with
  | .inl v => some (x.1, v)
  | .inr _ => none
theorem nk_st_some {γ : Type} {g : Option (nk_H × (γ ⊕ String))} {h1 : nk_H} {r : γ} (e : nk_st g = some (h1, r)) : g = some (h1, .inl r) := by
  cases g with
  | none => cases e
  | some x =>
    obtain ⟨h2, r2⟩ := x
    cases r2 with
    | inl v => cases e; rfl
    | inr E => cases e
def nk_nz (v : Int32) : Option Unit := if v = 0 then none else some ()
section NKY
variable {α : Type} {G : nk_G} {l : Launch} {own : String} {cc : ByteArray} {nL : Nat} {ret : Option FieldType} {fr lo : Nat} {ini : Bool} {en : α → Option Value ⊕ String} {pc : Nat} {lv : List (Nat × nk_V)} {st0 st : List nk_V} {h : nk_H}
theorem nk_goStI {g : Option (nk_H × (Int32 ⊕ String))} (go : nk_Go G l own cc nL ret fr lo ini pc lv st0 st h nk_eIt g) : nk_Go G l own cc nL ret fr lo ini pc lv st0 st h nk_eI (nk_st g) := fun h1 r e => go h1 (.inl r) (nk_st_some e)
theorem nk_goStV {g : Option (nk_H × (Unit ⊕ String))} (go : nk_Go G l own cc nL ret fr lo ini pc lv st0 st h nk_eVt g) : nk_Go G l own cc nL ret fr lo ini pc lv st0 st h nk_eV (nk_st g) := fun h1 r e => go h1 (.inl r) (nk_st_some e)
theorem nr_iremN {x y : Int32} {F : Unit → Option (nk_H × α)} (d : decode cc pc = .ok (.irem, 1)) (k : nk_Sim G l own cc nL ret fr lo ini en (pc + 1) lv (.inl (x - x / y * y) :: st) h (F ())) : nk_Sim G l own cc nL ret fr lo ini en pc lv (.inl y :: .inl x :: st) h ((nk_nz y).bind F) := by
  refine nk_bind (fun v hv => ?_)
  by_cases hy : y = 0
  · unfold nk_nz at hv
    rw [if_pos hy] at hv
    cases hv
  · exact nr_irem d hy k
end NKY
