/-! ===== calls: a contract at a call site; what goes on behind it ===== -/
def nk_th {β γ : Type} (x : nk_H × (β ⊕ String)) (K : nk_H → β → Option (nk_H × (γ ⊕ String))) : Option (nk_H × (γ ⊕ String)) := match x.2 with
  | .inl v => K x.1 v
  | .inr E => some (x.1, .inr E)
/-- a method's own words: its code, its class's start, its name -/
def nk_My (y : MethodName) (cc : ByteArray) (nL : Nat) (ret : Option FieldType) (n : Nat) : Prop := Cond.code y cc nL ret ∈ nk_T ∧ Cond.initialized y.cls ∈ nk_T ∧ (y.cls ≠ "java/lang/invoke/MethodHandle" ∧ y.cls ≠ "java/lang/invoke/VarHandle") ∧ (parseMethodDescriptor y.desc).map (fun d => d.parameters.length) = some n
/-- a call that runs: what the machine does there, in the pictures' words -/
def nk_Go {β : Type} (G : nk_G) (l : Launch) (own : String) (cc : ByteArray) (nL : Nat) (ret : Option FieldType) (fr lo : Nat) (ini : Bool) (pc : Nat) (lv : List (Nat × nk_V)) (st0 st : List nk_V) (h : nk_H) (en2 : β → Option Value ⊕ String) (g : Option (nk_H × β)) : Prop :=
  ∀ (h1 : nk_H) (r : β), g = some (h1, r) → nk_N h ≤ nk_N h1 ∧ nk_S h ≤ nk_S h1 ∧
    ∀ (p : Program) (e : Env) (R : Room) (s : State) (m : MethodId) (args : Array Value) (below : List Frame) (meth : Method) (c : Code), nk_X G l own cc nL ret fr lo ini p R s m meth c →
    ∀ (cells slots : Nat), cells + (nk_N h1 - nk_N h) ≤ R.cells → slots + (nk_S h1 - nk_S h) ≤ R.slots →
    ∀ (H : Heap) (ls : Array Slot) (locs : List Loc), nk_R G h H → lv_has ls nL (nk_lv lv) →
      ∃ a : Array Value, vx_Run p l e R s m args below meth c H locs cells slots (nk_N h1 - nk_N h) (nk_S h1 - nk_S h) (F0 m pc ls (nk_vs st0)) (nk_vs st) (nk_Qc G h1 (en2 r) a) (nk_XC G h1 (en2 r)) (nk_fr G)
section NKG
variable {α β : Type} {G : nk_G} {l : Launch} {own : String} {cc : ByteArray} {nL : Nat} {ret : Option FieldType} {fr lo : Nat} {ini : Bool} {en : α → Option Value ⊕ String} {en2 : β → Option Value ⊕ String} {pc : Nat} {lv : List (Nat × nk_V)} {st0 st : List nk_V} {h : nk_H} {g : Option (nk_H × β)}
theorem nk_call {F : nk_H × β → Option (nk_H × α)} (go : nk_Go G l own cc nL ret fr lo ini pc lv st0 st h en2 g)
    (kk : ∀ (h1 : nk_H) (r : β) (v : Option Value), en2 r = .inl v → ∃ t : List nk_V, v.toList = nk_vs t ∧ nk_Sim G l own cc nL ret fr lo ini en (pc + 3) lv (t ++ st) h1 (F (h1, r)))
    (kx : ∀ (h1 : nk_H) (r : β) (E : String), en2 r = .inr E → nk_nl own cc ∧ ∃ r' : α, F (h1, r) = some (h1, r') ∧ en r' = .inr E) : nk_Sim G l own cc nL ret fr lo ini en pc lv st0 h (g.bind F) := by
  intro h' r' hf
  cases hg : g with
  | none => rw [hg] at hf; cases hf
  | some x =>
    obtain ⟨h1, r⟩ := x
    rw [hg] at hf
    have hf2 : F (h1, r) = some (h', r') := hf
    obtain ⟨g1, g2, g3⟩ := go h1 r hg
    cases ho : en2 r with
    | inl v =>
      obtain ⟨t, ht, k⟩ := kk h1 r v ho
      obtain ⟨k1, k2, k3⟩ := k h' r' hf2
      refine ⟨Nat.le_trans g1 k1, Nat.le_trans g2 k2, fun p e R s m args below meth c X sb b1 b2 b3 b4 H ls locs hR hl hq => ?_⟩
      obtain ⟨a, hrun⟩ := g3 p e R s m args below meth c X (nk_N h - s.heap.size) (nk_S h - sb) (by omega) (by omega) H ls locs hR hl
      intro T hT X0
      rcases hrun T hT X0 with ⟨w, st₀, t9, T', L, h0, X', hL, e1, e2, ⟨hR1, v9, hv, hw⟩, stp⟩ | ⟨q, st₀, t9, T', L, E, ce, h0, X', hL, e1, e2, ⟨hR1, hv⟩, -⟩
      · rw [ho] at hv
        cases hv
        cases hw
        have k4 := k3 p e R s m args below meth c X sb (by omega) (by omega) b3 b4 t9.heap ls (locs ++ L) hR1 hl (fun q hq9 => (List.mem_append.mp hq9).elim (hq q) (hL q))
        rw [show nk_N h1 - s.heap.size = nk_N h - s.heap.size + (nk_N h1 - nk_N h) by omega, show nk_S h1 - sb = nk_S h - sb + (nk_S h1 - nk_S h) by omega] at k4
        obtain ⟨t2, a1, b9⟩ := k4 T' e1 X'
        refine ⟨t2, stp t2 ?_, b9⟩
        show Steps p.tables e below (T'.setTop (F0 m (pc + 3) ls (v.toList ++ nk_vs st))) t2
        rw [ht]
        have e5 : nk_vs (t ++ st) = nk_vs t ++ nk_vs st := List.map_append
        rw [← e5]
        exact a1
      · rw [ho] at hv; cases hv
    | inr E =>
      obtain ⟨hnl, r9, hF, hen⟩ := kx h1 r E ho
      rw [hF] at hf2
      cases hf2
      refine ⟨g1, g2, fun p e R s m args below meth c X sb b1 b2 b3 b4 H ls locs hR hl hq => ?_⟩
      obtain ⟨a, hrun⟩ := g3 p e R s m args below meth c X (nk_N h - s.heap.size) (nk_S h - sb) (by omega) (by omega) H ls locs hR hl
      intro T hT X0
      rcases hrun T hT X0 with ⟨w, st₀, t9, T', L, h0, X', hL, e1, e2, ⟨hR1, v9, hv, hw⟩, -⟩ | ⟨q, st₀, t9, T', L, E9, ce, h0, X', hL, e1, e2, ⟨hR1, hv⟩, hce, hcv, hcl, stp⟩
      · rw [ho] at hv; cases hv
      · rw [ho] at hv
        cases hv
        obtain ⟨hx, hb, hml, hr, hlk, hown, hKn, hG, hRf, hRl, htab, hst, hin⟩ := X
        have k4 : vx_W p l e R s m args below meth c T'.heap (locs ++ L) (nk_N h - s.heap.size + (nk_N h' - nk_N h)) (nk_S h - sb + (nk_S h' - nk_S h)) (vx_MQ below (nk_Qc G h' (en r')) (nk_XC G h' (en r')) args s (nk_N h' - s.heap.size) (nk_S h' - sb) (nk_fr G)) (F0 m pc ls (nk_vs st)) q :=
          vx_out (E := E) (fun x hx9 => (htab.1 hnl x hx9).elim) hlk (by rw [e1]; exact hce) hcv hcl (fun t ht _ => ⟨by rw [ht, e1]; exact hR1, hen⟩) (fun q hq9 => (List.mem_append.mp hq9).elim (hq q) (hL q)) (by omega) (by omega)
        obtain ⟨t2, a1, b9⟩ := k4 T' rfl X'
        exact ⟨t2, stp.trans a1, b9⟩
theorem nk_goV {F : nk_H × Unit → Option (nk_H × α)} {g : Option (nk_H × Unit)} (go : nk_Go G l own cc nL ret fr lo ini pc lv st0 st h nk_eV g) (kk : ∀ h1, nk_Sim G l own cc nL ret fr lo ini en (pc + 3) lv st h1 (F (h1, ()))) : nk_Sim G l own cc nL ret fr lo ini en pc lv st0 h (g.bind F) :=
  nk_call go (fun h1 r v hv => by cases hv; exact ⟨[], rfl, kk h1⟩) (fun h1 r E hE => nomatch hE)
theorem nk_goI {F : nk_H × Int32 → Option (nk_H × α)} {g : Option (nk_H × Int32)} (go : nk_Go G l own cc nL ret fr lo ini pc lv st0 st h nk_eI g) (kk : ∀ h1 v, nk_Sim G l own cc nL ret fr lo ini en (pc + 3) lv (.inl v :: st) h1 (F (h1, v))) : nk_Sim G l own cc nL ret fr lo ini en pc lv st0 h (g.bind F) :=
  nk_call go (fun h1 r v hv => by cases hv; exact ⟨[.inl r], rfl, kk h1 r⟩) (fun h1 r E hE => nomatch hE)
theorem nk_goR {F : nk_H × Option Nat → Option (nk_H × α)} {g : Option (nk_H × Option Nat)} (go : nk_Go G l own cc nL ret fr lo ini pc lv st0 st h nk_eR g) (kk : ∀ h1 v, nk_Sim G l own cc nL ret fr lo ini en (pc + 3) lv (.inr v :: st) h1 (F (h1, v))) : nk_Sim G l own cc nL ret fr lo ini en pc lv st0 h (g.bind F) :=
  nk_call go (fun h1 r v hv => by cases hv; exact ⟨[.inr r], rfl, kk h1 r⟩) (fun h1 r E hE => nomatch hE)
end NKG
section NKT
variable {γ : Type} {G : nk_G} {l : Launch} {own : String} {cc : ByteArray} {nL : Nat} {ret : Option FieldType} {fr lo : Nat} {ini : Bool} {en : γ ⊕ String → Option Value ⊕ String} {pc : Nat} {lv : List (Nat × nk_V)} {st0 st : List nk_V} {h : nk_H}
theorem nk_goVt {K : nk_H → Unit → Option (nk_H × (γ ⊕ String))} {g : Option (nk_H × (Unit ⊕ String))} (go : nk_Go G l own cc nL ret fr lo ini pc lv st0 st h nk_eVt g) (hen : ∀ E, en (.inr E) = .inr E) (hnl : nk_nl own cc) (kk : ∀ h1, nk_Sim G l own cc nL ret fr lo ini en (pc + 3) lv st h1 (K h1 ())) : nk_Sim G l own cc nL ret fr lo ini en pc lv st0 h (g.bind fun x => nk_th x K) :=
  nk_call go (fun h1 r v hv => by
    cases r with
    | inl u => cases hv; exact ⟨[], rfl, kk h1⟩
    | inr E => cases hv) (fun h1 r E hE => by
    cases r with
    | inl u => cases hE
    | inr E9 => cases hE; exact ⟨hnl, .inr E, rfl, hen E⟩)
theorem nk_goIt {K : nk_H → Int32 → Option (nk_H × (γ ⊕ String))} {g : Option (nk_H × (Int32 ⊕ String))} (go : nk_Go G l own cc nL ret fr lo ini pc lv st0 st h nk_eIt g) (hen : ∀ E, en (.inr E) = .inr E) (hnl : nk_nl own cc) (kk : ∀ h1 v, nk_Sim G l own cc nL ret fr lo ini en (pc + 3) lv (.inl v :: st) h1 (K h1 v)) : nk_Sim G l own cc nL ret fr lo ini en pc lv st0 h (g.bind fun x => nk_th x K) :=
  nk_call go (fun h1 r v hv => by
    cases r with
    | inl u => cases hv; exact ⟨[.inl u], rfl, kk h1 u⟩
    | inr E => cases hv) (fun h1 r E hE => by
    cases r with
    | inl u => cases hE
    | inr E9 => cases hE; exact ⟨hnl, .inr E, rfl, hen E⟩)
end NKT
section NKM
variable {β : Type} {G : nk_G} {l : Launch} {own : String} {cc : ByteArray} {nL : Nat} {ret : Option FieldType} {fr lo : Nat} {ini : Bool} {en2 : β → Option Value ⊕ String} {pc : Nat} {lv : List (Nat × nk_V)} {st0 st : List nk_V} {h : nk_H} {g : Option (nk_H × β)} {y : MethodName} {c2 : ByteArray} {n2 fr2 lo2 : Nat} {r2 : Option FieldType} {vs : List nk_V} {i n : Nat}
theorem nk_par {n9 : Nat} (h9 : (parseMethodDescriptor y.desc).map (fun d => d.parameters.length) = some n9) : ∀ sig, parseMethodDescriptor y.desc = some sig → n9 = sig.parameters.length := by
  intro sig hs
  rw [hs] at h9
  exact (Option.some.inj h9).symm
theorem nk_revs (vs st : List nk_V) : nk_vs (vs.reverse ++ st) = (nk_vs vs).reverse ++ nk_vs st := by
  unfold nk_vs
  rw [List.map_append, List.map_reverse]
theorem nk_stS {p : Program} {R : Room} {s : State} {m : MethodId} {meth : Method} {c : Code} {H : Heap} (X : nk_X G l own cc nL ret fr lo ini p R s m meth c) (hR : nk_R G h H) (as : Array Value) (has : as = (nk_vs vs).toArray) : ∀ U : State, U.heap = H → s.WarmedH U.vm → nk_Pc G h vs as U := by
  intro U hU hW
  exact ⟨has, by rw [hU]; exact hR, X.2.2.2.2.2.2.1.warm hW⟩
theorem nk_cB {p : Program} {R : Room} {s : State} {m : MethodId} {meth : Method} {c : Code} {mc ms : Nat} (args : Array Value) (X : nk_X G l own cc nL ret fr lo ini p R s m meth c) (hy : nk_My y c2 n2 r2 n) (wl : Cond.methodLink own i y ∈ nk_T) (hfr : fr2 + 1 ≤ fr) (hlo : 8 + (n2 + 11) + lo2 ≤ lo) :
    CallB R s args own i y c2 n2 r2 [Cond.code y c2 n2 r2] { frames := fr2, cells := mc, slots := ms, locals := lo2 } mc ms n := by
  have hKn := X.2.2.2.2.2.2.1
  have h1 : fr ≤ R.frames := X.2.2.2.2.2.2.2.2.1
  have h2 : lo ≤ R.locals := X.2.2.2.2.2.2.2.2.2.1
  exact ⟨rfl, rfl, by show fr2 + 1 ≤ R.frames; omega, by show 8 + (n2 + 11) + lo2 ≤ R.locals; omega, fun w hw a' U hW => by
    rw [List.mem_singleton.mp hw]
    exact (hKn.warm hW).use hy.1 a', List.mem_singleton.mpr rfl, hKn.use hy.1 args, hKn.use hy.2.1 args, hy.2.2.1, nk_par hy.2.2.2, hKn.use wl args⟩
theorem nk_cN {host : String} {p : Program} {R : Room} {s : State} {m : MethodId} {meth : Method} {c : Code} {mc ms : Nat} (args : Array Value) (X : nk_X G l own cc nL ret fr lo ini p R s m meth c) (hy : nk_My y c2 n2 r2 n) (wl : Cond.methodLinkNest own i y host ∈ nk_T) (hfr : fr2 + 1 ≤ fr) (hlo : 8 + (n2 + 11) + lo2 ≤ lo) :
    va_CN R s args own i y host c2 n2 r2 [Cond.code y c2 n2 r2] { frames := fr2, cells := mc, slots := ms, locals := lo2 } mc ms n := by
  have hKn := X.2.2.2.2.2.2.1
  have h1 : fr ≤ R.frames := X.2.2.2.2.2.2.2.2.1
  have h2 : lo ≤ R.locals := X.2.2.2.2.2.2.2.2.2.1
  exact ⟨⟨rfl, rfl, by show fr2 + 1 ≤ R.frames; omega, by show 8 + (n2 + 11) + lo2 ≤ R.locals; omega, fun w hw a' U hW => by
    rw [List.mem_singleton.mp hw]
    exact (hKn.warm hW).use hy.1 a', List.mem_singleton.mpr rfl⟩, hKn.use hy.1 args, hKn.use hy.2.1 args, hy.2.2.1, nk_par hy.2.2.2, hKn.use wl args⟩
/-- a static method -/
theorem nk_callS (con : nk_Con G l y c2 n2 r2 fr2 lo2 en2 vs h g) (d : decode cc pc = .ok (.invokestatic i, 3)) (hy : nk_My y c2 n2 r2 n) (ws : Cond.static y ∈ nk_T) (wl : Cond.methodLink own i y ∈ nk_T) (hst : st0 = vs.reverse ++ st) (hn : vs.length = n) (h8 : st.length ≤ 8) (hfr : fr2 + 1 ≤ fr) (hlo : 8 + (n2 + 11) + lo2 ≤ lo) : nk_Go G l own cc nL ret fr lo ini pc lv st0 st h en2 g := by
  subst hst
  intro h1 r hg
  obtain ⟨g1, g2, hM⟩ := con h1 r hg
  refine ⟨g1, g2, fun p e R s m args below meth c X cells slots hc hs H ls locs hR hl => ?_⟩
  have hKn := X.2.2.2.2.2.2.1
  exact ⟨_, vx_runS (Ts := []) (own := own) (cc := cc) (nL := nL) (As := nk_vs vs) ⟨X.1, X.2.1, X.2.2.1, X.2.2.2.2.2.1, fun w hw => nomatch hw⟩ hM ⟨nk_cB args X hy wl hfr hlo, hKn.use ws args⟩ ⟨nk_blind G h vs, nk_stS X hR _ rfl⟩ rfl (by rw [← hn]; exact List.length_map _) hl.1 (nk_revs vs st) (lv_room (by rw [nk_sum]; exact h8)) d ⟨hc, hs⟩⟩
theorem nk_callSN {host : String} (con : nk_Con G l y c2 n2 r2 fr2 lo2 en2 vs h g) (d : decode cc pc = .ok (.invokestatic i, 3)) (hy : nk_My y c2 n2 r2 n) (ws : Cond.static y ∈ nk_T) (wl : Cond.methodLinkNest own i y host ∈ nk_T) (hst : st0 = vs.reverse ++ st) (hn : vs.length = n) (h8 : st.length ≤ 8) (hfr : fr2 + 1 ≤ fr) (hlo : 8 + (n2 + 11) + lo2 ≤ lo) : nk_Go G l own cc nL ret fr lo ini pc lv st0 st h en2 g := by
  subst hst
  intro h1 r hg
  obtain ⟨g1, g2, hM⟩ := con h1 r hg
  refine ⟨g1, g2, fun p e R s m args below meth c X cells slots hc hs H ls locs hR hl => ?_⟩
  have hKn := X.2.2.2.2.2.2.1
  exact ⟨_, vx_runSN (Ts := []) (own := own) (cc := cc) (nL := nL) (As := nk_vs vs) ⟨X.1, X.2.1, X.2.2.1, X.2.2.2.2.2.1, fun w hw => nomatch hw⟩ hM ⟨nk_cN args X hy wl hfr hlo, hKn.use ws args, trivial⟩ ⟨nk_blind G h vs, nk_stS X hR _ rfl⟩ rfl (by rw [← hn]; exact List.length_map _) hl.1 (nk_revs vs st) (lv_room (by rw [nk_sum]; exact h8)) d ⟨hc, hs⟩⟩
/-- a constructor -/
theorem nk_callI {a : Nat} (con : nk_Con G l y c2 n2 none fr2 lo2 en2 (.inr (some a) :: vs) h g) (d : decode cc pc = .ok (.invokespecial i, 3)) (hy : nk_My y c2 n2 none n) (hy1 : y.name = "<init>") (wi : Cond.instanceMethod y ∈ nk_T) (wl : Cond.methodLink own i y ∈ nk_T) (hst : st0 = vs.reverse ++ .inr (some a) :: st) (hn : vs.length = n) (h8 : st.length ≤ 8) (hfr : fr2 + 1 ≤ fr) (hlo : 8 + (n2 + 11) + lo2 ≤ lo) : nk_Go G l own cc nL ret fr lo ini pc lv st0 st h en2 g := by
  subst hst
  intro h1 r hg
  obtain ⟨g1, g2, hM⟩ := con h1 r hg
  refine ⟨g1, g2, fun p e R s m args below meth c X cells slots hc hs H ls locs hR hl => ?_⟩
  have hKn := X.2.2.2.2.2.2.1
  exact ⟨_, vx_runI (Ts := []) (own := own) (cc := cc) (nL := nL) (b := a) (As := nk_vs vs) ⟨X.1, X.2.1, X.2.2.1, X.2.2.2.2.2.1, fun w hw => nomatch hw⟩ hM ⟨nk_cB args X hy wl hfr hlo, hy1, hKn.use wi args⟩ ⟨nk_blind G h _, nk_stS X hR _ rfl⟩ rfl (by rw [← hn]; exact List.length_map _) hl.1 (nk_revs vs _) (lv_room (by rw [nk_sum]; exact h8)) d ⟨hc, hs⟩⟩
theorem nk_callIN {host : String} {a : Nat} (con : nk_Con G l y c2 n2 none fr2 lo2 en2 (.inr (some a) :: vs) h g) (d : decode cc pc = .ok (.invokespecial i, 3)) (hy : nk_My y c2 n2 none n) (hy1 : y.name = "<init>") (wi : Cond.instanceMethod y ∈ nk_T) (wl : Cond.methodLinkNest own i y host ∈ nk_T) (hst : st0 = vs.reverse ++ .inr (some a) :: st) (hn : vs.length = n) (h8 : st.length ≤ 8) (hfr : fr2 + 1 ≤ fr) (hlo : 8 + (n2 + 11) + lo2 ≤ lo) : nk_Go G l own cc nL ret fr lo ini pc lv st0 st h en2 g := by
  subst hst
  intro h1 r hg
  obtain ⟨g1, g2, hM⟩ := con h1 r hg
  refine ⟨g1, g2, fun p e R s m args below meth c X cells slots hc hs H ls locs hR hl => ?_⟩
  have hKn := X.2.2.2.2.2.2.1
  exact ⟨_, vx_runIN (Ts := []) (own := own) (cc := cc) (nL := nL) (b := a) (As := nk_vs vs) ⟨X.1, X.2.1, X.2.2.1, X.2.2.2.2.2.1, fun w hw => nomatch hw⟩ hM ⟨nk_cN args X hy wl hfr hlo, hy1, hKn.use wi args⟩ ⟨nk_blind G h _, nk_stS X hR _ rfl⟩ rfl (by rw [← hn]; exact List.length_map _) hl.1 (nk_revs vs _) (lv_room (by rw [nk_sum]; exact h8)) d ⟨hc, hs⟩⟩
/-- the receiver's cell -/
theorem nk_recv {s : State} {H : Heap} (hKn : nk_Kn G s) (hR : nk_R G h H) {a ci : Nat} {q : vw_C} (hk : nk_K h a = ci + 7) (hq : nk_cl[ci]? = some q) : ∃ cell : Cell, H[a]? = some cell ∧ cell.vm.isStatics = false ∧ s.vm.findClass q.1 = some cell.cls := by
  obtain ⟨cell, q1, q2, q3, q4⟩ := (hR.2.2.2.2.1 a ci q hk hq).2.2
  exact ⟨cell, q1, by rw [q3]; rfl, by rw [q2]; exact (hKn.2.1.1 ci q hq).2.1⟩
/-- a method of the receiver's own class -/
theorem nk_callV {a ci : Nat} {q : vw_C} (con : nk_Con G l y c2 n2 r2 fr2 lo2 en2 (.inr (some a) :: vs) h g) (d : decode cc pc = .ok (.invokevirtual i, 3)) (hk : nk_K h a = ci + 7) (hq : nk_cl[ci]? = some q) (hC : q.1 = y.cls) (hy : nk_My y c2 n2 r2 n) (wi : Cond.instanceMethod y ∈ nk_T) (wse : Cond.selects y.cls y y ∈ nk_T) (wl : Cond.methodLink own i y ∈ nk_T) (hst : st0 = vs.reverse ++ .inr (some a) :: st) (hn : vs.length = n) (h8 : st.length ≤ 8) (hfr : fr2 + 1 ≤ fr) (hlo : 8 + (n2 + 11) + lo2 ≤ lo) : nk_Go G l own cc nL ret fr lo ini pc lv st0 st h en2 g := by
  subst hst
  intro h1 r hg
  obtain ⟨g1, g2, hM⟩ := con h1 r hg
  refine ⟨g1, g2, fun p e R s m args below meth c X cells slots hc hs H ls locs hR hl => ?_⟩
  have hKn := X.2.2.2.2.2.2.1
  exact ⟨_, vx_runV (Ts := []) (own := own) (C := y.cls) (cc := cc) (nL := nL) (b := a) (As := nk_vs vs) ⟨X.1, X.2.1, X.2.2.1, X.2.2.2.2.2.1, fun w hw => nomatch hw⟩ hM ⟨nk_cB args X hy wl hfr hlo, hKn.use wi args, hKn.use wse args⟩ ⟨nk_blind G h _, by rw [← hC]; exact nk_recv hKn hR hk hq, nk_stS X hR _ rfl⟩ rfl (by rw [← hn]; exact List.length_map _) hl.1 (nk_revs vs _) (lv_room (by rw [nk_sum]; exact h8)) d ⟨hc, hs⟩⟩
/-- a method that is named in a class above the receiver's -/
theorem nk_callU {x : MethodName} {owner : String} {a ci : Nat} {q : vw_C} (con : nk_Con G l y c2 n2 r2 fr2 lo2 en2 (.inr (some a) :: vs) h g) (d : decode cc pc = .ok (.invokevirtual i, 3)) (hk : nk_K h a = ci + 7) (hq : nk_cl[ci]? = some q) (hy : nk_My y c2 n2 r2 n) (wi : Cond.instanceMethod y ∈ nk_T) (wse : Cond.selects q.1 x y ∈ nk_T) (wl : Cond.methodLink own i x ∈ nk_T) (wsm : Cond.sameMethod x.cls owner x.name x.desc ∈ nk_T)
    (hx9 : (owner ≠ "java/lang/invoke/MethodHandle" ∧ owner ≠ "java/lang/invoke/VarHandle") ∧ (parseMethodDescriptor x.desc).map (fun d => d.parameters.length) = some n) {c3 : ByteArray} {n3 : Nat} {r3 : Option FieldType} (wd : Cond.instanceMethod ⟨owner, x.name, x.desc⟩ ∈ nk_T) (wd2 : Cond.code ⟨owner, x.name, x.desc⟩ c3 n3 r3 ∈ nk_T)
    (hst : st0 = vs.reverse ++ .inr (some a) :: st) (hn : vs.length = n) (h8 : st.length ≤ 8) (hfr : fr2 + 1 ≤ fr) (hlo : 8 + (n2 + 11) + lo2 ≤ lo) : nk_Go G l own cc nL ret fr lo ini pc lv st0 st h en2 g := by
  subst hst
  intro h1 r hg
  obtain ⟨g1, g2, hM⟩ := con h1 r hg
  refine ⟨g1, g2, fun p e R s m args below meth c X cells slots hc hs H ls locs hR hl => ?_⟩
  have hKn := X.2.2.2.2.2.2.1
  have h1 : fr ≤ R.frames := X.2.2.2.2.2.2.2.2.1
  have h2 : lo ≤ R.locals := X.2.2.2.2.2.2.2.2.2.1
  refine ⟨_, vx_runU (Ts := []) (own := own) (C := q.1) (owner := owner) (x := x) (cc := cc) (nL := nL) (b := a) (As := nk_vs vs) ⟨X.1, X.2.1, X.2.2.1, X.2.2.2.2.2.1, fun w hw => nomatch hw⟩ hM ⟨⟨rfl, rfl, by show fr2 + 1 ≤ R.frames; omega, by show 8 + (n2 + 11) + lo2 ≤ R.locals; omega, fun w hw a' U hW => by
    rw [List.mem_singleton.mp hw]
    exact (hKn.warm hW).use hy.1 a', List.mem_singleton.mpr rfl⟩, hKn.use hy.1 args, hKn.use hy.2.1 args, hx9.1, nk_par (y := x) hx9.2, hKn.use wl args, hKn.use wsm args, va_Decl.of (hKn.use wd args) (hKn.use wd2 args), hKn.use wse args, hKn.use wi args⟩ ⟨nk_blind G h _, nk_recv hKn hR hk hq, nk_stS X hR _ rfl⟩ rfl (by rw [← hn]; exact List.length_map _) hl.1 (nk_revs vs _) (lv_room (by rw [nk_sum]; exact h8)) d ⟨hc, hs⟩⟩
/-- a receiver's kind, asked -/
def nk_rcv (ks : List Nat) (h : nk_H) (p : Option Nat) : Option Nat := p.bind fun a => if nk_K h a ∈ ks then some a else none
end NKM
section NKE
variable {α : Type} {G : nk_G} {l : Launch} {own : String} {cc : ByteArray} {nL : Nat} {ret : Option FieldType} {fr lo : Nat} {ini : Bool} {en : α → Option Value ⊕ String} {pc : Nat} {lv : List (Nat × nk_V)} {st : List nk_V} {h : nk_H}
/-- the receiver is there, and of a kind -/
theorem nr_rcv {ks : List Nat} {pre : List nk_V} {x : Option Nat} {F : Nat → Option (nk_H × α)} (kk : ∀ a : Nat, nk_K h a ∈ ks → nk_Sim G l own cc nL ret fr lo ini en pc lv (pre ++ .inr (some a) :: st) h (F a)) : nk_Sim G l own cc nL ret fr lo ini en pc lv (pre ++ .inr x :: st) h ((nk_rcv ks h x).bind F) := by
  refine nk_bind (fun v hv => ?_)
  cases x with
  | none => cases hv
  | some a =>
    by_cases hm : nk_K h a ∈ ks
    · have e : a = v := Option.some.inj ((if_pos hm).symm.trans hv)
      subst e
      exact kk a hm
    · exact absurd ((if_neg hm).symm.trans hv) (fun z => nomatch z)
/-- from a body's walk to the method's contract -/
theorem nk_con {y : MethodName} {vs : List nk_V} {f : Option (nk_H × α)} (hy : plainName y.cls = true) (hl0 : l.flags = flags0) (hlen : vs.length ≤ nL) (hini : ini = true → y.name = "<init>")
    (k : nk_Sim G l y.cls cc nL ret fr lo ini en 0 (vs.zipIdx.map fun q => (q.2, q.1)) [] h f) (hnl : nk_nl y.cls cc := by exact Or.inl (by decide)) (hnh : y.cls = "NotaryKioskLaw" → ∀ q ∈ nk_hhl, q.1 ≠ cc := by exact fun e9 => absurd e9 (by decide)) : nk_Con G l y cc nL ret fr lo en vs h f := by
  intro h' r hf
  obtain ⟨k1, k2, k3⟩ := k h' r hf
  refine ⟨k1, k2, vx_ofW (ws' := []) hy rfl ?_⟩
  intro p e s m args below meth c s₁ B hml htab ⟨hargs, hR, hKn⟩
  subst hargs
  have hb9 : s.heap.size = nk_N h := hR.1
  have hsl : lg_sl (nk_vs vs) = (nk_vs vs).map Slot.val := nk_sl vs
  have hh : lv_has ((lg_sl (nk_vs vs) ++ List.replicate (nL - (lg_sl (nk_vs vs)).length) Slot.unset).toArray) nL (lv_args 0 (nk_vs vs)) := lv_entry (nk_vs vs) (by rw [hsl]; simpa [nk_vs] using hlen)
  have hargs : lv_args 0 (nk_vs vs) = nk_lv (vs.zipIdx.map fun q => (q.2, q.1)) := nk_args vs 0
  rw [hargs] at hh
  have X : nk_X G l y.cls cc nL ret fr lo ini p (headSpec [Cond.code y cc nL ret] { frames := fr, cells := nk_N h' - nk_N h, slots := nk_S h' - nk_S h, locals := lo }).room s m meth c :=
    ⟨B.exec, B.bytes, hml, B.returns, B.notSynchronized, findClass_of_methodNamed B.named, hKn, ⟨by rw [hb9]; exact hR.2.1, hR.2.2.1⟩, Nat.le_refl _, Nat.le_refl _, ⟨fun _ => htab, fun e9 q hq he => absurd he (hnh e9 q hq)⟩, nk_noTrace hl0, fun hi => by rw [(name_of_methodNamed B.named B.method).1]; exact hini hi⟩
  have := k3 p e _ s m (nk_vs vs).toArray below meth c X (nk_S h) (by omega) (Nat.le_refl _) (by rw [hb9]; exact Nat.le_refl _) (Nat.le_refl _) s.heap _ [] hR hh (fun q hq => nomatch hq)
  rw [hb9, Nat.sub_self, Nat.sub_self] at this
  rw [lg_entry_eq]
  exact this
end NKE
