/-! ===== the law's own rows: its methods that catch; longs; the script; the switch ===== -/
def nk_IX : String := "java/lang/IndexOutOfBoundsException"
def nk_IA : String := "java/lang/IllegalArgumentException"
def nk_IS : String := "java/lang/IllegalStateException"
abbrev nk_Hs : Type := List ((Nat × Nat × Nat × Nat) × String)
/-- which row of a table takes a class, counted from n -/
def nk_kx : nk_Hs → Nat → String → Option Nat
  | [], _, _ => none
  | z :: t, n, E => if E = z.2 then some n else nk_kx t (n + 1) E
theorem nk_kx_spec : ∀ (hs : nk_Hs) (n : Nat) (E : String) (r : Nat), nk_kx hs n E = some r → ∃ (pre : nk_Hs) (x : (Nat × Nat × Nat × Nat) × String) (suf : nk_Hs), hs = pre ++ x :: suf ∧ x.2 = E ∧ (∀ z ∈ pre, z.2 ≠ E) ∧ r = n + pre.length
  | [], _, _, _, h => nomatch h
  | z :: t, n, E, r, h => by
    by_cases e : E = z.2
    · have h2 : n = r := Option.some.inj ((if_pos e).symm.trans h)
      exact ⟨[], z, t, rfl, e.symm, (fun _ hz => nomatch hz), h2.symm⟩
    · have h2 : nk_kx t (n + 1) E = some r := (if_neg e).symm.trans h
      obtain ⟨pre, x, suf, h3, h4, h5, h6⟩ := nk_kx_spec t (n + 1) E r h2
      refine ⟨z :: pre, x, suf, by rw [h3]; rfl, h4, fun y hy => ?_, by rw [h6, List.length_cons]; omega⟩
      rcases List.mem_cons.mp hy with rfl | hy
      · exact fun e2 => e e2.symm
      · exact h5 y hy
/-- a handler: it stores the thrown object and answers -9999999 -/
def nk_hdAt (cc : ByteArray) (nL hpc : Nat) : Prop :=
  ∃ k i : Nat, decode cc hpc = .ok (.astore k, 2) ∧ k < nL ∧ decode cc (hpc + 2) = .ok (.ldc i, 2) ∧ Cond.constant "NotaryKioskLaw" i (-9999999) ∈ nk_T ∧ decode cc (hpc + 4) = .ok (.ireturn, 1)
def nk_Hok (own : String) (cc : ByteArray) (nL pc : Nat) : nk_Hs → Nat → Prop
  | [], _ => True
  | z :: t, n => (z.1.1 ≤ pc ∧ pc < z.1.2.1 ∧ z.1.2.2.2 ≠ 0 ∧ Cond.classLink own z.1.2.2.2 z.2 ∈ nk_T ∧ z.2 ∈ [nk_IX, nk_IA, nk_IS] ∧ nk_hdAt cc nL z.1.2.2.1) ∧ nk_Hok own cc nL pc t (n + 1)
theorem nk_Hok.at {own : String} {cc : ByteArray} {nL pc : Nat} {x : (Nat × Nat × Nat × Nat) × String} {suf : nk_Hs} : ∀ {pre : nk_Hs} {n : Nat}, nk_Hok own cc nL pc (pre ++ x :: suf) n →
    (∀ z ∈ pre, z.1.2.2.2 ≠ 0 ∧ Cond.classLink own z.1.2.2.2 z.2 ∈ nk_T ∧ z.2 ∈ [nk_IX, nk_IA, nk_IS]) ∧ (x.1.1 ≤ pc ∧ pc < x.1.2.1 ∧ x.1.2.2.2 ≠ 0 ∧ Cond.classLink own x.1.2.2.2 x.2 ∈ nk_T ∧ x.2 ∈ [nk_IX, nk_IA, nk_IS] ∧ nk_hdAt cc nL x.1.2.2.1)
  | [], n, h => ⟨(fun _ hz => nomatch hz), h.1⟩
  | z :: t, n, h => by
    obtain ⟨a, b⟩ := nk_Hok.at (pre := t) (n := n + 1) h.2
    refine ⟨fun y hy => ?_, ?_⟩
    · rcases List.mem_cons.mp hy with rfl | hy
      · exact ⟨h.1.2.2.1, h.1.2.2.2.1, h.1.2.2.2.2.1⟩
      · exact a y hy
    · exact b
theorem nk_ca_IX : Cond.castable nk_IX nk_IX ∈ nk_T := nk_in (i := 222) (by decide +kernel) rfl
theorem nk_ca_IA : Cond.castable nk_IA nk_IA ∈ nk_T := nk_in (i := 290) (by decide +kernel) rfl
theorem nk_ca_IS : Cond.castable nk_IS nk_IS ∈ nk_T := nk_in (i := 316) (by decide +kernel) rfl
theorem nk_ca3 {E : String} (h : E ∈ [nk_IX, nk_IA, nk_IS]) : Cond.castable E E ∈ nk_T := by
  simp only [List.mem_cons, List.not_mem_nil, or_false] at h
  rcases h with rfl | rfl | rfl
  · exact nk_ca_IX
  · exact nk_ca_IA
  · exact nk_ca_IS
theorem nk_nc3 {E F : String} (h : E ∈ [nk_IX, nk_IA, nk_IS]) (h2 : F ∈ [nk_IX, nk_IA, nk_IS]) (hne : F ≠ E) : (E, F) ∈ nk_ncs := by
  simp only [List.mem_cons, List.not_mem_nil, or_false] at h h2
  rcases h with rfl | rfl | rfl <;> rcases h2 with rfl | rfl | rfl <;> first | exact absurd rfl hne | decide +kernel
section NKL
variable {β : Type} {G : nk_G} {l : Launch} {cc : ByteArray} {nL : Nat} {ret : Option FieldType} {fr lo : Nat} {ini : Bool} {en2 : β → Option Value ⊕ String} {pc : Nat} {lv : List (Nat × nk_V)} {st0 st : List nk_V} {h : nk_H} {g : Option (nk_H × β)}
theorem nk_handler {hpc : Nat} (hd : nk_hdAt cc nL hpc) (hret : ret = some .int) (q : Nat) (h1 : nk_H) : nk_Sim G l "NotaryKioskLaw" cc nL ret fr lo ini nk_eI hpc lv [.inr (some q)] h1 (some (h1, (-9999999))) := by
  obtain ⟨k, i, d1, d2, d3, w, d4⟩ := hd
  exact nr_astore d1 d2 rfl (nr_ldc d3 w (nr_iret rfl hret d4))
/-- a call whose throws are caught -/
theorem nk_callW (hs : nk_Hs) {F : nk_H × β → Option (nk_H × Int32)} (go : nk_Go G l "NotaryKioskLaw" cc nL ret fr lo ini pc lv st0 st h en2 g)
    (kk : ∀ (h1 : nk_H) (r : β) (v : Option Value), en2 r = .inl v → ∃ t : List nk_V, v.toList = nk_vs t ∧ nk_Sim G l "NotaryKioskLaw" cc nL ret fr lo ini nk_eI (pc + 3) lv (t ++ st) h1 (F (h1, r)))
    (kx : ∀ (h1 : nk_H) (r : β) (E : String), en2 r = .inr E → F (h1, r) = (nk_kx hs 1 E).map fun _ => (h1, (-9999999)))
    (hret : ret = some .int) (hm : (cc, hs.map Prod.fst) ∈ nk_hhl) (hok : nk_Hok "NotaryKioskLaw" cc nL pc hs 1) : nk_Sim G l "NotaryKioskLaw" cc nL ret fr lo ini nk_eI pc lv st0 h (g.bind F) := by
  intro h' r' hf
  cases hg : g with
  | none => rw [hg] at hf; cases hf
  | some x =>
    obtain ⟨h1, r⟩ := x
    rw [hg] at hf
    have hf2 : F (h1, r) = some (h', r') := hf
    obtain ⟨g1, g2, g3⟩ := go h1 r hg
    cases ho : en2 r with
    | inl v =>
      obtain ⟨t, ht, k⟩ := kk h1 r v ho
      obtain ⟨k1, k2, k3⟩ := k h' r' hf2
      refine ⟨Nat.le_trans g1 k1, Nat.le_trans g2 k2, fun p e R s m args below meth c X sb b1 b2 b3 b4 H ls locs hR hl hq => ?_⟩
      obtain ⟨a, hrun⟩ := g3 p e R s m args below meth c X (nk_N h - s.heap.size) (nk_S h - sb) (by omega) (by omega) H ls locs hR hl
      intro T hT X0
      rcases hrun T hT X0 with ⟨w, st₀, t9, T', L, h0, X', hL, e1, e2, ⟨hR1, v9, hv, hw⟩, stp⟩ | ⟨q, st₀, t9, T', L, E, ce, h0, X', hL, e1, e2, ⟨hR1, hv⟩, -⟩
      · rw [ho] at hv
        cases hv
        cases hw
        have k4 := k3 p e R s m args below meth c X sb (by omega) (by omega) b3 b4 t9.heap ls (locs ++ L) hR1 hl (fun q hq9 => (List.mem_append.mp hq9).elim (hq q) (hL q))
        rw [show nk_N h1 - s.heap.size = nk_N h - s.heap.size + (nk_N h1 - nk_N h) by omega, show nk_S h1 - sb = nk_S h - sb + (nk_S h1 - nk_S h) by omega] at k4
        obtain ⟨t2, a1, b9⟩ := k4 T' e1 X'
        refine ⟨t2, stp t2 ?_, b9⟩
        show Steps p.tables e below (T'.setTop (F0 m (pc + 3) ls (v.toList ++ nk_vs st))) t2
        rw [ht]
        have e5 : nk_vs (t ++ st) = nk_vs t ++ nk_vs st := List.map_append
        rw [← e5]
        exact a1
      · rw [ho] at hv; cases hv
    | inr E =>
      have hF := kx h1 r E ho
      rw [hF] at hf2
      cases hkx : nk_kx hs 1 E with
      | none => rw [hkx] at hf2; cases hf2
      | some n9 =>
      rw [hkx] at hf2
      cases hf2
      obtain ⟨pre, x, suf, hsp, hxE, hpre, hn9⟩ := nk_kx_spec hs 1 E n9 hkx
      refine ⟨g1, g2, fun p e R s m args below meth c X sb b1 b2 b3 b4 H ls locs hR hl hq => ?_⟩
      obtain ⟨a, hrun⟩ := g3 p e R s m args below meth c X (nk_N h - s.heap.size) (nk_S h - sb) (by omega) (by omega) H ls locs hR hl
      intro T hT X0
      rcases hrun T hT X0 with ⟨w, st₀, t9, T', L, h0, X', hL, e1, e2, ⟨hR1, v9, hv, hw⟩, -⟩ | ⟨q, st₀, t9, T', L, E9, ce, h0, X', hL, e1, e2, ⟨hR1, hv⟩, hce, hcv, hcl, stp⟩
      · rw [ho] at hv; cases hv
      · rw [ho] at hv
        cases hv
        have XX := X
        obtain ⟨hx, hb, hml, hr, hlk, hown, hKn, hG, hRf, hRl, htab, hst, hin⟩ := XX
        have htb := htab.2 rfl _ hm rfl
        subst hsp
        obtain ⟨o1, o2, o3, o4, o5, o6, o7⟩ := hok.at
        rw [hxE] at o5 o6
        unfold nk_rows at htb
        rw [List.map_append, List.map_cons] at htb
        obtain ⟨pre', suf', hs1, hs2, hs3⟩ := List.map_eq_append_iff.mp htb
        obtain ⟨x', suf9, hs4, hs5, hs6⟩ := List.map_eq_cons_iff.mp hs3
        subst hs4
        have ex : x'.startPc = x.1.1 ∧ x'.endPc = x.1.2.1 ∧ x'.handlerPc = x.1.2.2.1 ∧ x'.catchType = x.1.2.2.2 := by
          rw [← hs5]; exact ⟨rfl, rfl, rfl, rfl⟩
        have kS := nk_handler (G := G) (l := l) (ret := ret) (fr := fr) (lo := lo) (ini := ini) (lv := lv) o7 hret q h'
        obtain ⟨-, -, k3⟩ := kS h' _ rfl
        have k4 := k3 p e R s m args below meth c X sb (by omega) (by omega) b3 b4 t9.heap ls (locs ++ L) hR1 hl (fun q hq9 => (List.mem_append.mp hq9).elim (hq q) (hL q))
        rw [show nk_N h' - s.heap.size = nk_N h - s.heap.size + (nk_N h' - nk_N h) by omega, show nk_S h' - sb = nk_S h - sb + (nk_S h' - nk_S h) by omega] at k4
        rw [show nk_N h' - s.heap.size = nk_N h - s.heap.size + (nk_N h' - nk_N h) by omega, show nk_S h' - sb = nk_S h - sb + (nk_S h' - nk_S h) by omega]
        have kC := vx_catch (rest := nk_vs st) (pc := pc) (ls := ls) (name := E) (E := E) (ce := ce) (q := q) (H := t9.heap) (locs := locs ++ L) (cells := nk_N h - s.heap.size + (nk_N h' - nk_N h)) (slots := nk_S h - sb + (nk_S h' - nk_S h)) hown pre' x' suf9 hs1 (fun z hz => by
            have hzm : (z.startPc, z.endPc, z.handlerPc, z.catchType) ∈ List.map Prod.fst pre := by rw [← hs2]; exact List.mem_map.mpr ⟨z, hz, rfl⟩
            obtain ⟨y, hy, hye⟩ := List.mem_map.mp hzm
            obtain ⟨p1, p2, p3⟩ := o1 y hy
            have e9 : z.catchType = y.1.2.2.2 := by rw [hye]
            refine Or.inr ⟨by rw [e9]; exact p1, y.2, by rw [e9]; exact hKn.use p2 args, hKn.2.2.2.2.2.2.2.2.2.2.2 _ (nk_nc3 o6 p3 (hpre y hy))⟩)
          (by unfold covers; rw [ex.1, ex.2.1]; simp [o2, o3]) (by rw [ex.2.2.2]; exact o4) (by rw [ex.2.2.2]; exact hKn.use o5 args) (hKn.use (nk_ca3 o6) args) hce hcv hcl (by rw [ex.2.2.1]; exact k4)
        obtain ⟨t2, a1, b9⟩ := kC T' e1 X'
        exact ⟨t2, stp.trans a1, b9⟩
/-- a try around a call -/
def nk_try {γ : Type} (hs : nk_Hs) (g : Option (nk_H × (γ ⊕ String))) (K : nk_H → γ → Option (nk_H × Int32)) : Option (nk_H × Int32) := g.bind fun x => match x.2 with
  | .inl v => K x.1 v
  | .inr E => (nk_kx hs 1 E).map fun n => (x.1, Int32.ofInt n)
/-- a try around a call, in this law: whatever is thrown, -9999999 -/
def nk_tr {γ : Type} (hs : nk_Hs) (g : Option (nk_H × (γ ⊕ String))) (K : nk_H → γ → Option (nk_H × Int32)) : Option (nk_H × Int32) := g.bind fun x => match x.2 with
  | .inl v => K x.1 v
  | .inr E => (nk_kx hs 1 E).map fun _ => (x.1, (-9999999))
theorem nr_tryI (hs : nk_Hs) {K : nk_H → Int32 → Option (nk_H × Int32)} {g : Option (nk_H × (Int32 ⊕ String))} (go : nk_Go G l "NotaryKioskLaw" cc nL ret fr lo ini pc lv st0 st h nk_eIt g) (hret : ret = some .int) (hm : (cc, hs.map Prod.fst) ∈ nk_hhl) (hok : nk_Hok "NotaryKioskLaw" cc nL pc hs 1)
    (kk : ∀ h1 v, nk_Sim G l "NotaryKioskLaw" cc nL ret fr lo ini nk_eI (pc + 3) lv (.inl v :: st) h1 (K h1 v)) : nk_Sim G l "NotaryKioskLaw" cc nL ret fr lo ini nk_eI pc lv st0 h (nk_tr hs g K) :=
  nk_callW hs go (fun h1 r v hv => by
    cases r with
    | inl u => cases hv; exact ⟨[.inl u], rfl, kk h1 u⟩
    | inr E => cases hv) (fun h1 r E hE => by
    cases r with
    | inl u => cases hE
    | inr E9 => cases hE; rfl) hret hm hok
theorem nr_tryV (hs : nk_Hs) {K : nk_H → Unit → Option (nk_H × Int32)} {g : Option (nk_H × (Unit ⊕ String))} (go : nk_Go G l "NotaryKioskLaw" cc nL ret fr lo ini pc lv st0 st h nk_eVt g) (hret : ret = some .int) (hm : (cc, hs.map Prod.fst) ∈ nk_hhl) (hok : nk_Hok "NotaryKioskLaw" cc nL pc hs 1)
    (kk : ∀ h1, nk_Sim G l "NotaryKioskLaw" cc nL ret fr lo ini nk_eI (pc + 3) lv st h1 (K h1 ())) : nk_Sim G l "NotaryKioskLaw" cc nL ret fr lo ini nk_eI pc lv st0 h (nk_tr hs g K) :=
  nk_callW hs go (fun h1 r v hv => by
    cases r with
    | inl u => cases hv; exact ⟨[], rfl, kk h1⟩
    | inr E => cases hv) (fun h1 r E hE => by
    cases r with
    | inl u => cases hE
    | inr E9 => cases hE; rfl) hret hm hok
/-- the contract of a method with a table; its call -/
def nk_ConW {α : Type} (G : nk_G) (l : Launch) (y : MethodName) (cc : ByteArray) (nL : Nat) (ret : Option FieldType) (hh : List (Nat × Nat × Nat × Nat)) (fr lo : Nat) (en : α → Option Value ⊕ String) (vs : List nk_V) (h : nk_H) (f : Option (nk_H × α)) : Prop :=
  ∀ (h' : nk_H) (r : α), f = some (h', r) → nk_N h ≤ nk_N h' ∧ nk_S h ≤ nk_S h' ∧
    vx_Met l y [Cond.codeWith y cc nL ret hh] { frames := fr, cells := nk_N h' - nk_N h, slots := nk_S h' - nk_S h, locals := lo } (nk_Pc G h vs) (nk_Qc G h' (en r)) (nk_XC G h' (en r)) (nk_N h' - nk_N h) (nk_S h' - nk_S h) (nk_fr G)
theorem nk_conW {α : Type} {en : α → Option Value ⊕ String} {y : MethodName} {hh : List (Nat × Nat × Nat × Nat)} {vs : List nk_V} {f : Option (nk_H × α)} (hy : plainName y.cls = true) (hl0 : l.flags = flags0) (hlen : vs.length ≤ nL) (hini : ini = true → y.name = "<init>") (hnl : y.cls = "NotaryKioskLaw") (hu : ∀ q ∈ nk_hhl, q.1 = cc → hh = q.2)
    (k : nk_Sim G l y.cls cc nL ret fr lo ini en 0 (vs.zipIdx.map fun q => (q.2, q.1)) [] h f) (hnn : ∀ q ∈ nk_nls, q ≠ cc := by decide +kernel) : nk_ConW G l y cc nL ret hh fr lo en vs h f := by
  intro h' r hf
  obtain ⟨k1, k2, k3⟩ := k h' r hf
  refine ⟨k1, k2, vx_ofWH (ws' := []) (maxL := nL) (cc := cc) (ret := ret) (hh := hh) hy rfl ?_⟩
  intro p e s m args below meth c s₁ B hml ⟨hargs, hR, hKn⟩
  subst hargs
  have hb9 : s.heap.size = nk_N h := hR.1
  have hsl : lg_sl (nk_vs vs) = (nk_vs vs).map Slot.val := nk_sl vs
  have hh0 : lv_has ((lg_sl (nk_vs vs) ++ List.replicate (nL - (lg_sl (nk_vs vs)).length) Slot.unset).toArray) nL (lv_args 0 (nk_vs vs)) := lv_entry (nk_vs vs) (by rw [hsl]; simpa [nk_vs] using hlen)
  have hargs : lv_args 0 (nk_vs vs) = nk_lv (vs.zipIdx.map fun q => (q.2, q.1)) := nk_args vs 0
  rw [hargs] at hh0
  obtain ⟨m9, meth9, c9, n1, n2, n3, -, -, n4, -⟩ := Cond.codeWith_spec (atoms_spec (ws := [Cond.codeWith y cc nL ret hh]) B.pre _ List.mem_cons_self)
  cases n1.symm.trans B.named
  cases n2.symm.trans B.method
  have hc9 : c9 = c := Option.some.inj (n3.symm.trans (by
    have h9 := B.here.code
    rw [B.state] at h9
    have h8 : (s.setFrames (.java (entryFrame m (nk_vs vs).toArray nL) :: below)).code? m = meth.code := by
      have h7 := B.method
      simp only [Vm.method?, bind, Option.bind_eq_some_iff] at h7
      obtain ⟨k, hk, hm7⟩ := h7
      simp [State.code?, State.setFrames, hk, hm7]
    exact h8.symm.trans h9))
  subst hc9
  have X : nk_X G l y.cls cc nL ret fr lo ini p (headSpec [Cond.codeWith y cc nL ret hh] { frames := fr, cells := nk_N h' - nk_N h, slots := nk_S h' - nk_S h, locals := lo }).room s m meth c9 :=
    ⟨B.exec, B.bytes, hml, B.returns, B.notSynchronized, findClass_of_methodNamed B.named, hKn, ⟨by rw [hb9]; exact hR.2.1, hR.2.2.1⟩, Nat.le_refl _, Nat.le_refl _, ⟨fun e9 => e9.elim (fun e8 => absurd hnl e8) (fun e8 => absurd rfl (hnn _ e8)), fun _ q hq9 he9 => n4.trans (hu q hq9 he9)⟩, nk_noTrace hl0, fun hi => by rw [(name_of_methodNamed B.named B.method).1]; exact hini hi⟩
  have := k3 p e _ s m (nk_vs vs).toArray below meth c9 X (nk_S h) (by omega) (Nat.le_refl _) (by rw [hb9]; exact Nat.le_refl _) (Nat.le_refl _) s.heap _ [] hR hh0 (fun q hq => nomatch hq)
  rw [hb9, Nat.sub_self, Nat.sub_self] at this
  rw [lg_entry_eq]
  exact this
def nk_MyW (y : MethodName) (cc : ByteArray) (nL : Nat) (ret : Option FieldType) (hh : List (Nat × Nat × Nat × Nat)) (n : Nat) : Prop := Cond.codeWith y cc nL ret hh ∈ nk_T ∧ Cond.initialized y.cls ∈ nk_T ∧ (y.cls ≠ "java/lang/invoke/MethodHandle" ∧ y.cls ≠ "java/lang/invoke/VarHandle") ∧ (parseMethodDescriptor y.desc).map (fun d => d.parameters.length) = some n
theorem nk_callSW {own : String} {y : MethodName} {c2 : ByteArray} {n2 fr2 lo2 i n : Nat} {r2 : Option FieldType} {hh : List (Nat × Nat × Nat × Nat)} {vs : List nk_V} (con : nk_ConW G l y c2 n2 r2 hh fr2 lo2 en2 vs h g) (d : decode cc pc = .ok (.invokestatic i, 3)) (hy : nk_MyW y c2 n2 r2 hh n) (ws : Cond.static y ∈ nk_T) (wl : Cond.methodLink own i y ∈ nk_T) (hst : st0 = vs.reverse ++ st) (hn : vs.length = n) (h8 : st.length ≤ 8) (hfr : fr2 + 1 ≤ fr) (hlo : 8 + (n2 + 11) + lo2 ≤ lo) : nk_Go G l own cc nL ret fr lo ini pc lv st0 st h en2 g := by
  subst hst
  intro h1 r hg
  obtain ⟨g1, g2, hM⟩ := con h1 r hg
  refine ⟨g1, g2, fun p e R s m args below meth c X cells slots hc hs H ls locs hR hl => ?_⟩
  have hKn := X.2.2.2.2.2.2.1
  have h1 : fr ≤ R.frames := X.2.2.2.2.2.2.2.2.1
  have h2 : lo ≤ R.locals := X.2.2.2.2.2.2.2.2.2.1
  exact ⟨_, vx_runSX (Ts := []) (own := own) (cc := cc) (nL := nL) (As := nk_vs vs) (hh := hh) ⟨X.1, X.2.1, X.2.2.1, X.2.2.2.2.2.1, fun w hw => nomatch hw⟩ hM ⟨⟨rfl, rfl, by show fr2 + 1 ≤ R.frames; omega, by show 8 + (n2 + 11) + lo2 ≤ R.locals; omega, fun w hw a' U hW => by
    rw [List.mem_singleton.mp hw]
    exact (hKn.warm hW).use hy.1 a', List.mem_singleton.mpr rfl⟩, hKn.use hy.1 args, hKn.use hy.2.1 args, hy.2.2.1, nk_par (y := y) hy.2.2.2, hKn.use wl args, hKn.use ws args⟩ ⟨nk_blind G h vs, nk_stS X hR _ rfl⟩ rfl (by rw [← hn]; exact List.length_map _) hl.1 (nk_revs vs st) (lv_room (by rw [nk_sum]; exact h8)) d ⟨hc, hs⟩⟩
end NKL
section NKQ
variable {α : Type} {G : nk_G} {l : Launch} {own : String} {cc : ByteArray} {nL : Nat} {ret : Option FieldType} {fr lo : Nat} {ini : Bool} {en : α → Option Value ⊕ String} {pc : Nat} {lv lv2 : List (Nat × nk_V)} {st : List nk_V} {h : nk_H} {f fA fB : Option (nk_H × α)}
/-- an int into an array of longs -/
def nk_wL (h : nk_H) (p : Option Nat) (i v : Int32) : Option nk_H := p.bind fun a => if nk_K h a = 6 ∧ ¬ i < 0 ∧ i.toNatClampNeg < nk_L h a then some (nk_sI h a i.toNatClampNeg v) else none
/-- two ways on, by the heap -/
theorem nk_ite2 {pa pb : Nat} {st2 : List nk_V} (P : Prop) [Decidable P] (step : ∀ (p : Program) (e : Env) (R : Room) (s : State) (m : MethodId) (args : Array Value) (below : List Frame) (meth : Method) (c : Code) (H : Heap) (locs : List Loc) (cells slots : Nat) (Q : State → Prop) (ls : Array Slot), nk_X G l own cc nL ret fr lo ini p R s m meth c → nk_R G h H → lv_has ls nL (nk_lv lv) →
      (P → W p l e R s m args below meth c H locs cells slots Q (F0 m pa ls (nk_vs st2))) → (¬ P → W p l e R s m args below meth c H locs cells slots Q (F0 m pb ls (nk_vs st2))) → W p l e R s m args below meth c H locs cells slots Q (F0 m pc ls (nk_vs st)))
    (ka : P → nk_Sim G l own cc nL ret fr lo ini en pa lv st2 h fA) (kb : ¬ P → nk_Sim G l own cc nL ret fr lo ini en pb lv st2 h fB) : nk_Sim G l own cc nL ret fr lo ini en pc lv st h (if P then fA else fB) := by
  intro h' r hf
  by_cases hP : P
  · rw [if_pos hP] at hf
    obtain ⟨k1, k2, k3⟩ := ka hP h' r hf
    refine ⟨k1, k2, fun p e R s m args below meth c X sb b1 b2 b3 b4 H ls locs hR hl hq => ?_⟩
    exact step p e R s m args below meth c H locs _ _ _ ls X hR hl (fun _ => k3 p e R s m args below meth c X sb b1 b2 b3 b4 H ls locs hR hl hq) (fun n => absurd hP n)
  · rw [if_neg hP] at hf
    obtain ⟨k1, k2, k3⟩ := kb hP h' r hf
    refine ⟨k1, k2, fun p e R s m args below meth c X sb b1 b2 b3 b4 H ls locs hR hl hq => ?_⟩
    exact step p e R s m args below meth c H locs _ _ _ ls X hR hl (fun y => absurd y hP) (fun _ => k3 p e R s m args below meth c X sb b1 b2 b3 b4 H ls locs hR hl hq)
/-- reading an array of longs, that holds ints -/
def nk_rL (h : nk_H) (p : Option Nat) (i : Int32) : Option Int32 := p.bind fun a => if nk_K h a = 6 ∧ ¬ i < 0 ∧ i.toNatClampNeg < nk_L h a then some (nk_I h a i.toNatClampNeg) else none
theorem nk_i64 {x y : Int32} : x.toInt64 = y.toInt64 ↔ x = y := by
  constructor
  · intro e
    have e2 := congrArg Int64.toInt e
    rw [Int32.toInt_toInt64, Int32.toInt_toInt64] at e2
    exact Int32.toInt_inj.mp e2
  · intro e; rw [e]
/-- the script -/
def nk_sx (G : nk_G) (i : Int32) : Option Int32 := if ¬ i < 0 ∧ i.toNatClampNeg < nk_gL G then some (nk_gX G i.toNatClampNeg) else none
theorem nr_sld {i : Int32} {F : Int32 → Option (nk_H × α)} (d : decode cc pc = .ok (.iaload, 1)) (kk : ∀ v, nk_Sim G l own cc nL ret fr lo ini en (pc + 1) lv (.inl v :: st) h (F v)) : nk_Sim G l own cc nL ret fr lo ini en pc lv (.inl i :: .inr (some (nk_gB G)) :: st) h ((nk_sx G i).bind F) := by
  refine nk_bind (fun v hv => ?_)
  by_cases hm : ¬ i < 0 ∧ i.toNatClampNeg < nk_gL G
  · have hv2 : nk_gX G i.toNatClampNeg = v := Option.some.inj ((if_pos hm).symm.trans hv)
    intro h' r hf
    obtain ⟨k1, k2, k3⟩ := kk v h' r hf
    refine ⟨k1, k2, fun p e R s m args below meth c X sb b1 b2 b3 b4 H ls locs hR hl hq => ?_⟩
    have hX := X.2.2.2.2.2.2.1.2.2.2.2.2.2.2.2
    subst hv2
    have hS : va_S (nk_fr G) (nk_gH G) H locs := ⟨by rw [hR.1]; exact hR.2.1, fun q h1 _ => hR.2.2.1 q h1, hq⟩
    exact va_sld X.1 X.2.1 hX.1 hX.2.1 (Nat.not_le.mpr hX.2.1) hS (fun z => z.elim hm.1 (Nat.not_le.mpr hm.2)) d (k3 p e R s m args below meth c X sb b1 b2 b3 b4 H ls locs hR hl hq)
  · exact absurd ((if_neg hm).symm.trans hv) (fun z => nomatch z)
theorem nr_slen (d : decode cc pc = .ok (.arraylength, 1)) (kk : nk_Sim G l own cc nL ret fr lo ini en (pc + 1) lv (.inl (Int32.ofNat (nk_gL G)) :: st) h f) : nk_Sim G l own cc nL ret fr lo ini en pc lv (.inr (some (nk_gB G)) :: st) h f := by
  intro h' r hf
  obtain ⟨k1, k2, k3⟩ := kk h' r hf
  refine ⟨k1, k2, fun p e R s m args below meth c X sb b1 b2 b3 b4 H ls locs hR hl hq => ?_⟩
  have hX := X.2.2.2.2.2.2.1.2.2.2.2.2.2.2.2
  have hS : va_S (nk_fr G) (nk_gH G) H locs := ⟨by rw [hR.1]; exact hR.2.1, fun q h1 _ => hR.2.2.1 q h1, hq⟩
  exact va_slen X.1 X.2.1 hX.1 hX.2.1 (Nat.not_le.mpr hX.2.1) hS d (k3 p e R s m args below meth c X sb b1 b2 b3 b4 H ls locs hR hl hq)
/-- the switch: by the value's place in the list of the targets -/
def nk_sw (L : List (Option (nk_H × α))) (d : Option (nk_H × α)) (x : Int32) : Option (nk_H × α) := if x < 0 then d else L.getD x.toNatClampNeg d
theorem nr_tsw {x : Int32} {dflt hi : Int} {offs : Array Int} {len tgt : Nat} {L : List (Option (nk_H × α))} (d : decode cc pc = .ok (.tableswitch dflt 0 hi offs, len)) (hn : offs.size = L.length) (hhi : hi + 1 = L.length) (ht : (pc : Int) + dflt = (tgt : Int)) (kd : nk_Sim G l own cc nL ret fr lo ini en tgt lv st h f)
    (ks : ∀ (j : Nat) (g : Option (nk_H × α)), L[j]? = some g → ∃ (off : Int) (t : Nat), offs[j]? = some off ∧ (pc : Int) + off = (t : Int) ∧ nk_Sim G l own cc nL ret fr lo ini en t lv st h g) : nk_Sim G l own cc nL ret fr lo ini en pc lv (.inl x :: st) h (nk_sw L f x) := by
  by_cases h0 : x < 0
  · have e : nk_sw L f x = f := if_pos h0
    rw [e]
    refine nk_pure (fun p e R s m args below meth c H locs cells slots Q ls X hR hl k9 => ?_) kd
    exact lv_tableOut X.1 X.2.1 d (Or.inl (by simpa using Int32.lt_iff_toInt_lt.mp h0)) ht (k9 ls hl)
  · have hx := nk_toI h0
    by_cases h1 : x.toNatClampNeg < L.length
    · have e : nk_sw L f x = L[x.toNatClampNeg] := by
        unfold nk_sw
        rw [if_neg h0, List.getD_eq_getElem?_getD, List.getElem?_eq_getElem h1]
        rfl
      rw [e]
      obtain ⟨off, t, o1, o2, o3⟩ := ks x.toNatClampNeg _ (List.getElem?_eq_getElem h1)
      refine nk_pure (fun p e R s m args below meth c H locs cells slots Q ls X hR hl k9 => ?_) o3
      exact lv_tableIn X.1 X.2.1 d (by rw [hx]; omega) (by rw [hx]; omega) (by rw [hx, show ((x.toNatClampNeg : Int) - 0).toNat = x.toNatClampNeg by omega]; exact o1) o2 (k9 ls hl)
    · have e : nk_sw L f x = f := by
        unfold nk_sw
        rw [if_neg h0, List.getD_eq_getElem?_getD, List.getElem?_eq_none (Nat.not_lt.mp h1)]
        rfl
      rw [e]
      refine nk_pure (fun p e R s m args below meth c H locs cells slots Q ls X hR hl k9 => ?_) kd
      exact lv_tableOut X.1 X.2.1 d (Or.inr (by rw [hx]; omega)) ht (k9 ls hl)
/-- the switch, its targets one by one -/
def nk_swok (G : nk_G) (l : Launch) (own : String) (cc : ByteArray) (nL : Nat) (ret : Option FieldType) (fr lo : Nat) (ini : Bool) (en : α → Option Value ⊕ String) (pc : Nat) (lv : List (Nat × nk_V)) (st : List nk_V) (h : nk_H) (offs : Array Int) : List (Option (nk_H × α)) → Nat → Prop
  | [], _ => True
  | g :: t, j => (∃ (off : Int) (tg : Nat), offs[j]? = some off ∧ (pc : Int) + off = (tg : Int) ∧ nk_Sim G l own cc nL ret fr lo ini en tg lv st h g) ∧ nk_swok G l own cc nL ret fr lo ini en pc lv st h offs t (j + 1)
theorem nk_swok_get {offs : Array Int} : ∀ (L : List (Option (nk_H × α))) (k j : Nat) (g : Option (nk_H × α)), nk_swok G l own cc nL ret fr lo ini en pc lv st h offs L k → L[j]? = some g → ∃ (off : Int) (tg : Nat), offs[k + j]? = some off ∧ (pc : Int) + off = (tg : Int) ∧ nk_Sim G l own cc nL ret fr lo ini en tg lv st h g
  | [], _, _, _, _, hj => by simp at hj
  | a :: t, k, 0, g, hw, hj => by
    have e : a = g := by simpa using hj
    subst e
    exact hw.1
  | a :: t, k, j + 1, g, hw, hj => by
    have := nk_swok_get t (k + 1) j g hw.2 (by simpa using hj)
    rw [show k + (j + 1) = k + 1 + j by omega]
    exact this
theorem nr_tswL {x : Int32} {dflt hi : Int} {offs : Array Int} {len tgt : Nat} {L : List (Option (nk_H × α))} (d : decode cc pc = .ok (.tableswitch dflt 0 hi offs, len)) (hn : offs.size = L.length) (hhi : hi + 1 = L.length) (ht : (pc : Int) + dflt = (tgt : Int)) (kd : nk_Sim G l own cc nL ret fr lo ini en tgt lv st h f) (ks : nk_swok G l own cc nL ret fr lo ini en pc lv st h offs L 0) : nk_Sim G l own cc nL ret fr lo ini en pc lv (.inl x :: st) h (nk_sw L f x) :=
  nr_tsw d hn hhi ht kd (fun j g hj => by
    have := nk_swok_get L 0 j g ks hj
    rw [Nat.zero_add] at this
    exact this)
end NKQ
