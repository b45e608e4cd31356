/-! ===== more rows: new objects, booleans' fields, stores of references, the lists' empty row, class objects, copies, grids ===== -/
section NKB
variable {α : Type} {G : nk_G} {l : Launch} {own : String} {cc : ByteArray} {nL : Nat} {ret : Option FieldType} {fr lo : Nat} {ini : Bool} {en : α → Option Value ⊕ String} {pc : Nat} {lv lv2 : List (Nat × nk_V)} {st : List nk_V} {h : nk_H} {f : Option (nk_H × α)}
theorem nr_newb {i w : Nat} (ci : Nat) {q : vw_C} {F : nk_H → Option (nk_H × α)} (hq : nk_cl[ci]? = some q) (d : decode cc pc = .ok (.new i, 3)) (w1 : Cond.classLink own i q.1 ∈ nk_T) (w2 : Cond.instantiable q.1 q.2.2 ∈ nk_T) (w3 : Cond.initialized q.1 ∈ nk_T) (hw : q.2.2 = w)
    (k : ∀ h1, nk_Sim G l own cc nL ret fr lo ini en (pc + 3) lv (.inr (some (nk_N h)) :: st) h1 (F h1)) : nk_Sim G l own cc nL ret fr lo ini en pc lv st h ((some (nk_al h (ci + 7) 0 w)).bind F) :=
  nr_new ci hq d w1 w2 w3 hw (k _)
/-- a boolean's field -/
def nk_pZ (ks : List Nat) (k : Nat) (h : nk_H) (p : Option Nat) (v : Int32) : Option nk_H := p.bind fun a => if nk_K h a ∈ ks ∧ (v = 0 ∨ v = 1) then some (nk_sI h a k v) else none
def nk_Fz (own : String) (ini : Bool) (k : Nat) : List Nat → Prop
  | [] => True
  | c :: t => (∀ (ci : Nat) (q : vw_C), c = ci + 7 → nk_cl[ci]? = some q → ((q.2.1 k).2.2.2 = false ∨ ((q.2.1 k).2.2.2 = true ∧ ini = true ∧ (q.2.1 k).1 = own)) ∧ parseFieldDescriptor (q.2.1 k).2.2.1 = some .boolean ∧ nk_rf ci k = false) ∧ nk_Fz own ini k t
theorem nk_Fz.get {k : Nat} {ks : List Nat} (h : nk_Fz own ini k ks) {c : Nat} (hc : c ∈ ks) : ∀ (ci : Nat) (q : vw_C), c = ci + 7 → nk_cl[ci]? = some q → ((q.2.1 k).2.2.2 = false ∨ ((q.2.1 k).2.2.2 = true ∧ ini = true ∧ (q.2.1 k).1 = own)) ∧ parseFieldDescriptor (q.2.1 k).2.2.1 = some .boolean ∧ nk_rf ci k = false := by
  induction ks with
  | nil => cases hc
  | cons d t ih =>
    rcases List.mem_cons.mp hc with rfl | hc
    · exact h.1
    · exact ih h.2 hc
theorem nr_putZ {i : Nat} (ks : List Nat) (k : Nat) {x : Option Nat} {v : Int32} {F : nk_H → Option (nk_H × α)} (d : decode cc pc = .ok (.putfield i, 3)) (w : nk_Fk own i k false ks) (w2 : nk_Fz own ini k ks) (kk : ∀ h1, nk_Sim G l own cc nL ret fr lo ini en (pc + 3) lv st h1 (F h1)) : nk_Sim G l own cc nL ret fr lo ini en pc lv (.inl v :: .inr x :: st) h ((nk_pZ ks k h x v).bind F) := by
  refine nk_bind (fun h1 hv => ?_)
  cases x with
  | none => cases hv
  | some a =>
    by_cases hm : nk_K h a ∈ ks ∧ (v = 0 ∨ v = 1)
    · have hv2 : nk_sI h a k v = h1 := Option.some.inj ((if_pos hm).symm.trans hv)
      subst hv2
      obtain ⟨ci, e1, hF, hrf⟩ := w.get hm.1
      refine nk_heap (nk_N_sI h a k v) (nk_S_sI h a k v) (fun p e R s m args below meth c H locs cells slots Q ls X hR hl hq k9 => ?_) (kk _)
      refine nk_wput (args := args) (ini := ini) (v := .int v) X.1 X.2.1 X.2.2.2.2.2.1 X.2.2.2.2.2.2.1 hR X.2.2.2.2.2.2.2.2.2.2.2.2 e1 hF (fun q hq9 => ?_) d (fun H1 i9 q hq9 z o hB => ?_)
      · obtain ⟨g1, g2, g3⟩ := w2.get hm.1 ci q e1 hq9
        refine ⟨g1, .boolean, g2, ?_⟩
        rcases hm.2 with rfl | rfl <;> exact ⟨by decide, by decide⟩
      · exact k9 H1 _ (nk_R_sI hR e1 hq9 hrf z o hB) (nk_fr_app hq (hR.2.2.2.2.1 a ci q e1 hq9).1)
    · exact absurd ((if_neg hm).symm.trans hv) (fun z => nomatch z)
/-- what an array of references may take: a Chain's, or any object's -/
def nk_okv (c : Nat) (h : nk_H) (v : Option Nat) : Bool := match v with
  | none => true
  | some y => if c = 3 then nk_K h y == 9 else decide (7 ≤ nk_K h y) && decide (nk_K h y ≤ 19)
def nk_wP (c : Nat) (h : nk_H) (p : Option Nat) (i : Int32) (v : Option Nat) : Option nk_H := p.bind fun a => if nk_K h a = c ∧ ¬ i < 0 ∧ i.toNatClampNeg < nk_L h a ∧ nk_okv c h v = true then some (nk_sP h a i.toNatClampNeg v) else none
def nk_Ob : List Cond := nk_cl.map fun q => Cond.castable q.1 "java/lang/Object"
theorem nk_ob : ∀ w ∈ nk_Ob, w ∈ nk_T := nk_ins [1151, 1160, 1147, 1161, 1159, 1158, 1152, 1149, 1150, 1156, 1157, 1148, 1148] (by decide +kernel) (by decide +kernel)
/-- the element's cell and class, and that the array may hold it -/
theorem nk_asg {s : State} {H : Heap} (c : Nat) (hc : c = 3 ∨ c = 4) (hKn : nk_Kn G s) (hR : nk_R G h H) {y : Nat} (hy : nk_okv c h (some y) = true) {comp : ClassId} (hcomp : s.vm.findClass (if c = 3 then "NotaryKiosk$Chain" else "java/lang/Object") = some comp) :
    ∃ cv : Cell, H[y]? = some cv ∧ cv.vm.isStatics = false ∧ (∃ kC, s.vm.classes[cv.cls]? = some kC) ∧ s.vm.assignable cv.cls comp = true := by
  rcases hc with rfl | rfl
  · have hk : nk_K h y = 2 + 7 := by simpa [nk_okv] using hy
    obtain ⟨cv, g1, g2, g3⟩ := nk_recv hKn hR hk (q := (RX1, TX1, 2)) rfl
    have hcls := (hKn.2.1.1 2 _ rfl).2
    have e1 : comp = (nk_gD G).1 2 := Option.some.inj (hcomp.symm.trans hcls.1)
    have e2 : cv.cls = (nk_gD G).1 2 := Option.some.inj (g3.symm.trans hcls.1)
    obtain ⟨kC, hkC, -⟩ := hcls.2
    exact ⟨cv, g1, g2, ⟨kC, by rw [e2]; exact hkC⟩, by rw [e1, e2]; exact va_assign hcls⟩
  · have hk : 7 ≤ nk_K h y ∧ nk_K h y ≤ 19 := by simpa [nk_okv] using hy
    obtain ⟨ci, hci⟩ : ∃ ci, nk_K h y = ci + 7 := ⟨nk_K h y - 7, by omega⟩
    have hlt : ci < nk_cl.length := by show ci < 13; omega
    obtain ⟨q, hq⟩ : ∃ q, nk_cl[ci]? = some q := ⟨nk_cl[ci], List.getElem?_eq_getElem hlt⟩
    obtain ⟨cv, g1, g2, g3⟩ := nk_recv hKn hR hci hq
    have hw : Cond.castable q.1 "java/lang/Object" ∈ nk_T := nk_ob _ (List.mem_map.mpr ⟨q, List.mem_of_getElem? hq, rfl⟩)
    obtain ⟨c0, t1, f1, f2, f3⟩ := Cond.castable_spec (hKn.use hw #[])
    cases g3.symm.trans f1
    cases hcomp.symm.trans f2
    obtain ⟨kC, hkC, -⟩ := Vm.findClass_spec g3
    exact ⟨cv, g1, g2, ⟨kC, hkC⟩, f3⟩
theorem nr_aastore (c : Nat) (hc : c = 3 ∨ c = 4) {x v : Option Nat} {i : Int32} {F : nk_H → Option (nk_H × α)} (d : decode cc pc = .ok (.aastore, 1)) (kk : ∀ h1, nk_Sim G l own cc nL ret fr lo ini en (pc + 1) lv st h1 (F h1)) : nk_Sim G l own cc nL ret fr lo ini en pc lv (.inr v :: .inl i :: .inr x :: st) h ((nk_wP c h x i v).bind F) := by
  refine nk_bind (fun h1 hv => ?_)
  cases x with
  | none => cases hv
  | some a =>
    by_cases hm : nk_K h a = c ∧ ¬ i < 0 ∧ i.toNatClampNeg < nk_L h a ∧ nk_okv c h v = true
    · have hv2 : nk_sP h a i.toNatClampNeg v = h1 := Option.some.inj ((if_pos hm).symm.trans hv)
      subst hv2
      obtain ⟨hk, h0, hlt, hok⟩ := hm
      refine nk_heap (nk_N_sP h a _ v) (nk_S_sP h a _ v) (fun p e R s m args below meth cd H locs cells slots Q ls X hR hl hq k9 => ?_) (kk _)
      have hKn := X.2.2.2.2.2.2.1
      have h36 : 3 ≤ nk_K h a ∧ nk_K h a ≤ 5 := by omega
      have hA := hR.2.2.2.1 a (by omega) (by omega)
      have hcell := hA.2.2
      have fin : ∀ (H1 : Heap) (i9 : Nat), H1[a]? = some ((arrV (nk_gA G (nk_K h a)) (nk_L h a) (nk_el h (nk_K h a) a)).setSlot i.toNatClampNeg (va_rf v)) → H1.size = H.size → (∀ q, q ≠ a → H1[q]? = H[q]?) → W p l e R s m args below meth cd H1 (locs ++ [⟨a, i9⟩]) cells slots Q (F0 m (pc + 1) ls (nk_vs st)) := by
        intro H1 i9 e1 z o
        rw [arrV_store] at e1
        exact k9 H1 _ (nk_R_aP hR h36.1 h36.2 z o e1) (nk_fr_app hq hA.1)
      have hin : ¬ (i < 0 ∨ (arrV (nk_gA G (nk_K h a)) (nk_L h a) (nk_el h (nk_K h a) a)).slots.size ≤ i.toNatClampNeg) := by rw [arrV_size]; exact fun q => q.elim h0 (Nat.not_le.mpr hlt)
      have hT : ∃ E : String, E = (if c = 3 then "NotaryKiosk$Chain" else "java/lang/Object") ∧ ArrOfT s (nk_gA G (nk_K h a)) (.object E) ∧ va_RA s (nk_gA G (nk_K h a)) (.object E) := by
        rw [hk]
        rcases hc with rfl | rfl
        · exact ⟨_, rfl, nk_tyAt hKn 2 rfl⟩
        · exact ⟨_, rfl, nk_tyAt hKn 3 rfl⟩
      obtain ⟨E, hE, t1, t2⟩ := hT
      cases v with
      | none => exact va_WaastN (C := E) X.1 X.2.1 hcell (t1 _ _) (fun q => by cases q) hin rfl rfl d fun H1 e1 z o => fin H1 _ e1 z o
      | some y =>
        obtain ⟨kA, comp, k1, k2, k3, -⟩ := t2
        obtain ⟨kE, hkE, -⟩ := Vm.findClass_spec k3
        obtain ⟨cv, g1, g2, ⟨kC, hkC⟩, g4⟩ := nk_asg c hc hKn hR hok (by rw [← hE]; exact k3)
        exact W.aast X.1 X.2.1 hcell (fun q h => by cases h) (fun h => by cases h) k1 k2 rfl hkE ⟨h0, by rw [arrV_size]; exact hlt⟩ g1 (fun q h => by rw [h] at g2; cases g2) hkC g4 rfl rfl d fun H1 e1 z o => fin H1 _ e1 z o
    · exact absurd ((if_neg hm).symm.trans hv) (fun z => nomatch z)
/-- the static empty row of the lists -/
theorem nr_gete {i : Nat} (d : decode cc pc = .ok (.getstatic i, 3)) (w : Cond.fieldLink own i "java/util/ArrayList" "DEFAULTCAPACITY_EMPTY_ELEMENTDATA" "[Ljava/lang/Object;" ∈ nk_T) (kk : nk_Sim G l own cc nL ret fr lo ini en (pc + 3) lv (.inr (some (nk_E h)) :: st) h f) : nk_Sim G l own cc nL ret fr lo ini en pc lv st h f := by
  intro h' r hf
  obtain ⟨k1, k2, k3⟩ := kk h' r hf
  refine ⟨k1, k2, fun p e R s m args below meth c X sb b1 b2 b3 b4 H ls locs hR hl hq => ?_⟩
  have hKn := X.2.2.2.2.2.2.1
  have hkeep : ∀ a : Nat, a < (nk_gH G).size → ¬ nk_fr G a → s.heap[a]? = (nk_gH G)[a]? := fun a ha _ => X.2.2.2.2.2.2.2.1.2 a ha
  refine va_gets X.1 X.2.1 (va_Z.kept hKn.2.2.2.2.2.2.1 hkeep) (nk_vaS X hR b1 hq) X.2.2.2.2.2.1 (hKn.use w args) (fun x hx => hx) d ?_
  rw [← hR.2.2.2.2.2.2.1]
  exact k3 p e R s m args below meth c X sb b1 b2 b3 b4 H ls locs hR hl hq
/-- the class object of Object[] -/
theorem nr_ldcM {i : Nat} (d : decode cc pc = .ok (.ldc i, 2)) (w : Cond.classLink own i "[Ljava/lang/Object;" ∈ nk_T) (kk : nk_Sim G l own cc nL ret fr lo ini en (pc + 2) lv (.inr (some (nk_M h)) :: st) h f) : nk_Sim G l own cc nL ret fr lo ini en pc lv st h f :=
  nk_pure (fun p e R s m args below meth c H locs cells slots Q ls X hR hl k9 => by
    have hKn := X.2.2.2.2.2.2.1
    have hM := hKn.2.2.2.2.2.2.2.2.2.2.1
    refine va_ldcM X.1 X.2.1 X.2.2.2.2.2.1 (hKn.use w args) hM d ?_
    rw [← hR.2.2.2.2.2.2.2]
    exact k9 ls hl) kk
/-- the class object of an Object[] -/
def nk_gc (h : nk_H) (p : Option Nat) : Option (Option Nat) := p.bind fun a => if nk_K h a = 4 then some (some (nk_M h)) else none
theorem nr_getC {i : Nat} {x : Option Nat} {F : Option Nat → Option (nk_H × α)} (d : decode cc pc = .ok (.invokevirtual i, 3)) (w : Cond.methodLink own i ⟨"java/lang/Object", "getClass", "()Ljava/lang/Class;"⟩ ∈ nk_T)
    (w1 : Cond.declares ⟨"java/lang/Object", "getClass", "()Ljava/lang/Class;"⟩ ∈ nk_T) (w2 : Cond.selects "[Ljava/lang/Object;" ⟨"java/lang/Object", "getClass", "()Ljava/lang/Class;"⟩ ⟨"java/lang/Object", "getClass", "()Ljava/lang/Class;"⟩ ∈ nk_T) (w3 : Cond.instanceMethod ⟨"java/lang/Object", "getClass", "()Ljava/lang/Class;"⟩ ∈ nk_T) (w4 : Cond.native ⟨"java/lang/Object", "getClass", "()Ljava/lang/Class;"⟩ ∈ nk_T)
    (hfr : 1 ≤ fr) (hlo : st.length + 14 ≤ lo) (kk : ∀ v, nk_Sim G l own cc nL ret fr lo ini en (pc + 3) lv (.inr v :: st) h (F v)) : nk_Sim G l own cc nL ret fr lo ini en pc lv (.inr x :: st) h ((nk_gc h x).bind F) := by
  refine nk_bind (fun v hv => nk_pure (fun p e R s m args below meth c H locs cells slots Q ls X hR hl k9 => ?_) (kk v))
  cases x with
  | none => cases hv
  | some a =>
    by_cases hm : nk_K h a = 4
    · have hv2 : some (nk_M h) = v := Option.some.inj ((if_pos hm).symm.trans hv)
      have hKn := X.2.2.2.2.2.2.1
      have g1 : fr ≤ R.frames := X.2.2.2.2.2.2.2.2.1
      have g2 : lo ≤ R.locals := X.2.2.2.2.2.2.2.2.2.1
      have hcell := (hR.2.2.2.1 a (by omega) (by omega)).2.2
      rw [hm] at hcell
      have hnm : s.vm.findClass "[Ljava/lang/Object;" = some (nk_gA G 4) := va_nmO (nk_tyAt hKn 3 rfl).2 (by decide +kernel)
      refine va_getC X.1 X.2.1 (by rw [X.2.2.1]; exact hl.1.symm) X.2.2.2.2.2.1 (hKn.use w args) (hKn.use w1 args) (hKn.use w2 args) (hKn.use w3 args) (hKn.use w4 args) hKn.2.2.2.2.2.2.2.2.2.2.1 ⟨_, hcell, rfl, hnm⟩ (by omega) (by show ((nk_vs st).map fun v => v.category).sum + 14 ≤ R.locals; rw [nk_sum]; omega) d ?_
      rw [← hR.2.2.2.2.2.2.2]
      rw [← hv2] at k9
      exact k9 ls hl
    · exact absurd ((if_neg hm).symm.trans hv) (fun z => nomatch z)
/-- copies between arrays -/
def nk_cI (h : nk_H) (a : Nat) (f : Nat → Int32) : nk_H := (h.1, nk_u1 h.2.1 a f, h.2.2)
def nk_cP (h : nk_H) (a : Nat) (f : Nat → Option Nat) : nk_H := (h.1, h.2.1, nk_u1 h.2.2.1 a f, h.2.2.2)
def nk_rg (h : nk_H) (a0 a : Nat) (sp dp n : Int32) : Bool := !decide (sp < 0) && !decide (dp < 0) && !decide (n < 0) && decide (sp.toNatClampNeg + n.toNatClampNeg ≤ nk_L h a0) && decide (dp.toNatClampNeg + n.toNatClampNeg ≤ nk_L h a)
def nk_cpI (h : nk_H) (p0 : Option Nat) (sp : Int32) (p : Option Nat) (dp n : Int32) : Option nk_H := p0.bind fun a0 => p.bind fun a => if nk_K h a0 = 1 ∧ nk_K h a = 1 ∧ a0 ≠ a ∧ nk_rg h a0 a sp dp n = true then some (nk_cI h a (va_cpy (nk_I h a0) (nk_I h a) sp.toNatClampNeg dp.toNatClampNeg n.toNatClampNeg)) else none
def nk_cpP (h : nk_H) (p0 : Option Nat) (sp : Int32) (p : Option Nat) (dp n : Int32) : Option nk_H := p0.bind fun a0 => p.bind fun a => if nk_K h a0 = 4 ∧ nk_K h a = 4 ∧ a0 ≠ a ∧ nk_rg h a0 a sp dp n = true ∧ (List.range n.toNatClampNeg).all (fun j => nk_okv 4 h (nk_P h a0 (sp.toNatClampNeg + j))) = true then some (nk_cP h a (va_cpy (nk_P h a0) (nk_P h a) sp.toNatClampNeg dp.toNatClampNeg n.toNatClampNeg)) else none
theorem nk_toI {z : Int32} (hz : ¬ z < 0) : z.toInt = (z.toNatClampNeg : Int) := by
  have hz0 : (0 : Int) ≤ z.toInt := by
    have := Int32.not_lt.mp hz
    simpa using Int32.le_iff_toInt_le.mp this
  show z.toInt = ((z.toInt.toNat : Nat) : Int)
  omega
/-- a copy's step -/
theorem nk_acpy {p : Program} {e : Env} {R : Room} {s : State} {m : MethodId} {args : Array Value} {below : List Frame} {meth : Method} {c : Code} {H : Heap} {locs : List Loc} {cells slots : Nat} {Q : State → Prop} {ls : Array Slot} {i : Nat} (X : nk_X G l own cc nL ret fr lo ini p R s m meth c) (hls : ls.size = nL) {kd : Nat} (hkd : kd = 1 ∨ kd = 4) {a0 a n0 n1 : Nat} {f g : Nat → Value} {sp dp n : Int32}
    (w1 : Cond.methodLink own i arraycopyName ∈ nk_T) (w2 : Cond.native arraycopyName ∈ nk_T) (w3 : Cond.static arraycopyName ∈ nk_T) (w4 : Cond.initialized "java/lang/System" ∈ nk_T)
    (hc0 : H[a0]? = some (arrV (nk_gA G kd) n0 f)) (hc1 : H[a]? = some (arrV (nk_gA G kd) n1 g)) (h1 : ¬ sp < 0) (h2 : ¬ dp < 0) (h3 : ¬ n < 0) (h4 : sp.toNatClampNeg + n.toNatClampNeg ≤ n0) (h5 : dp.toNatClampNeg + n.toNatClampNeg ≤ n1)
    (hel : ∀ j, j < n.toNatClampNeg → (kd = 1 ∧ ∃ x, f (sp.toNatClampNeg + j) = .int x) ∨ (kd = 4 ∧ (f (sp.toNatClampNeg + j) = .null ∨ ∃ y : Nat, f (sp.toNatClampNeg + j) = .ref y ∧ ∃ cv : Cell, H[y]? = some cv ∧ cv.vm.isStatics = false ∧ (∃ kC, s.vm.classes[cv.cls]? = some kC) ∧ ∀ comp, s.vm.findClass "java/lang/Object" = some comp → s.vm.assignable cv.cls comp = true)))
    (hfr : 1 ≤ fr) (hlo : st.length + 24 ≤ lo) (d : decode cc pc = .ok (.invokestatic i, 3))
    (kk : ∀ (H1 : Heap) (locs1 : List Loc), H1[a]? = some (arrV (nk_gA G kd) n1 (va_cpy f g sp.toNatClampNeg dp.toNatClampNeg n.toNatClampNeg)) → H1.size = H.size → (∀ q, q ≠ a → H1[q]? = H[q]?) → (∀ z ∈ locs1, z ∈ locs ∨ z.base = a) → W p l e R s m args below meth c H1 locs1 cells slots Q (F0 m (pc + 3) ls (nk_vs st))) :
    W p l e R s m args below meth c H locs cells slots Q (F0 m pc ls (.int n :: .int dp :: .ref a :: .int sp :: .ref a0 :: nk_vs st)) := by
  have hKn := X.2.2.2.2.2.2.1
  have g1 : fr ≤ R.frames := X.2.2.2.2.2.2.2.2.1
  have g2 : lo ≤ R.locals := X.2.2.2.2.2.2.2.2.2.1
  have hT9 : ∃ ty : FieldType, ArrOfT s (nk_gA G kd) ty ∧ va_RA s (nk_gA G kd) ty ∧ ((kd = 1 ∧ ty = .int) ∨ (kd = 4 ∧ ty = .object "java/lang/Object")) := by
    rcases hkd with rfl | rfl
    · exact ⟨_, (nk_tyAt hKn 0 rfl).1, (nk_tyAt hKn 0 rfl).2, Or.inl ⟨rfl, rfl⟩⟩
    · exact ⟨_, (nk_tyAt hKn 3 rfl).1, (nk_tyAt hKn 3 rfl).2, Or.inr ⟨rfl, rfl⟩⟩
  obtain ⟨ty, hArr, hRA, hty⟩ := hT9
  obtain ⟨-, k0, hk0, cm0, hkk0⟩ := hArr n0 f
  obtain ⟨-, k1, hk1, cm1, hkk1⟩ := hArr n1 g
  intro T hT X9
  obtain ⟨vm', X', step⟩ := X9.arraycopy X.1 X.2.2.2.2.2.1 (hKn.use w1 args) (hKn.use w2 args) (hKn.use w3 args) (hKn.use w4 args) (src := a0) (dst := a) (cs := arrV (nk_gA G kd) n0 f) (cd := arrV (nk_gA G kd) n1 g) (srcPos := sp) (destPos := dp) (n := n) (by rw [hT]; exact hc0) (by rw [hT]; exact hc1)
    (fun _ h => by cases h) (fun _ h => by cases h) (fun h => by cases h) (fun h => by cases h) hk0 hk1 hkk0 hkk1 (by rcases hty with ⟨-, rfl⟩ | ⟨-, rfl⟩ <;> rfl) h1 h2 h3
    (by rw [nk_toI h1, nk_toI h3, arrV_size]; omega)
    (by rw [nk_toI h2, nk_toI h3, arrV_size]; omega)
    (fun vm₁ hal j hj => by
      have e : (arrV (nk_gA G kd) n0 f).slots.getD (sp.toNatClampNeg + j) .null = f (sp.toNatClampNeg + j) := by
        rw [Array.getD_eq_getD_getElem?, arrV_read _ _ (by omega)]
        rfl
      rw [e]
      rcases hel j hj with ⟨e1, x, e2⟩ | ⟨e1, hv⟩
      · rcases hty with ⟨-, rfl⟩ | ⟨e3, -⟩
        · rw [e2]; exact ⟨rfl, trivial⟩
        · omega
      · rcases hty with ⟨e3, -⟩ | ⟨-, rfl⟩
        · omega
        · rcases hv with e2 | ⟨y, e2, cv, q1, q2, ⟨kC, hkC⟩, q4⟩
          · rw [e2]; exact ⟨rfl, trivial⟩
          · rw [e2]
            obtain ⟨kA, comp, r1, r2, r3, -⟩ := hRA
            cases hk1.symm.trans r1
            cases hkk1.symm.trans r2
            obtain ⟨kE, hkE, -⟩ := Vm.findClass_spec r3
            obtain ⟨kC', hkC', -⟩ := hal.2.2 _ _ hkC
            obtain ⟨kE', hkE', -⟩ := hal.2.2 _ _ hkE
            refine ⟨rfl, cv, (show T.heap[y]? = some cv by rw [hT]; exact q1), (fun q h => by rw [h] at q2; cases q2), ⟨kC', hkC'⟩, ?_, ?_⟩
            · exact ⟨kE', hkE'⟩
            · show vm₁.assignable _ _ = true
              rw [hal.assignable]
              exact q4 _ r3)
    (g := F0 m pc ls (.int n :: .int dp :: .ref a :: .int sp :: .ref a0 :: nk_vs st)) rfl (by rw [X.2.2.1]; exact hls) (rest := nk_vs st) rfl (by rw [X.2.1]; exact d) (by omega) (by
      have hw : nativeFrameWords "java/lang/System" "arraycopy" 5 + 11 ≤ 24 := by decide
      show 2 * 0 + ((nk_vs st).map fun v => v.category).sum + _ ≤ _
      rw [nk_sum]
      omega)
  have e1 : copied (arrV (nk_gA G kd) n0 f) (arrV (nk_gA G kd) n1 g) sp dp n = arrV (nk_gA G kd) n1 (va_cpy f g sp.toNatClampNeg dp.toNatClampNeg n.toNatClampNeg) := va_copied (fun z => z) _ _ f g h4
  rw [e1] at X' step
  have hlt : a < H.size := (Array.getElem?_eq_some_iff.mp hc1).1
  have hheap : ((T.setVm vm').setCell a (arrV (nk_gA G kd) n1 (va_cpy f g sp.toNatClampNeg dp.toNatClampNeg n.toNatClampNeg))).heap = H.setIfInBounds a (arrV (nk_gA G kd) n1 (va_cpy f g sp.toNatClampNeg dp.toNatClampNeg n.toNatClampNeg)) := by rw [← hT]; rfl
  obtain ⟨t, a1, b1⟩ := kk _ _ (by simp [Array.getElem?_setIfInBounds, hlt]) (by simp) (fun q hq => by simp [Array.getElem?_setIfInBounds, Ne.symm hq]) (fun z hz => by
    rcases List.mem_append.mp hz with h | h
    · exact Or.inl h
    · obtain ⟨z9, -, hz9⟩ := List.mem_map.mp h
      exact Or.inr (by rw [← hz9])) _ hheap X'
  exact ⟨t, step t a1, b1⟩
theorem nk_rg_spec {h : nk_H} {a0 a : Nat} {sp dp n : Int32} (hr : nk_rg h a0 a sp dp n = true) : ¬ sp < 0 ∧ ¬ dp < 0 ∧ ¬ n < 0 ∧ sp.toNatClampNeg + n.toNatClampNeg ≤ nk_L h a0 ∧ dp.toNatClampNeg + n.toNatClampNeg ≤ nk_L h a := by
  unfold nk_rg at hr
  simp only [Bool.and_eq_true, decide_eq_true_eq, Bool.not_eq_true', decide_eq_false_iff_not] at hr
  obtain ⟨⟨⟨⟨a1, a2⟩, a3⟩, a4⟩, a5⟩ := hr
  exact ⟨a1, a2, a3, a4, a5⟩
theorem nr_acpI {i : Nat} {x0 x : Option Nat} {sp dp n : Int32} {F : nk_H → Option (nk_H × α)} (d : decode cc pc = .ok (.invokestatic i, 3)) (w1 : Cond.methodLink own i arraycopyName ∈ nk_T) (w2 : Cond.native arraycopyName ∈ nk_T) (w3 : Cond.static arraycopyName ∈ nk_T) (w4 : Cond.initialized "java/lang/System" ∈ nk_T) (hfr : 1 ≤ fr) (hlo : st.length + 24 ≤ lo)
    (kk : ∀ h1, nk_Sim G l own cc nL ret fr lo ini en (pc + 3) lv st h1 (F h1)) : nk_Sim G l own cc nL ret fr lo ini en pc lv (.inl n :: .inl dp :: .inr x :: .inl sp :: .inr x0 :: st) h ((nk_cpI h x0 sp x dp n).bind F) := by
  refine nk_bind (fun h1 hv => ?_)
  cases x0 with
  | none => cases hv
  | some a0 =>
  cases x with
  | none => cases hv
  | some a =>
    by_cases hm : nk_K h a0 = 1 ∧ nk_K h a = 1 ∧ a0 ≠ a ∧ nk_rg h a0 a sp dp n = true
    · have hv2 := Option.some.inj ((if_pos hm).symm.trans hv)
      subst hv2
      obtain ⟨m1, m2, m3, m4⟩ := hm
      obtain ⟨r1, r2, r3, r4, r5⟩ := nk_rg_spec m4
      refine nk_heap (h1 := nk_cI h a (va_cpy (nk_I h a0) (nk_I h a) sp.toNatClampNeg dp.toNatClampNeg n.toNatClampNeg)) (pc' := pc + 3) (st' := st) rfl rfl (fun p e R s m args below meth c H locs cells slots Q ls X hR hl hq k9 => ?_) (kk _)
      have hA0 := hR.2.2.2.1 a0 (by omega) (by omega)
      have hA1 := hR.2.2.2.1 a (by omega) (by omega)
      have c0 := hA0.2.2
      have c1 := hA1.2.2
      rw [m1] at c0
      rw [m2] at c1
      refine nk_acpy (kd := 1) X hl.1 (Or.inl rfl) w1 w2 w3 w4 c0 c1 r1 r2 r3 r4 r5 (fun j _ => Or.inl ⟨rfl, _, rfl⟩) hfr hlo d (fun H1 locs1 e1 z o hz => k9 H1 locs1 ?_ (fun q hq9 => (hz q hq9).elim (hq q) (fun e9 => by rw [e9]; exact hA1.1)))
      refine nk_R1 (a := a) hR ⟨rfl, rfl⟩ rfl rfl rfl (fun x j e => congrFun (nk_u1_ne _ _ _ e) j) (fun _ _ _ => rfl) z o hA1.1 (fun _ _ => ?_) (fun ci q h9 _ => by omega)
      rw [e1, m2]
      congr 2
      funext j
      show va_cpy (nk_el h 1 a0) (nk_el h 1 a) _ _ _ j = Value.int (nk_u1 (nk_I h) a _ a j)
      rw [nk_u1_eq]
      unfold va_cpy
      by_cases e9 : dp.toNatClampNeg ≤ j ∧ j < dp.toNatClampNeg + n.toNatClampNeg
      · rw [if_pos e9, if_pos e9]; rfl
      · rw [if_neg e9, if_neg e9]; rfl
    · exact absurd ((if_neg hm).symm.trans hv) (fun z => nomatch z)
theorem nr_acpP {i : Nat} {x0 x : Option Nat} {sp dp n : Int32} {F : nk_H → Option (nk_H × α)} (d : decode cc pc = .ok (.invokestatic i, 3)) (w1 : Cond.methodLink own i arraycopyName ∈ nk_T) (w2 : Cond.native arraycopyName ∈ nk_T) (w3 : Cond.static arraycopyName ∈ nk_T) (w4 : Cond.initialized "java/lang/System" ∈ nk_T) (hfr : 1 ≤ fr) (hlo : st.length + 24 ≤ lo)
    (kk : ∀ h1, nk_Sim G l own cc nL ret fr lo ini en (pc + 3) lv st h1 (F h1)) : nk_Sim G l own cc nL ret fr lo ini en pc lv (.inl n :: .inl dp :: .inr x :: .inl sp :: .inr x0 :: st) h ((nk_cpP h x0 sp x dp n).bind F) := by
  refine nk_bind (fun h1 hv => ?_)
  cases x0 with
  | none => cases hv
  | some a0 =>
  cases x with
  | none => cases hv
  | some a =>
    by_cases hm : nk_K h a0 = 4 ∧ nk_K h a = 4 ∧ a0 ≠ a ∧ nk_rg h a0 a sp dp n = true ∧ (List.range n.toNatClampNeg).all (fun j => nk_okv 4 h (nk_P h a0 (sp.toNatClampNeg + j))) = true
    · have hv2 := Option.some.inj ((if_pos hm).symm.trans hv)
      subst hv2
      obtain ⟨m1, m2, m3, m4, m5⟩ := hm
      obtain ⟨r1, r2, r3, r4, r5⟩ := nk_rg_spec m4
      refine nk_heap (h1 := nk_cP h a (va_cpy (nk_P h a0) (nk_P h a) sp.toNatClampNeg dp.toNatClampNeg n.toNatClampNeg)) (pc' := pc + 3) (st' := st) rfl rfl (fun p e R s m args below meth c H locs cells slots Q ls X hR hl hq k9 => ?_) (kk _)
      have hKn := X.2.2.2.2.2.2.1
      have hA0 := hR.2.2.2.1 a0 (by omega) (by omega)
      have hA1 := hR.2.2.2.1 a (by omega) (by omega)
      have c0 := hA0.2.2
      have c1 := hA1.2.2
      rw [m1] at c0
      rw [m2] at c1
      refine nk_acpy (kd := 4) X hl.1 (Or.inr rfl) w1 w2 w3 w4 c0 c1 r1 r2 r3 r4 r5 (fun j hj => Or.inr ⟨rfl, ?_⟩) hfr hlo d (fun H1 locs1 e1 z o hz => k9 H1 locs1 ?_ (fun q hq9 => (hz q hq9).elim (hq q) (fun e9 => by rw [e9]; exact hA1.1)))
      · have h9 := List.all_eq_true.mp m5 j (List.mem_range.mpr hj)
        have e9 : nk_el h 4 a0 (sp.toNatClampNeg + j) = va_rf (nk_P h a0 (sp.toNatClampNeg + j)) := rfl
        rw [e9]
        cases hy : nk_P h a0 (sp.toNatClampNeg + j) with
        | none => exact Or.inl rfl
        | some y =>
          rw [hy] at h9
          refine Or.inr ⟨y, rfl, ?_⟩
          obtain ⟨kA, comp, k1, k2, k3, -⟩ := (nk_tyAt hKn 3 rfl).2
          obtain ⟨cv, q1, q2, q3, q4⟩ := nk_asg 4 (Or.inr rfl) hKn hR h9 (comp := comp) k3
          exact ⟨cv, q1, q2, q3, fun comp9 h8 => by
            cases k3.symm.trans h8
            exact q4⟩
      · refine nk_R1 (a := a) hR ⟨rfl, rfl⟩ rfl rfl rfl (fun _ _ _ => rfl) (fun x j e => congrFun (nk_u1_ne _ _ _ e) j) z o hA1.1 (fun _ _ => ?_) (fun ci q h9 _ => by omega)
        rw [e1, m2]
        congr 2
        funext j
        show va_cpy (nk_el h 4 a0) (nk_el h 4 a) _ _ _ j = va_rf (nk_u1 (nk_P h) a _ a j)
        rw [nk_u1_eq]
        unfold va_cpy
        by_cases e9 : dp.toNatClampNeg ≤ j ∧ j < dp.toNatClampNeg + n.toNatClampNeg
        · rw [if_pos e9, if_pos e9]; rfl
        · rw [if_neg e9, if_neg e9]; rfl
    · exact absurd ((if_neg hm).symm.trans hv) (fun z => nomatch z)
/-- a grid of ints: its outer row, then its inner rows -/
def nk_mn (h : nk_H) (n k : Nat) : nk_H :=
  (fun x => if x = nk_N h then 5 else if nk_N h < x ∧ x ≤ nk_N h + n then 1 else nk_K h x,
   fun x j => if nk_N h ≤ x ∧ x ≤ nk_N h + n then 0 else nk_I h x j,
   fun x j => if x = nk_N h then (if j < n then some (nk_N h + 1 + j) else none) else if nk_N h < x ∧ x ≤ nk_N h + n then none else nk_P h x j,
   fun x => if x = nk_N h then n else if nk_N h < x ∧ x ≤ nk_N h + n then k else nk_L h x,
   nk_N h + 1 + n, nk_S h + n + n * k, nk_E h, nk_M h)
def nk_mna (h : nk_H) (n k : Int32) : Option nk_H := if ¬ n < 0 ∧ ¬ k < 0 ∧ n.toNatClampNeg ≤ 65536 ∧ k.toNatClampNeg ≤ 65536 then some (nk_mn h n.toNatClampNeg k.toNatClampNeg) else none
theorem nk_R_mn {n k : Nat} {H H1 : Heap} (hR : nk_R G h H) (z : H1.size = H.size + 1 + n) (o : ∀ x : Nat, x < H.size → H1[x]? = H[x]?)
    (e1 : H1[H.size]? = some (arrV (nk_gA G 5) n (fun j => va_rf (if j < n then some (H.size + 1 + j) else none)))) (e2 : ∀ j, j < n → H1[H.size + 1 + j]? = some (arrV (nk_gA G 1) k (fun _ => .int 0))) : nk_R G (nk_mn h n k) H1 := by
  obtain ⟨r1, r2, r3, r4, r5, r6⟩ := hR
  rw [r1] at z o e1 e2
  have hN : nk_N (nk_mn h n k) = nk_N h + 1 + n := rfl
  have hK : ∀ x, nk_K (nk_mn h n k) x = if x = nk_N h then 5 else if nk_N h < x ∧ x ≤ nk_N h + n then 1 else nk_K h x := fun _ => rfl
  have hL : ∀ x, nk_L (nk_mn h n k) x = if x = nk_N h then n else if nk_N h < x ∧ x ≤ nk_N h + n then k else nk_L h x := fun _ => rfl
  have hI : ∀ x j, nk_I (nk_mn h n k) x j = if nk_N h ≤ x ∧ x ≤ nk_N h + n then 0 else nk_I h x j := fun _ _ => rfl
  have hP : ∀ x j, nk_P (nk_mn h n k) x j = if x = nk_N h then (if j < n then some (nk_N h + 1 + j) else none) else if nk_N h < x ∧ x ≤ nk_N h + n then none else nk_P h x j := fun _ _ => rfl
  refine ⟨by rw [z, hN], by rw [hN]; omega, fun x hx => by rw [o x (by omega)]; exact r3 x hx, fun x h1 h2 => ?_, fun x ci q h1 h2 => ?_, ⟨fun x hx => ?_, r6.2.1, r6.2.2⟩⟩
  · by_cases c1 : x = nk_N h
    · subst c1
      rw [hK, if_pos rfl, hL, if_pos rfl, e1]
      refine ⟨r2, by rw [hN]; omega, ?_⟩
      congr 2
      funext j
      show _ = va_rf (nk_P (nk_mn h n k) (nk_N h) j)
      rw [hP, if_pos rfl]
    · by_cases c2 : nk_N h < x ∧ x ≤ nk_N h + n
      · obtain ⟨j, rfl⟩ : ∃ j, x = nk_N h + 1 + j := ⟨x - nk_N h - 1, by omega⟩
        rw [hK, if_neg c1, if_pos c2, hL, if_neg c1, if_pos c2, e2 j (by omega)]
        refine ⟨by omega, by rw [hN]; omega, ?_⟩
        congr 2
        funext i
        show _ = Value.int (nk_I (nk_mn h n k) (nk_N h + 1 + j) i)
        rw [hI, if_pos (by omega)]
      · rw [hK, if_neg c1, if_neg c2] at h1 h2 ⊢
        obtain ⟨q1, q2, q3⟩ := r4 x h1 h2
        rw [hL, if_neg c1, if_neg c2, o x q2, q3]
        refine ⟨q1, by rw [hN]; omega, ?_⟩
        rw [nk_el_other (h1 := nk_mn h n k) (h := h) (a := x) _ (fun j => by rw [hI, if_neg (by omega)]) (fun j => by rw [hP, if_neg c1, if_neg c2])]
  · by_cases c1 : x = nk_N h
    · rw [hK, if_pos c1] at h1; omega
    · by_cases c2 : nk_N h < x ∧ x ≤ nk_N h + n
      · rw [hK, if_neg c1, if_pos c2] at h1; omega
      · rw [hK, if_neg c1, if_neg c2] at h1
        obtain ⟨q1, q2, q3⟩ := r5 x ci q h1 h2
        refine ⟨q1, by rw [hN]; omega, ?_⟩
        rw [nk_fv_other (h1 := nk_mn h n k) (h := h) (a := x) _ (fun j => by rw [hI, if_neg (by omega)]) (fun j => by rw [hP, if_neg c1, if_neg c2])]
        exact q3.kept (o x q2)
  · by_cases c1 : x = nk_N h
    · rw [hK, if_pos c1] at hx; omega
    · by_cases c2 : nk_N h < x ∧ x ≤ nk_N h + n
      · rw [hK, if_neg c1, if_pos c2] at hx; omega
      · rw [hK, if_neg c1, if_neg c2] at hx
        exact r6.1 x hx
theorem nr_grid {i : Nat} {n k : Int32} {F : nk_H → Option (nk_H × α)} (d : decode cc pc = .ok (.multianewarray i 2, 4)) (w : Cond.classLink own i "[[I" ∈ nk_T) (w1 : Cond.arrayClass .int ∈ nk_T)
    (kk : ∀ h1, nk_Sim G l own cc nL ret fr lo ini en (pc + 4) lv (.inr (some (nk_N h)) :: st) h1 (F h1)) : nk_Sim G l own cc nL ret fr lo ini en pc lv (.inl k :: .inl n :: st) h ((nk_mna h n k).bind F) := by
  refine nk_bind (fun h1 hv => ?_)
  by_cases hm : ¬ n < 0 ∧ ¬ k < 0 ∧ n.toNatClampNeg ≤ 65536 ∧ k.toNatClampNeg ≤ 65536
  · have hv2 : nk_mn h n.toNatClampNeg k.toNatClampNeg = h1 := Option.some.inj ((if_pos hm).symm.trans hv)
    subst hv2
    obtain ⟨m1, m2, m3, m4⟩ := hm
    intro h' r hf
    obtain ⟨k1, k2, k3⟩ := kk _ h' r hf
    have eN : nk_N (nk_mn h n.toNatClampNeg k.toNatClampNeg) = nk_N h + 1 + n.toNatClampNeg := rfl
    have eS : nk_S (nk_mn h n.toNatClampNeg k.toNatClampNeg) = nk_S h + n.toNatClampNeg + n.toNatClampNeg * k.toNatClampNeg := rfl
    rw [eN] at k1 k3
    rw [eS] at k2 k3
    refine ⟨by omega, by omega, fun p e R s m args below meth c X sb b1 b2 b3 b4 H ls locs hR hl hq => ?_⟩
    have hKn := X.2.2.2.2.2.2.1
    intro T hT X9
    obtain ⟨vm₁, cA, comp, -, fA, fC, hO, -, X', step⟩ := X9.multianewarray2F (ty := .int) X.1 X.2.2.2.2.2.1 (hKn.use w args) (by
        have h8 : nk_AOA s := hKn.2.2.1.2.2
        simpa [nk_AOA, Cond.before, Cond.holds, Cond.value] using h8) (hKn.use w1 args) (g := F0 m pc ls (.int k :: .int n :: nk_vs st)) rfl (by rw [X.2.1]; exact d) rfl m1 m2 (Nat.le_trans (Nat.mul_le_mul_right 4 m3) (Nat.le_of_ble_eq_true rfl)) (Nat.le_trans (Nat.mul_le_mul_right _ m4) (Nat.le_of_ble_eq_true rfl)) (Nat.le_trans m4 (Nat.le_of_ble_eq_true rfl)) rfl rfl (by omega) (by omega)
    generalize hF : Jvm.Free.Multi.fill (T.setVm vm₁) cA comp n.toNatClampNeg k.toNatClampNeg (defaultValue .int) n.toNatClampNeg = F9 at X' step
    have hTh : (T.setVm vm₁).heap = H := hT
    obtain ⟨f1, f2, -, -⟩ := Jvm.Free.Multi.fill_facts (T.setVm vm₁) cA comp n.toNatClampNeg k.toNatClampNeg (defaultValue .int) n.toNatClampNeg
    rw [hF, hTh] at f1 f2
    have hold : ∀ x : Nat, x < H.size → F9.heap[x]? = H[x]? := fun x hx => by
      have := Jvm.Free.Multi.fill_old (T.setVm vm₁) cA comp n.toNatClampNeg k.toNatClampNeg (defaultValue .int) (a := x) (by rw [hTh]; exact hx) n.toNatClampNeg
      rw [hF, hTh] at this
      exact this
    have hcA : cA = nk_gA G 5 := Option.some.inj (fA.symm.trans (nk_tyAt hKn 4 rfl).2)
    have hcI : comp = nk_gA G 1 := Option.some.inj (fC.symm.trans (nk_tyAt hKn 0 rfl).2)
    have hrow : ∀ j : Nat, j < n.toNatClampNeg → F9.heap[H.size + 1 + j]? = some (arrV (nk_gA G 1) k.toNatClampNeg (fun _ => .int 0)) := fun j hj => by
      have := Jvm.Free.Multi.fill_inner (T.setVm vm₁) cA comp n.toNatClampNeg k.toNatClampNeg (defaultValue .int) n.toNatClampNeg j hj
      rw [hF, hTh, hcI] at this
      rw [this, ← arrV_new]
      rfl
    rw [vr_outer, hcA] at f2
    have hR1 := nk_R_mn (k := k.toNatClampNeg) hR f1 hold f2 hrow
    have k4 := k3 p e R s m args below meth c X sb (by omega) (by omega) b3 b4 F9.heap ls locs hR1 hl hq
    rw [show nk_N h + 1 + n.toNatClampNeg - s.heap.size = nk_N h - s.heap.size + 1 + n.toNatClampNeg by omega, show nk_S h + n.toNatClampNeg + n.toNatClampNeg * k.toNatClampNeg - sb = nk_S h - sb + n.toNatClampNeg + n.toNatClampNeg * k.toNatClampNeg by omega] at k4
    obtain ⟨t, a1, b9⟩ := k4 F9 rfl X'
    refine ⟨t, step t ?_, b9⟩
    have e9 : T.heap.size = nk_N h := by rw [hT]; exact hR.1
    rw [e9]
    exact a1
  · exact absurd ((if_neg hm).symm.trans hv) (fun z => nomatch z)
end NKB
