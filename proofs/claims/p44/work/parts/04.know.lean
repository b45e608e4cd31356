/-! ===== what is known of the tables wherever the machine stands; contracts and walks over the abstract heap ===== -/
def nk_mv : Cond → Bool
  | .castable _ _ => true
  | .methodLinkNest _ _ _ _ => true
  | .declares _ => true
  | w => goodWord w
/-- the tables' words that stay -/
def nk_T : List Cond := lw_tbl.filter nk_mv
theorem nk_in {i : Nat} {w : Cond} (h : lw_tbl[i]? = some w) (g : nk_mv w = true) : w ∈ nk_T := List.mem_filter.mpr ⟨List.mem_of_getElem? h, g⟩
theorem nk_ins {ws : List Cond} (ps : List Nat) (h : ws = ps.filterMap (fun i => lw_tbl[i]?)) (g : ws.all nk_mv = true) : ∀ w ∈ ws, w ∈ nk_T := by
  intro w hw
  have g1 := List.all_eq_true.mp g w hw
  rw [h] at hw
  obtain ⟨i, -, hi⟩ := List.mem_filterMap.mp hw
  exact nk_in hi g1
theorem nk_warm1 {s U : State} (hW : s.WarmedH U.vm) {w : Cond} (g : nk_mv w = true) (a : Array Value) (h : w.before #[] s = true) : w.before a U = true := by
  have k : goodWord w = true → w.before a U = true := fun q => word_at hW (good_of_word q) h
  cases w
  case castable C T => exact va_Nw.use rfl (va_Nw.warmC hW h)
  case methodLinkNest c i x o => exact va_Nw.use rfl (va_Nw.warmM hW h)
  case declares x => exact va_Nw.use rfl (va_Nw.warmD hW h)
  all_goals exact k g
/-- an array class over arrays -/
def nk_AOA (U : State) : Prop := (Cond.arrayOver (.array .int)).before #[] U = true
theorem nk_AOA.moved {u U : State} (hvm : u.vm.Alike U.vm) (h : nk_AOA u) : nk_AOA U := by
  have hidx : ∀ comp : ClassId, (U.vm.classes.findIdx? fun (x : Class) => match x.kind with | .array component _ => component == comp | _ => false) = (u.vm.classes.findIdx? fun (x : Class) => match x.kind with | .array component _ => component == comp | _ => false) := by
    intro comp
    have e1 := va_idx_bare U.vm comp
    have e2 := va_idx_bare u.vm comp
    have e3 : U.vm.bare = u.vm.bare := by first | exact hvm.bare_eq | exact hvm.bare_eq.symm
    rw [e3] at e1
    exact e1.symm.trans e2
  unfold nk_AOA Cond.before Cond.holds at h ⊢
  simp only [Cond.value, beq_iff_eq, Option.bind_eq_some_iff, Option.map_eq_some_iff] at h ⊢
  obtain ⟨comp, h1, c, h2, k, h3, h4⟩ := h
  obtain ⟨k', hk', he⟩ := hvm.2.2 _ _ h3
  exact ⟨comp, by rw [hvm.findClass]; exact h1, c, (hidx comp).trans h2, k', hk', by rw [he, hvm.findClass]; exact h4⟩
/-- the texts of the exceptions: class, place, text -/
def nk_strs : List (String × Nat × String) := [("NotaryKiosk", 363, "no such kiosk"), ("NotaryKiosk", 366, "both kiosks are the same"), ("NotaryKiosk", 72, "they are joined"), ("NotaryKiosk", 84, "they are not joined"), ("NotaryKiosk", 374, "an argument is out of range"), ("NotaryKiosk", 90, "the hour would be above 400"), ("NotaryKiosk", 368, "no such person"), ("NotaryKiosk", 370, "giver and holder are the same"), ("NotaryKiosk", 386, "there are 160 pieces of news"), ("NotaryKiosk", 388, "there are 40 powers"), ("NotaryKiosk", 376, "no such power"), ("NotaryKiosk", 136, "the draft is not within the source"), ("NotaryKiosk", 143, "the source is not good here"), ("NotaryKiosk", 164, "the power is not known here, or is revoked"), ("NotaryKiosk", 149, "the person is the giver of no power of its line"), ("NotaryKiosk", 182, "a deputation for the kiosk has an hour in common with it"), ("NotaryKiosk", 196, "there is a reason against it"), ("NotaryKiosk", 380, "no such record"), ("NotaryKiosk", 231, "there are 12 copies"), ("NotaryKiosk", 225, "last is ahead of first"), ("NotaryKiosk", 382, "no such copy"), ("NotaryKiosk", 384, "the copy does not have so many records"), ("NotaryKiosk", 372, "no such part"), ("NotaryKiosk", 255, "the part is left out"), ("NotaryKiosk", 378, "no such piece of news")]
def nk_tys (G : nk_G) : List (ClassId × FieldType) := [(nk_gA G 1, .int), (nk_gA G 2, .boolean), (nk_gA G 3, .object "NotaryKiosk$Chain"), (nk_gA G 4, .object "java/lang/Object"), (nk_gA G 5, .array .int), (nk_gA G 6, .byte)]
/-- exceptions' classes that are apart -/
def nk_ncs : List (String × String) := [("java/lang/IllegalArgumentException", "java/lang/IndexOutOfBoundsException"), ("java/lang/IllegalStateException", "java/lang/IndexOutOfBoundsException"), ("java/lang/IndexOutOfBoundsException", "java/lang/IllegalArgumentException"), ("java/lang/IllegalStateException", "java/lang/IllegalArgumentException"), ("java/lang/IndexOutOfBoundsException", "java/lang/IllegalStateException"), ("java/lang/IllegalArgumentException", "java/lang/IllegalStateException")]
/-- the law's methods that catch, by their code: their tables -/
def nk_hhl : List (ByteArray × List (Nat × Nat × Nat × Nat)) := [
  (cL_does, [(0, 220, 221, 56), (0, 220, 226, 59), (0, 220, 231, 61)]),
  (cL_tell, [(0, 13, 14, 59)]),
  (cL_looks, [(0, 65, 66, 56)])]
def nk_rows (c : Code) : List (Nat × Nat × Nat × Nat) := c.exceptionTable.toList.map fun h => (h.startPc, h.endPc, h.handlerPc, h.catchType)
/-- no table, but for the law's own methods that catch -/
def nk_nls : List ByteArray := [cL_cell, cL_low, cL_tells, cL_act, cL_areAlike, cL_isNewsSo, cL_isActSo, cL_isTamperedSo, cL_isCopySo]
def nk_nl (own : String) (cc : ByteArray) : Prop := own ≠ "NotaryKioskLaw" ∨ cc ∈ nk_nls
def nk_Tb (own : String) (cc : ByteArray) (c : Code) : Prop := (nk_nl own cc → ∀ x ∈ c.exceptionTable.toList, False) ∧ (own = "NotaryKioskLaw" → ∀ q ∈ nk_hhl, q.1 = cc → nk_rows c = q.2)
/-- the cells that may change -/
def nk_fr (G : nk_G) : Nat → Prop := fun q => (nk_gH G).size ≤ q
/-- of the tables and of the start's heap, at any state -/
def nk_Kn (G : nk_G) (U : State) : Prop :=
  (∀ w ∈ nk_T, w.before #[] U = true) ∧ va_K (nk_gD G) nk_cl (nk_tys G) U ∧ (va_AO "NotaryKiosk$Chain" U ∧ va_AO "java/lang/Object" U ∧ nk_AOA U) ∧
  (∀ q ∈ nk_strs, ∃ sa : Nat, vk_R q.1 q.2.1 q.2.2 sa U) ∧ vx_Zq Bundle.tN "UNASSIGNED_STACK" Bundle.steD (nk_fr G) U (nk_gH G) ∧ vx_Zq Bundle.tN "SUPPRESSED_SENTINEL" Bundle.listD (nk_fr G) U (nk_gH G) ∧
  va_Z "java/util/ArrayList" "DEFAULTCAPACITY_EMPTY_ELEMENTDATA" "[Ljava/lang/Object;" (.ref (nk_gE G)) (nk_fr G) U (nk_gH G) ∧
  (∃ cell : Cell, (nk_gH G)[nk_gE G]? = some cell ∧ U.isArrayOf cell (.object "java/lang/Object") ∧ cell.slots.size = 0) ∧
  (va_X (nk_gB G) (nk_gL G) (nk_gX G) U (nk_gH G) ∧ nk_gB G < (nk_gH G).size ∧ va_Mi "[Ljava/lang/Object;" (nk_gM G) U ∧ ∀ q ∈ nk_ncs, va_Nc q.1 q.2 U)
theorem nk_Kn.warm {G : nk_G} {s U : State} (hW : s.WarmedH U.vm) (h : nk_Kn G s) : nk_Kn G U := by
  obtain ⟨k1, k2, ⟨k3, k4, k5⟩, k6, k7, k8, k9, ⟨cell, k10, k11, k12⟩, k13, k14, k15, k16⟩ := h
  have hA := hW.alike
  exact ⟨fun w hw => nk_warm1 hW (List.mem_filter.mp hw).2 _ (k1 w hw), va_K.moved hA k2, ⟨va_AO.moved hA k3, va_AO.moved hA k4, nk_AOA.moved hA k5⟩, fun q hq => by
    obtain ⟨sa, h1⟩ := k6 q hq
    exact ⟨sa, vk_R.warm hW h1⟩, vx_Zq.moved hA k7, vx_Zq.moved hA k8, va_Z.moved hA k9, ⟨cell, k10, State.isArrayOf_alike hA k11, k12⟩, va_X.moved hA k13, k14, va_Mi.moved hA k15, fun q hq => va_Nc.moved hA (k16 q hq)⟩
theorem nk_Kn.use {G : nk_G} {s : State} (h : nk_Kn G s) {w : Cond} (hw : w ∈ nk_T) (args : Array Value) : w.before args s = true := nk_warm1 (State.WarmedH.refl s) (List.mem_filter.mp hw).2 args (h.1 w hw)
/-- values of one word: an int, a reference or null -/
abbrev nk_V : Type := Int32 ⊕ Option Nat
def nk_v (t : nk_V) : Value := match t with
  | .inl x => .int x
  | .inr p => va_rf p
def nk_vs (l : List nk_V) : List Value := l.map nk_v
def nk_lv (l : List (Nat × nk_V)) : List (Nat × Value) := l.map fun q => (q.1, nk_v q.2)
theorem nk_rc (p : Option Nat) : (va_rf p).category = 1 := by cases p <;> rfl
theorem nk_vc (t : nk_V) : (nk_v t).category = 1 := by
  rcases t with x | p
  · rfl
  · exact nk_rc p
theorem nk_at {ls : Array Slot} {nL : Nat} {l : List (Nat × nk_V)} (h : lv_has ls nL (nk_lv l)) (k : Nat) {i : Nat} {t : nk_V} (hk : l[k]? = some (i, t)) : ls[i]? = some (.val (nk_v t)) :=
  lv_at h k (by unfold nk_lv; rw [List.getElem?_map, hk]; rfl)
theorem nk_sub {ls : Array Slot} {nL : Nat} {l l' : List (Nat × nk_V)} (h : lv_has ls nL (nk_lv l)) (ks : List Nat) (hl : ks.filterMap (fun k => l[k]?) = l') : lv_has ls nL (nk_lv l') := by
  refine lv_sub h ks ?_
  subst hl
  unfold lv_pick nk_lv
  rw [List.map_filterMap]
  congr 1
  funext k
  rw [List.getElem?_map]
theorem nk_setl {l l' : List (Nat × nk_V)} {i : Nat} {t : nk_V} (hl : (i, t) :: l.filter (fun q => !(q.1 == i)) = l') : (i, nk_v t) :: (nk_lv l).filter (fun q => !(q.1 == i) && !(q.1 + 1 == i && q.2.category == 2)) = nk_lv l' := by
  subst hl
  unfold nk_lv
  rw [List.filter_map, List.map_cons]
  refine congrArg (fun z : List (Nat × nk_V) => (i, nk_v t) :: z.map (fun q => (q.1, nk_v q.2))) (List.filter_congr (fun q _ => ?_))
  show (!(q.1 == i) && !(q.1 + 1 == i && (nk_v q.2).category == 2)) = _
  rw [nk_vc]
  simp
theorem nk_sum (l : List nk_V) : ((nk_vs l).map fun v => v.category).sum = l.length := by
  induction l with
  | nil => rfl
  | cons a t ih =>
    show (nk_v a).category + ((nk_vs t).map fun v => v.category).sum = t.length + 1
    rw [ih, nk_vc]
    omega
theorem nk_sl (l : List nk_V) : lg_sl (nk_vs l) = (nk_vs l).map Slot.val := by
  induction l with
  | nil => rfl
  | cons a t ih =>
    show (if (nk_v a).category = 2 then [Slot.val (nk_v a), .second] else [.val (nk_v a)]) ++ lg_sl (nk_vs t) = .val (nk_v a) :: (nk_vs t).map Slot.val
    rw [ih, nk_vc]
    rfl
theorem nk_args : ∀ (l : List nk_V) (i : Nat), lv_args i (nk_vs l) = nk_lv ((l.zipIdx i).map fun q => (q.2, q.1))
  | [], _ => rfl
  | a :: t, i => by
    show (i, nk_v a) :: lv_args (if (nk_v a).category = 2 then i + 2 else i + 1) (nk_vs t) = _
    rw [nk_vc, if_neg (by decide), nk_args t (i + 1)]
    rfl
theorem nk_noTrace {l : Launch} (h : l.flags = flags0) : l.stackTraces = false := by
  unfold Launch.stackTraces
  rw [h]
  decide +kernel
/-- a method's end: what it answers (inl) or which class it throws (inr), and the heap -/
def nk_Qc (G : nk_G) (h : nk_H) (o : Option Value ⊕ String) : Array Value → State → Outcome → State → Prop := fun _ _ out t => nk_R G h t.heap ∧ ∃ v : Option Value, o = .inl v ∧ out = .returned v
def nk_XC (G : nk_G) (h : nk_H) (o : Option Value ⊕ String) : String → State → State → Prop := fun E _ t => nk_R G h t.heap ∧ o = .inr E
def nk_Pc (G : nk_G) (h : nk_H) (vs : List nk_V) : Array Value → State → Prop := fun a U => a = (nk_vs vs).toArray ∧ nk_R G h U.heap ∧ nk_Kn G U
theorem nk_blind (G : nk_G) (h : nk_H) (vs : List nk_V) : FrameBlind (nk_Pc G h vs) := by
  intro a U g mk ⟨h1, h2, h3⟩
  exact ⟨h1, h2, nk_Kn.warm (s := U) (U := U.calling g mk a) (State.WarmedH.refl U) h3⟩
/-- answers as outcomes -/
def nk_eV : Unit → Option Value ⊕ String := fun _ => .inl none
def nk_eI : Int32 → Option Value ⊕ String := fun x => .inl (some (.int x))
def nk_eR : Option Nat → Option Value ⊕ String := fun p => .inl (some (va_rf p))
def nk_eVt : Unit ⊕ String → Option Value ⊕ String := fun r => match r with
  | .inl _ => .inl none
  | .inr E => .inr E
def nk_eIt : Int32 ⊕ String → Option Value ⊕ String := fun r => match r with
  | .inl x => .inl (some (.int x))
  | .inr E => .inr E
/-- a method's contract: from any heap where its function has an answer -/
def nk_Con {α : Type} (G : nk_G) (l : Launch) (y : MethodName) (cc : ByteArray) (nL : Nat) (ret : Option FieldType) (fr lo : Nat) (en : α → Option Value ⊕ String) (vs : List nk_V) (h : nk_H) (f : Option (nk_H × α)) : Prop :=
  ∀ (h' : nk_H) (r : α), f = some (h', r) → nk_N h ≤ nk_N h' ∧ nk_S h ≤ nk_S h' ∧
    vx_Met l y [Cond.code y cc nL ret] { frames := fr, cells := nk_N h' - nk_N h, slots := nk_S h' - nk_S h, locals := lo } (nk_Pc G h vs) (nk_Qc G h' (en r)) (nk_XC G h' (en r)) (nk_N h' - nk_N h) (nk_S h' - nk_S h) (nk_fr G)
/-- a frame's surroundings -/
def nk_X (G : nk_G) (l : Launch) (own : String) (cc : ByteArray) (nL : Nat) (ret : Option FieldType) (fr lo : Nat) (ini : Bool) (p : Program) (R : Room) (s : State) (m : MethodId) (meth : Method) (c : Code) : Prop :=
  p.tables.exec = Jvm.exec ∧ c.code = cc ∧ c.maxLocals = nL ∧ meth.sig.returnType = ret ∧ meth.locks = false ∧ s.vm.findClass own = some m.cls ∧ nk_Kn G s ∧
  ((nk_gH G).size ≤ s.heap.size ∧ ∀ a : Nat, a < (nk_gH G).size → s.heap[a]? = (nk_gH G)[a]?) ∧ fr ≤ R.frames ∧ lo ≤ R.locals ∧ nk_Tb own cc c ∧ l.stackTraces = false ∧ (ini = true → meth.name = "<init>")
/-- a walk from here: wherever the frame stands in a heap that the abstract one pictures, if the function has an answer, the method comes to it -/
def nk_Sim {α : Type} (G : nk_G) (l : Launch) (own : String) (cc : ByteArray) (nL : Nat) (ret : Option FieldType) (fr lo : Nat) (ini : Bool) (en : α → Option Value ⊕ String) (pc : Nat) (lv : List (Nat × nk_V)) (st : List nk_V) (h : nk_H) (f : Option (nk_H × α)) : Prop :=
  ∀ (h' : nk_H) (r : α), f = some (h', r) → nk_N h ≤ nk_N h' ∧ nk_S h ≤ nk_S h' ∧
    ∀ (p : Program) (e : Env) (R : Room) (s : State) (m : MethodId) (args : Array Value) (below : List Frame) (meth : Method) (c : Code), nk_X G l own cc nL ret fr lo ini p R s m meth c →
    ∀ (sb : Nat), s.heap.size ≤ nk_N h → sb ≤ nk_S h → nk_N h' - s.heap.size ≤ R.cells → nk_S h' - sb ≤ R.slots →
    ∀ (H : Heap) (ls : Array Slot) (locs : List Loc), nk_R G h H → lv_has ls nL (nk_lv lv) → (∀ q ∈ locs, nk_fr G q.base) →
      W p l e R s m args below meth c H locs (nk_N h - s.heap.size) (nk_S h - sb) (vx_MQ below (nk_Qc G h' (en r)) (nk_XC G h' (en r)) args s (nk_N h' - s.heap.size) (nk_S h' - sb) (nk_fr G)) (F0 m pc ls (nk_vs st))
section NKS
variable {α : Type} {G : nk_G} {l : Launch} {own : String} {cc : ByteArray} {nL : Nat} {ret : Option FieldType} {fr lo : Nat} {ini : Bool} {en : α → Option Value ⊕ String} {pc pc' : Nat} {lv lv' : List (Nat × nk_V)} {st st' : List nk_V} {h h1 : nk_H} {f : Option (nk_H × α)}
/-- a step that leaves the heap -/
theorem nk_pure (step : ∀ (p : Program) (e : Env) (R : Room) (s : State) (m : MethodId) (args : Array Value) (below : List Frame) (meth : Method) (c : Code) (H : Heap) (locs : List Loc) (cells slots : Nat) (Q : State → Prop) (ls : Array Slot), nk_X G l own cc nL ret fr lo ini p R s m meth c → nk_R G h H → lv_has ls nL (nk_lv lv) →
      (∀ ls' : Array Slot, lv_has ls' nL (nk_lv lv') → W p l e R s m args below meth c H locs cells slots Q (F0 m pc' ls' (nk_vs st'))) → W p l e R s m args below meth c H locs cells slots Q (F0 m pc ls (nk_vs st)))
    (k : nk_Sim G l own cc nL ret fr lo ini en pc' lv' st' h f) : nk_Sim G l own cc nL ret fr lo ini en pc lv st h f := by
  intro h' r hf
  obtain ⟨k1, k2, k3⟩ := k h' r hf
  refine ⟨k1, k2, fun p e R s m args below meth c X sb b1 b2 b3 b4 H ls locs hR hl hq => ?_⟩
  exact step p e R s m args below meth c H locs _ _ _ ls X hR hl (fun ls' hl' => k3 p e R s m args below meth c X sb b1 b2 b3 b4 H ls' locs hR hl' hq)
/-- a step that writes old cells of ours -/
theorem nk_heap (hN : nk_N h1 = nk_N h) (hS : nk_S h1 = nk_S h) (step : ∀ (p : Program) (e : Env) (R : Room) (s : State) (m : MethodId) (args : Array Value) (below : List Frame) (meth : Method) (c : Code) (H : Heap) (locs : List Loc) (cells slots : Nat) (Q : State → Prop) (ls : Array Slot), nk_X G l own cc nL ret fr lo ini p R s m meth c → nk_R G h H → lv_has ls nL (nk_lv lv) → (∀ q ∈ locs, nk_fr G q.base) →
      (∀ (H1 : Heap) (locs1 : List Loc), nk_R G h1 H1 → (∀ q ∈ locs1, nk_fr G q.base) → W p l e R s m args below meth c H1 locs1 cells slots Q (F0 m pc' ls (nk_vs st'))) → W p l e R s m args below meth c H locs cells slots Q (F0 m pc ls (nk_vs st)))
    (k : nk_Sim G l own cc nL ret fr lo ini en pc' lv st' h1 f) : nk_Sim G l own cc nL ret fr lo ini en pc lv st h f := by
  intro h' r hf
  obtain ⟨k1, k2, k3⟩ := k h' r hf
  rw [hN] at k1 k3
  rw [hS] at k2 k3
  refine ⟨k1, k2, fun p e R s m args below meth c X sb b1 b2 b3 b4 H ls locs hR hl hq => ?_⟩
  exact step p e R s m args below meth c H locs _ _ _ ls X hR hl hq (fun H1 locs1 hR1 hq1 => k3 p e R s m args below meth c X sb b1 b2 b3 b4 H1 ls locs1 hR1 hl hq1)
/-- a step that makes a cell of w slots -/
theorem nk_new {c0 n w : Nat} (step : ∀ (p : Program) (e : Env) (R : Room) (s : State) (m : MethodId) (args : Array Value) (below : List Frame) (meth : Method) (c : Code) (H : Heap) (locs : List Loc) (cells slots : Nat) (Q : State → Prop) (ls : Array Slot), nk_X G l own cc nL ret fr lo ini p R s m meth c → nk_R G h H → lv_has ls nL (nk_lv lv) → cells + 1 ≤ R.cells → slots + w ≤ R.slots →
      (∀ (H1 : Heap), nk_R G (nk_al h c0 n w) H1 → W p l e R s m args below meth c H1 locs (cells + 1) (slots + w) Q (F0 m pc' ls (nk_vs st'))) → W p l e R s m args below meth c H locs cells slots Q (F0 m pc ls (nk_vs st)))
    (k : nk_Sim G l own cc nL ret fr lo ini en pc' lv st' (nk_al h c0 n w) f) : nk_Sim G l own cc nL ret fr lo ini en pc lv st h f := by
  intro h' r hf
  obtain ⟨k1, k2, k3⟩ := k h' r hf
  rw [nk_N_al] at k1 k3
  rw [nk_S_al] at k2 k3
  refine ⟨by omega, by omega, fun p e R s m args below meth c X sb b1 b2 b3 b4 H ls locs hR hl hq => ?_⟩
  refine step p e R s m args below meth c H locs _ _ _ ls X hR hl (by omega) (by omega) (fun H1 hR1 => ?_)
  have := k3 p e R s m args below meth c X sb (by omega) (by omega) b3 b4 H1 ls locs hR1 hl hq
  rw [show nk_N h + 1 - s.heap.size = nk_N h - s.heap.size + 1 by omega, show nk_S h + w - sb = nk_S h - sb + w by omega] at this
  exact this
/-- no answer: nothing to show -/
theorem nk_none : nk_Sim G l own cc nL ret fr lo ini en pc lv st h none := fun _ _ hf => nomatch hf
/-- a part of the function that may have no answer -/
theorem nk_bind {β : Type} {x : Option β} {F : β → Option (nk_H × α)} (k : ∀ v : β, x = some v → nk_Sim G l own cc nL ret fr lo ini en pc lv st h (F v)) : nk_Sim G l own cc nL ret fr lo ini en pc lv st h (x.bind F) := by
  cases hx : x with
  | none => exact nk_none
  | some v => exact k v hx
theorem nk_locals (ks : List Nat) (hl : ks.filterMap (fun k => lv[k]?) = lv') (k : nk_Sim G l own cc nL ret fr lo ini en pc lv' st h f) : nk_Sim G l own cc nL ret fr lo ini en pc lv st h f :=
  nk_pure (fun p e R s m args below meth c H locs cells slots Q ls X hR hl' kk => kk ls (nk_sub hl' ks hl)) k
end NKS
