section NKX
variable {p : Program} {l : Launch} {e : Env} {R : Room} {s : State} {m : MethodId} {args : Array Value} {below : List Frame} {meth : Method} {c : Code} {H : Heap} {locs : List Loc} {cells slots : Nat}
variable {mc ms : Nat} {free : Addr → Prop} {ls : Array Slot} {rest : List Value} {Qc : Array Value → State → Outcome → State → Prop} {XC : String → State → State → Prop}
/-! the two laws of a throw, with how many cells there are behind it (out of the kit's vx_throwS, vx_throwSW) -/
theorem nk_throwS {cc : ByteArray} {pc : Nat} (hexec : p.tables.exec = Jvm.exec) (hb : c.code = cc) (hl : l.stackTraces = false) {own cls text : String} {names : List String} {ik is ic mc ms sa : Nat} {A : Nat → Prop}
    (hown : s.vm.findClass own = some m.cls) (hcls : Bundle.fit cls = true) (hnames : ∀ n ∈ names, Bundle.fit n = true)
    (hk : (Cond.classLink own ik cls).before args s = true) (hini : (Cond.initialized cls).before args s = true) (hstr : vk_R own is text sa s) (hat : ∀ w ∈ vx_atS own ic cls names, w.before args s = true)
    (hgood : ∀ w ∈ Cond.classLink own ik cls :: Cond.initialized cls :: vx_atS own ic cls names, vx_ot w = true)
    (hU : vx_Zq Bundle.tN "UNASSIGNED_STACK" Bundle.steD A s s.heap) (hN : vx_Zq Bundle.tN "SUPPRESSED_SENTINEL" Bundle.listD A s s.heap) (hS : va_S A s.heap H locs) (hsize : ls.size = c.maxLocals)
    (d0 : decode cc pc = .ok (.new ik, 3)) (d3 : decode cc (pc + 3) = .ok (.dup, 1)) (d4 : decode cc (pc + 4) = .ok (.ldc is, 2)) (d6 : decode cc (pc + 6) = .ok (.invokespecial ic, 3)) (d9 : decode cc (pc + 9) = .ok (.athrow, 1))
    (hout : ∀ x ∈ c.exceptionTable.toList, covers x (pc + 9) = false)
    (hRframes : names.length + 3 < R.frames) (hRlocals : (rest.map fun v => v.category).sum + (13 * (names.length + 1) + 43) ≤ R.locals) (hRcells : cells + 1 ≤ R.cells) (hRslots : slots + 6 ≤ R.slots) (hlocks : meth.locks = false)
    (hx : ∀ t : State, s.vm.Alike t.vm → t.heap.size = H.size + 1 → (∀ q : Nat, q < H.size → t.heap[q]? = H[q]?) → XC cls s t)
    (hf : ∀ z ∈ locs, free z.base) (hc : cells + 1 ≤ mc) (hs : slots + 6 ≤ ms) :
    W p l e R s m args below meth c H locs cells slots (vx_MQ below Qc XC args s mc ms free) (F0 m pc ls rest) := by
  intro T hT X
  have htr : e.platform.stackTraces = false := (show e.platform.stackTraces = l.stackTraces by rw [X.admits.platform]).trans hl
  have Y := vx_rebase X (R' := { frames := R.frames, locals := R.locals, cells := 1, slots := 6 }) (Nat.le_refl _) (Nat.le_refl _) hRcells hRslots
  obtain ⟨s', hA⟩ : ∃ z, z = (T.setVm s.vm).setFrames (.invoking m args :: below) := ⟨_, rfl⟩
  rw [← hA] at Y
  have hvm : s'.vm = s.vm := by rw [hA]; rfl
  have hhp : s'.heap = H := by rw [hA]; exact hT
  have hW0 : s.WarmedH s'.vm := by rw [hvm]; exact State.WarmedH.refl s
  have hat' : ∀ w ∈ vx_atS own ic cls names, w.before args s' = true := fun w hw => vx_ot_at hW0 hvm.symm (hgood w (List.mem_cons_of_mem _ (List.mem_cons_of_mem _ hw))) (hat w hw)
  have hk' : (Cond.classLink own ik cls).before args s' = true := vx_ot_at hW0 hvm.symm (hgood _ List.mem_cons_self) hk
  have hini' : (Cond.initialized cls).before args s' = true := vx_ot_at hW0 hvm.symm (hgood _ (List.mem_cons_of_mem _ List.mem_cons_self)) hini
  have hU' : vx_Zq Bundle.tN "UNASSIGNED_STACK" Bundle.steD A s' s'.heap := by rw [hhp]; exact vx_Zq.moved hW0.alike (hU.kept hS.2.1)
  have hN' : vx_Zq Bundle.tN "SUPPRESSED_SENTINEL" Bundle.listD A s' s'.heap := by rw [hhp]; exact vx_Zq.moved hW0.alike (hN.kept hS.2.1)
  have h : ∀ w ∈ Bundle.ownAtoms own ic cls names, w.before args s' = true := vx_own hat' (vx_isRefq hU'.1) (vx_isRefq hN'.1) hU'.2.word hN'.2.word
  have hown' : s'.vm.findClass own = some m.cls := by rw [hvm]; exact hown
  have hins : (Cond.instantiable cls 6).before args s' = true := h _ (by simp [Bundle.ownAtoms])
  obtain ⟨vm₁, cX, kX, hfX, hkX, -, -, X₁, st1⟩ := Y.newCold hexec (own := own) (C := cls) (index := ik) (n := 6) hown' hk' hins hini'
    (g := F0 m pc ls rest) rfl (by rw [hb]; exact d0) (Nat.le_refl _) (Nat.le_refl _)
  generalize hT1 : (T.setVm vm₁).pushCell { cls := cX, slots := kX.instanceTypes.map defaultValue, vm := .none } = T1 at X₁ st1
  have hcat : (Value.ref T.heap.size).category = 1 := rfl
  have hcellA : T1.heap[T.heap.size]? = some (freshCell cX kX) := by rw [← hT1]; exact State.heap_pushCell_size _ _
  have d3' : decode c.code (pc + 3) = .ok (.dup, 1) := by rw [hb]; exact d3
  have d4' : decode c.code (pc + 4) = .ok (.ldc is, 2) := by rw [hb]; exact d4
  have hstr' : vk_R own is text sa s' := vk_R.warm hW0 hstr
  obtain ⟨U, hsteps, hrun, hend, hW, hsame, ce, hce, hO⟩ := X₁.ctorThrowS hexec htr (own := own) (cls := cls) (names := names) (ic := ic) hown' hcls hnames h (fun x hx => nomatch hx) hfX hkX hcellA (by rw [hhp, hT]; exact Nat.le_refl _) (msg := .ref sa) rfl
    (g := { method := m, pc := pc + 6, locals := ls, stack := .ref sa :: .ref T.heap.size :: .ref T.heap.size :: rest, locked := none }) rfl hsize rfl rfl (rest := rest) rfl
    (by rw [hb]; exact d6) (by rw [hb]; exact d9) hout hRframes (by simp only [List.map_cons, List.sum_cons, hcat]; omega) hlocks
  obtain ⟨f1, f2⟩ := vx_frame hsame
  rw [hhp] at f1 f2
  have hsz9 : U.heap.size = H.size + 1 := by
    have h1 : T.heap.size < U.heap.size := (Array.getElem?_eq_some_iff.mp hce).1
    have h2 : U.heap.size ≤ s'.heap.size + 1 := hsame.2.2.1
    rw [hhp] at h2
    rw [hT] at h1
    omega
  have hWs : s.WarmedH U.vm := State.WarmedH.trans hW0 hW
  have hcl : s.vm.findClass cls = some ce.cls := by
    have h9 := hO.cls
    rw [hvm] at h9
    exact h9
  have hall : s.sameButNew ({ U with vm := s.vm } : State) locs mc ms := by
    subst hA
    obtain ⟨e1, e2⟩ := hsame
    rw [State.setFrames_setFrames] at e1
    have h2 : (T.setVm s.vm).sameButNew ({ U with vm := s.vm } : State) [] (0 + 1) (0 + 6) := ⟨e1, e2⟩
    have h3 := X.same.trans h2
    rw [List.append_nil] at h3
    exact h3.mono hc hs
  refine ⟨U, ?_, .threw T.heap.size, hrun, hend, Or.inr ⟨T.heap.size, rfl, cls, ce, locs, hx U hWs.alike hsz9 (fun q hq => f2 q hq (fun z hz => nomatch hz)), hce, hO.vm, hcl, hWs, hall, hf⟩⟩
  refine st1 _ ?_
  show Steps p.tables e below (T1.setTop { method := m, pc := pc + 3, locals := ls, stack := .ref T.heap.size :: rest, locked := none }) _
  jvm_step X₁.here [X₁.here.top, hexec, d3', Value.category]
  exact X₁.ldcString hexec (own := own) (text := text) (index := is) (a := sa) hown' hstr'.1 hstr'.2
    (g := { method := m, pc := pc + 4, locals := ls, stack := .ref T.heap.size :: .ref T.heap.size :: rest, locked := none }) rfl d4' _ hsteps
theorem nk_throwSW {cc : ByteArray} {pc : Nat} (hexec : p.tables.exec = Jvm.exec) (hb : c.code = cc) (hl : l.stackTraces = false) {own cls text : String} {names : List String} {ik is ic mc ms sa : Nat} {A : Nat → Prop}
    (hown : s.vm.findClass own = some m.cls) (hcls : Bundle.fit cls = true) (hnames : ∀ n ∈ names, Bundle.fit n = true)
    (hk : (Cond.classLink own ik cls).before args s = true) (hini : (Cond.initialized cls).before args s = true) (hstr : vk_R own is text sa s) (hat : ∀ w ∈ vx_atS own ic cls names, w.before args s = true)
    (hgood : ∀ w ∈ Cond.classLink own ik cls :: Cond.initialized cls :: vx_atS own ic cls names, vx_ot w = true)
    (hU : vx_Zq Bundle.tN "UNASSIGNED_STACK" Bundle.steD A s s.heap) (hN : vx_Zq Bundle.tN "SUPPRESSED_SENTINEL" Bundle.listD A s s.heap) (hS : va_S A s.heap H locs) (hsize : ls.size = c.maxLocals)
    (d0 : decode cc pc = .ok (.new ik, 3)) (d3 : decode cc (pc + 3) = .ok (.dup, 1)) (d4 : decode cc (pc + 4) = .ok (.ldc_w is, 3)) (d7 : decode cc (pc + 7) = .ok (.invokespecial ic, 3)) (d10 : decode cc (pc + 10) = .ok (.athrow, 1))
    (hout : ∀ x ∈ c.exceptionTable.toList, covers x (pc + 10) = false)
    (hRframes : names.length + 3 < R.frames) (hRlocals : (rest.map fun v => v.category).sum + (13 * (names.length + 1) + 43) ≤ R.locals) (hRcells : cells + 1 ≤ R.cells) (hRslots : slots + 6 ≤ R.slots) (hlocks : meth.locks = false)
    (hx : ∀ t : State, s.vm.Alike t.vm → t.heap.size = H.size + 1 → (∀ q : Nat, q < H.size → t.heap[q]? = H[q]?) → XC cls s t)
    (hf : ∀ z ∈ locs, free z.base) (hc : cells + 1 ≤ mc) (hs : slots + 6 ≤ ms) :
    W p l e R s m args below meth c H locs cells slots (vx_MQ below Qc XC args s mc ms free) (F0 m pc ls rest) := by
  intro T hT X
  have htr : e.platform.stackTraces = false := (show e.platform.stackTraces = l.stackTraces by rw [X.admits.platform]).trans hl
  have Y := vx_rebase X (R' := { frames := R.frames, locals := R.locals, cells := 1, slots := 6 }) (Nat.le_refl _) (Nat.le_refl _) hRcells hRslots
  obtain ⟨s', hA⟩ : ∃ z, z = (T.setVm s.vm).setFrames (.invoking m args :: below) := ⟨_, rfl⟩
  rw [← hA] at Y
  have hvm : s'.vm = s.vm := by rw [hA]; rfl
  have hhp : s'.heap = H := by rw [hA]; exact hT
  have hW0 : s.WarmedH s'.vm := by rw [hvm]; exact State.WarmedH.refl s
  have hat' : ∀ w ∈ vx_atS own ic cls names, w.before args s' = true := fun w hw => vx_ot_at hW0 hvm.symm (hgood w (List.mem_cons_of_mem _ (List.mem_cons_of_mem _ hw))) (hat w hw)
  have hk' : (Cond.classLink own ik cls).before args s' = true := vx_ot_at hW0 hvm.symm (hgood _ List.mem_cons_self) hk
  have hini' : (Cond.initialized cls).before args s' = true := vx_ot_at hW0 hvm.symm (hgood _ (List.mem_cons_of_mem _ List.mem_cons_self)) hini
  have hU' : vx_Zq Bundle.tN "UNASSIGNED_STACK" Bundle.steD A s' s'.heap := by rw [hhp]; exact vx_Zq.moved hW0.alike (hU.kept hS.2.1)
  have hN' : vx_Zq Bundle.tN "SUPPRESSED_SENTINEL" Bundle.listD A s' s'.heap := by rw [hhp]; exact vx_Zq.moved hW0.alike (hN.kept hS.2.1)
  have h : ∀ w ∈ Bundle.ownAtoms own ic cls names, w.before args s' = true := vx_own hat' (vx_isRefq hU'.1) (vx_isRefq hN'.1) hU'.2.word hN'.2.word
  have hown' : s'.vm.findClass own = some m.cls := by rw [hvm]; exact hown
  have hins : (Cond.instantiable cls 6).before args s' = true := h _ (by simp [Bundle.ownAtoms])
  obtain ⟨vm₁, cX, kX, hfX, hkX, -, -, X₁, st1⟩ := Y.newCold hexec (own := own) (C := cls) (index := ik) (n := 6) hown' hk' hins hini'
    (g := F0 m pc ls rest) rfl (by rw [hb]; exact d0) (Nat.le_refl _) (Nat.le_refl _)
  generalize hT1 : (T.setVm vm₁).pushCell { cls := cX, slots := kX.instanceTypes.map defaultValue, vm := .none } = T1 at X₁ st1
  have hcat : (Value.ref T.heap.size).category = 1 := rfl
  have hcellA : T1.heap[T.heap.size]? = some (freshCell cX kX) := by rw [← hT1]; exact State.heap_pushCell_size _ _
  have d3' : decode c.code (pc + 3) = .ok (.dup, 1) := by rw [hb]; exact d3
  have d4' : decode c.code (pc + 4) = .ok (.ldc_w is, 3) := by rw [hb]; exact d4
  have hstr' : vk_R own is text sa s' := vk_R.warm hW0 hstr
  obtain ⟨U, hsteps, hrun, hend, hW, hsame, ce, hce, hO⟩ := X₁.ctorThrowS hexec htr (own := own) (cls := cls) (names := names) (ic := ic) hown' hcls hnames h (fun x hx => nomatch hx) hfX hkX hcellA (by rw [hhp, hT]; exact Nat.le_refl _) (msg := .ref sa) rfl
    (g := { method := m, pc := pc + 7, locals := ls, stack := .ref sa :: .ref T.heap.size :: .ref T.heap.size :: rest, locked := none }) rfl hsize rfl rfl (rest := rest) rfl
    (by rw [hb]; exact d7) (by rw [hb]; exact d10) hout hRframes (by simp only [List.map_cons, List.sum_cons, hcat]; omega) hlocks
  obtain ⟨f1, f2⟩ := vx_frame hsame
  rw [hhp] at f1 f2
  have hsz9 : U.heap.size = H.size + 1 := by
    have h1 : T.heap.size < U.heap.size := (Array.getElem?_eq_some_iff.mp hce).1
    have h2 : U.heap.size ≤ s'.heap.size + 1 := hsame.2.2.1
    rw [hhp] at h2
    rw [hT] at h1
    omega
  have hWs : s.WarmedH U.vm := State.WarmedH.trans hW0 hW
  have hcl : s.vm.findClass cls = some ce.cls := by
    have h9 := hO.cls
    rw [hvm] at h9
    exact h9
  have hall : s.sameButNew ({ U with vm := s.vm } : State) locs mc ms := by
    subst hA
    obtain ⟨e1, e2⟩ := hsame
    rw [State.setFrames_setFrames] at e1
    have h2 : (T.setVm s.vm).sameButNew ({ U with vm := s.vm } : State) [] (0 + 1) (0 + 6) := ⟨e1, e2⟩
    have h3 := X.same.trans h2
    rw [List.append_nil] at h3
    exact h3.mono hc hs
  refine ⟨U, ?_, .threw T.heap.size, hrun, hend, Or.inr ⟨T.heap.size, rfl, cls, ce, locs, hx U hWs.alike hsz9 (fun q hq => f2 q hq (fun z hz => nomatch hz)), hce, hO.vm, hcl, hWs, hall, hf⟩⟩
  refine st1 _ ?_
  show Steps p.tables e below (T1.setTop { method := m, pc := pc + 3, locals := ls, stack := .ref T.heap.size :: rest, locked := none }) _
  jvm_step X₁.here [X₁.here.top, hexec, d3', Value.category]
  exact X₁.ldcStringW hexec (own := own) (text := text) (index := is) (a := sa) hown' hstr'.1 hstr'.2
    (g := { method := m, pc := pc + 4, locals := ls, stack := .ref T.heap.size :: .ref T.heap.size :: rest, locked := none }) rfl d4' _ hsteps
end NKX
/-! ===== makings, ends, throws, calls ===== -/
section NKC
variable {α : Type} {G : nk_G} {l : Launch} {own : String} {cc : ByteArray} {nL : Nat} {ret : Option FieldType} {fr lo : Nat} {ini : Bool} {en : α → Option Value ⊕ String} {pc : Nat} {lv lv2 : List (Nat × nk_V)} {st : List nk_V} {h : nk_H} {f fA fB : Option (nk_H × α)}
theorem nr_new {i w : Nat} (ci : Nat) {q : vw_C} (hq : nk_cl[ci]? = some q) (d : decode cc pc = .ok (.new i, 3)) (w1 : Cond.classLink own i q.1 ∈ nk_T) (w2 : Cond.instantiable q.1 q.2.2 ∈ nk_T) (w3 : Cond.initialized q.1 ∈ nk_T) (hw : q.2.2 = w)
    (k : nk_Sim G l own cc nL ret fr lo ini en (pc + 3) lv (.inr (some (nk_N h)) :: st) (nk_al h (ci + 7) 0 w) f) : nk_Sim G l own cc nL ret fr lo ini en pc lv st h f := by
  subst hw
  refine nk_new (fun p e R s m args below meth c H locs cells slots Q ls X hR hl hc hs k9 => ?_) k
  have hKn := X.2.2.2.2.2.2.1.2.1.1 ci q hq
  obtain ⟨hin, ⟨ty, hty, hdef⟩, -⟩ := nk_cls ci q hq
  have hts : ∀ w ∈ nk_T, w.before args s = true := fun w hw => X.2.2.2.2.2.2.1.use hw args
  refine W.newcK X.1 X.2.1 X.2.2.2.2.2.1 (hts _ w1) (hts _ w2) (hts _ w3) rfl d hc hs hKn.2.1 rfl fun H1 kC hkC e1 z1 o1 => ?_
  have hci : ci < 13 := (List.getElem?_eq_some_iff.mp hq).1
  have := k9 H1 (nk_R_al hR z1 o1 (by omega) (fun _ h2 => by omega) (fun ci' q' h1 h2 => by
    have e9 : ci' = ci := by omega
    subst e9
    cases hq.symm.trans h2
    rw [← hR.1]
    refine (u_born ty hts hin hKn hkC e1 hty).to (fun j hj => ?_)
    rw [hdef j hj, hR.1]
    unfold nk_fv
    rw [nk_P_al, nk_I_al, nk_u1_eq, nk_u1_eq]))
  rw [← hR.1] at this
  exact this
theorem nk_arr0 (G : nk_G) (h : nk_H) (H1 : Heap) (c n w : Nat) (x : Value) (h1 : 1 ≤ c) (h6 : c ≤ 6) (hx : ∀ j, nk_el (nk_al h c n w) c (nk_N h) j = x) (e : H1[nk_N h]? = some (arrV (nk_gA G c) n (fun _ => x))) : H1[nk_N h]? = some (arrV (nk_gA G c) n (nk_el (nk_al h c n w) c (nk_N h))) := by
  rw [e]
  congr 2
  funext j
  exact (hx j).symm
theorem nr_newarray {n : Int32} {at9 : ArrayType} (c : Nat) {F : nk_H → Option (nk_H × α)} (hc : (c = 1 ∧ at9 = .int) ∨ (c = 2 ∧ at9 = .boolean)) (d : decode cc pc = .ok (.newarray at9, 2)) (w : Cond.arrayClass (newarray.typeOf at9) ∈ nk_T)
    (k : ∀ h1, nk_Sim G l own cc nL ret fr lo ini en (pc + 2) lv (.inr (some (nk_N h)) :: st) h1 (F h1)) : nk_Sim G l own cc nL ret fr lo ini en pc lv (.inl n :: st) h ((nk_na c h n).bind F) := by
  refine nk_bind (fun h1 hv => ?_)
  by_cases hm : ¬ n < 0 ∧ n.toNatClampNeg ≤ 65536
  · have hv2 : nk_al h c n.toNatClampNeg n.toNatClampNeg = h1 := Option.some.inj ((if_pos hm).symm.trans hv)
    subst hv2
    refine nk_new (fun p e R s m args below meth cd H locs cells slots Q ls X hR hl hcl hsl k9 => ?_) (k _)
    have hts : ∀ w ∈ nk_T, w.before args s = true := fun w hw => X.2.2.2.2.2.2.1.use hw args
    have hb : n.toNatClampNeg * componentBytes (newarray.typeOf at9) ≤ 536870912 := by
      have h8 : componentBytes (newarray.typeOf at9) ≤ 8 := by
        rcases hc with ⟨-, rfl⟩ | ⟨-, rfl⟩ <;> decide
      exact Nat.le_trans (Nat.mul_le_mul hm.2 h8) (Nat.le_of_ble_eq_true rfl)
    refine va_newaK X.1 X.2.1 (hts _ w) rfl d rfl hm.1 rfl hb hcl hsl hR.1 (fun H1 cA e1 z1 o1 _ hnm => ?_)
    refine k9 H1 (nk_R_al hR (by rw [z1, hR.1]) (fun x hx => o1 x (by rw [← hR.1]; exact hx)) (by rcases hc with ⟨rfl, -⟩ | ⟨rfl, -⟩ <;> decide) (fun h1 h6 => ?_) (fun ci q h1 _ => by rcases hc with ⟨rfl, -⟩ | ⟨rfl, -⟩ <;> omega))
    rcases hc with ⟨rfl, rfl⟩ | ⟨rfl, rfl⟩
    · have e9 : cA = nk_gA G 1 := Option.some.inj (hnm.symm.trans (nk_tyAt X.2.2.2.2.2.2.1 0 rfl).2)
      rw [e9] at e1
      exact nk_arr0 G h H1 1 _ _ _ (by omega) (by omega) (fun j => by unfold nk_el; rw [nk_I_al, nk_u1_eq]; rfl) e1
    · have e9 : cA = nk_gA G 2 := Option.some.inj (hnm.symm.trans (nk_tyAt X.2.2.2.2.2.2.1 1 rfl).2)
      rw [e9] at e1
      exact nk_arr0 G h H1 2 _ _ _ (by omega) (by omega) (fun j => by unfold nk_el; rw [nk_I_al, nk_u1_eq]; rfl) e1
  · exact absurd ((if_neg hm).symm.trans hv) (fun z => nomatch z)
theorem nr_anewarray {n : Int32} {i : Nat} (c : Nat) {C : String} {F : nk_H → Option (nk_H × α)} (hc : (c = 3 ∧ C = "NotaryKiosk$Chain") ∨ (c = 4 ∧ C = "java/lang/Object")) (d : decode cc pc = .ok (.anewarray i, 3)) (w : Cond.classLink own i C ∈ nk_T)
    (k : ∀ h1, nk_Sim G l own cc nL ret fr lo ini en (pc + 3) lv (.inr (some (nk_N h)) :: st) h1 (F h1)) : nk_Sim G l own cc nL ret fr lo ini en pc lv (.inl n :: st) h ((nk_na c h n).bind F) := by
  refine nk_bind (fun h1 hv => ?_)
  by_cases hm : ¬ n < 0 ∧ n.toNatClampNeg ≤ 65536
  · have hv2 : nk_al h c n.toNatClampNeg n.toNatClampNeg = h1 := Option.some.inj ((if_pos hm).symm.trans hv)
    subst hv2
    refine nk_new (fun p e R s m args below meth cd H locs cells slots Q ls X hR hl hcl hsl k9 => ?_) (k _)
    have hts : ∀ w ∈ nk_T, w.before args s = true := fun w hw => X.2.2.2.2.2.2.1.use hw args
    have hov : (Cond.arrayOver (.object C)).before args s = true := by
      rcases hc with ⟨-, rfl⟩ | ⟨-, rfl⟩
      · exact va_AO.use X.2.2.2.2.2.2.1.2.2.1.1
      · exact va_AO.use X.2.2.2.2.2.2.1.2.2.1.2.1
    have h1 : H.size = nk_N h := hR.1
    refine W.anew X.1 X.2.1 X.2.2.2.2.2.1 (hts _ w) hov rfl d rfl hm.1 (Nat.le_trans (Nat.mul_le_mul_right 4 hm.2) (Nat.le_of_ble_eq_true rfl)) hcl hsl (fun cA kA comp f1 f2 f3 f4 => ?_)
    have hR1 : nk_R G (nk_al h c n.toNatClampNeg n.toNatClampNeg) (H.push { cls := cA, slots := Array.replicate n.toNatClampNeg .null, vm := .none }) := by
      refine nk_R_al hR (by simp) (fun x hx => by rw [Array.getElem?_push, if_neg (Nat.ne_of_lt hx)]) (by rcases hc with ⟨rfl, -⟩ | ⟨rfl, -⟩ <;> decide) (fun _ _ => ?_) (fun ci q h1 _ => by rcases hc with ⟨rfl, -⟩ | ⟨rfl, -⟩ <;> omega)
      have e1 : (H.push { cls := cA, slots := Array.replicate n.toNatClampNeg .null, vm := .none })[nk_N h]? = some (arrV cA n.toNatClampNeg (fun _ => .null)) := by
        rw [← arrV_new, ← h1]; simp
      rcases hc with ⟨rfl, rfl⟩ | ⟨rfl, rfl⟩
      · obtain ⟨_, _, _, _, _, g4⟩ := (nk_tyAt X.2.2.2.2.2.2.1 2 rfl).2
        have e9 : cA = nk_gA G 3 := Option.some.inj (f1.symm.trans g4)
        rw [e9] at e1 ⊢
        exact nk_arr0 G h _ 3 _ _ _ (by omega) (by omega) (fun j => by unfold nk_el; rw [nk_P_al, nk_u1_eq]; rfl) e1
      · obtain ⟨_, _, _, _, _, g4⟩ := (nk_tyAt X.2.2.2.2.2.2.1 3 rfl).2
        have e9 : cA = nk_gA G 4 := Option.some.inj (f1.symm.trans g4)
        rw [e9] at e1 ⊢
        exact nk_arr0 G h _ 4 _ _ _ (by omega) (by omega) (fun j => by unfold nk_el; rw [nk_P_al, nk_u1_eq]; rfl) e1
    have := k9 _ hR1
    rw [← h1] at this
    exact this
  · exact absurd ((if_neg hm).symm.trans hv) (fun z => nomatch z)
/-- ends -/
theorem nk_end {r : α} {v : Option Value} (he : en r = .inl v) (step : ∀ (p : Program) (e : Env) (R : Room) (s : State) (m : MethodId) (args : Array Value) (below : List Frame) (meth : Method) (c : Code) (H : Heap) (locs : List Loc) (cells slots : Nat) (Qc : Array Value → State → Outcome → State → Prop) (ls : Array Slot), nk_X G l own cc nL ret fr lo ini p R s m meth c → nk_R G h H → (∀ q ∈ locs, nk_fr G q.base) →
      (∀ t : State, t.heap = H → s.WarmedH t.vm → Qc args s (.returned v) t) → W p l e R s m args below meth c H locs cells slots (MQ below Qc args s cells slots (nk_fr G)) (F0 m pc ls (nk_vs st))) : nk_Sim G l own cc nL ret fr lo ini en pc lv st h (some (h, r)) := by
  intro h' r' hf
  cases hf
  refine ⟨Nat.le_refl _, Nat.le_refl _, fun p e R s m args below meth c X sb b1 b2 b3 b4 H ls locs hR hl hq => ?_⟩
  refine vx_ret (step p e R s m args below meth c H locs _ _ _ ls X hR hq (fun t ht _ => ?_))
  exact ⟨by rw [ht]; exact hR, v, he, rfl⟩
theorem nr_iret {r : α} {x : Int32} (he : en r = .inl (some (.int x))) (hret : ret = some .int) (d : decode cc pc = .ok (.ireturn, 1)) : nk_Sim G l own cc nL ret fr lo ini en pc lv [.inl x] h (some (h, r)) :=
  nk_end he (fun p e R s m args below meth c H locs cells slots Qc ls X hR hq k => W.iret X.1 X.2.1 (by rw [X.2.2.2.1]; exact hret) k hq d X.2.2.2.2.1)
theorem nr_vret {r : α} (he : en r = .inl none) (hret : ret = none) (d : decode cc pc = .ok (.return_, 1)) : nk_Sim G l own cc nL ret fr lo ini en pc lv [] h (some (h, r)) :=
  nk_end he (fun p e R s m args below meth c H locs cells slots Qc ls X hR hq k => W.vret X.1 X.2.1 (by rw [X.2.2.2.1]; exact hret) k hq d X.2.2.2.2.1)
theorem nr_aret {r : α} {x : Option Nat} {rt : FieldType} (he : en r = .inl (some (va_rf x))) (hret : ret = some rt) (hrt : (∃ n, rt = .object n) ∨ ∃ t, rt = .array t) (d : decode cc pc = .ok (.areturn, 1)) : nk_Sim G l own cc nL ret fr lo ini en pc lv [.inr x] h (some (h, r)) :=
  nk_end he (fun p e R s m args below meth c H locs cells slots Qc ls X hR hq k => W.aret X.1 X.2.1 (by rw [X.2.2.2.1]; exact hret) hrt (va_rf_or x) k hq d X.2.2.2.2.1)
/-- a boolean's end -/
def nk_zr {β : Type} (x : Int32) (r : nk_H × β) : Option (nk_H × β) := if vp_nar .boolean x = x then some r else none
theorem nr_zret {r : α} {x : Int32} (he : en r = .inl (some (.int x))) (hret : ret = some .boolean) (d : decode cc pc = .ok (.ireturn, 1)) : nk_Sim G l own cc nL ret fr lo ini en pc lv [.inl x] h (nk_zr x (h, r)) := by
  unfold nk_zr
  by_cases hm : vp_nar .boolean x = x
  · rw [if_pos hm]
    exact nk_end he (fun p e R s m args below meth c H locs cells slots Qc ls X hR hq k => W.zret X.1 X.2.1 (ty := .boolean) (by rw [X.2.2.2.1]; exact hret) (congrArg Value.int hm) k hq d X.2.2.2.2.1)
  · rw [if_neg hm]
    exact nk_none
theorem nk_vaS {p : Program} {R : Room} {s : State} {m : MethodId} {meth : Method} {c : Code} {H : Heap} {locs : List Loc} (X : nk_X G l own cc nL ret fr lo ini p R s m meth c) (hR : nk_R G h H) (b1 : s.heap.size ≤ nk_N h) (hq : ∀ q ∈ locs, nk_fr G q.base) : va_S (nk_fr G) s.heap H locs := by
  refine ⟨by rw [hR.1]; exact b1, fun q h1 h2 => ?_, hq⟩
  have h3 : q < (nk_gH G).size := Nat.not_le.mp h2
  rw [hR.2.2.1 q h3, X.2.2.2.2.2.2.2.1.2 q h3]
/-- throw new E(text) -/
theorem nr_throw {r : α} {ik is ic : Nat} {cls text : String} (he : en r = .inr cls) (hcls : Bundle.fit cls = true) (wk : Cond.classLink own ik cls ∈ nk_T) (wi : Cond.initialized cls ∈ nk_T) (ws : (own, is, text) ∈ nk_strs) (wa : ∀ w ∈ vx_atS own ic cls ["java/lang/RuntimeException", "java/lang/Exception"], w ∈ nk_T) (wg : (Cond.classLink own ik cls :: Cond.initialized cls :: vx_atS own ic cls ["java/lang/RuntimeException", "java/lang/Exception"]).all vx_ot = true)
    (d0 : decode cc pc = .ok (.new ik, 3)) (d3 : decode cc (pc + 3) = .ok (.dup, 1)) (d4 : decode cc (pc + 4) = .ok (.ldc is, 2)) (d6 : decode cc (pc + 6) = .ok (.invokespecial ic, 3)) (d9 : decode cc (pc + 9) = .ok (.athrow, 1)) (hfr : 6 ≤ fr) (hlo : st.length + 82 ≤ lo) (ho : nk_nl own cc := by exact Or.inl (by decide)) :
    nk_Sim G l own cc nL ret fr lo ini en pc lv st h (some (nk_al h 0 0 6, r)) := by
  intro h' r' hf
  cases hf
  refine ⟨by rw [nk_N_al]; omega, by rw [nk_S_al]; omega, fun p e R s m args below meth c X sb b1 b2 b3 b4 H ls locs hR hl hq => ?_⟩
  rw [nk_N_al] at b3 ⊢
  rw [nk_S_al] at b4 ⊢
  have X9 := X
  obtain ⟨hx, hb, hml, hr, hlk, hown, hKn, hG, hRf, hRl, htab, hst, hin⟩ := X9
  have hts : ∀ w ∈ nk_T, w.before args s = true := fun w hw => hKn.use hw args
  obtain ⟨sa, hsa⟩ := hKn.2.2.2.1 _ ws
  have hkeep : ∀ a : Nat, a < (nk_gH G).size → ¬ nk_fr G a → s.heap[a]? = (nk_gH G)[a]? := fun a ha _ => hG.2 a ha
  refine nk_throwS (A := nk_fr G) (sa := sa) (text := text) (names := ["java/lang/RuntimeException", "java/lang/Exception"]) hx hb hst hown hcls (by decide) (hts _ wk) (hts _ wi) hsa (fun w hw => hts w (wa w hw)) (fun w hw => List.all_eq_true.mp wg w hw) (vx_Zq.kept hKn.2.2.2.2.1 hkeep) (vx_Zq.kept hKn.2.2.2.2.2.1 hkeep) (nk_vaS X hR b1 hq) (by rw [hl.1, hml]) d0 d3 d4 d6 d9 (fun x hx9 => (htab.1 ho x hx9).elim) (by show 2 + 3 < R.frames; omega) (by rw [nk_sum]; show st.length + (13 * 3 + 43) ≤ R.locals; omega) (by omega) (by omega) hlk (fun t _ hz ho => ⟨?_, he⟩) hq (by omega) (by omega)
  exact nk_R_al hR hz ho (by decide) (fun h1 _ => by omega) (fun ci q h1 _ => by omega)
theorem nr_throwW {r : α} {ik is ic : Nat} {cls text : String} (he : en r = .inr cls) (hcls : Bundle.fit cls = true) (wk : Cond.classLink own ik cls ∈ nk_T) (wi : Cond.initialized cls ∈ nk_T) (ws : (own, is, text) ∈ nk_strs) (wa : ∀ w ∈ vx_atS own ic cls ["java/lang/RuntimeException", "java/lang/Exception"], w ∈ nk_T) (wg : (Cond.classLink own ik cls :: Cond.initialized cls :: vx_atS own ic cls ["java/lang/RuntimeException", "java/lang/Exception"]).all vx_ot = true)
    (d0 : decode cc pc = .ok (.new ik, 3)) (d3 : decode cc (pc + 3) = .ok (.dup, 1)) (d4 : decode cc (pc + 4) = .ok (.ldc_w is, 3)) (d6 : decode cc (pc + 7) = .ok (.invokespecial ic, 3)) (d9 : decode cc (pc + 10) = .ok (.athrow, 1)) (hfr : 6 ≤ fr) (hlo : st.length + 82 ≤ lo) (ho : nk_nl own cc := by exact Or.inl (by decide)) :
    nk_Sim G l own cc nL ret fr lo ini en pc lv st h (some (nk_al h 0 0 6, r)) := by
  intro h' r' hf
  cases hf
  refine ⟨by rw [nk_N_al]; omega, by rw [nk_S_al]; omega, fun p e R s m args below meth c X sb b1 b2 b3 b4 H ls locs hR hl hq => ?_⟩
  rw [nk_N_al] at b3 ⊢
  rw [nk_S_al] at b4 ⊢
  have X9 := X
  obtain ⟨hx, hb, hml, hr, hlk, hown, hKn, hG, hRf, hRl, htab, hst, hin⟩ := X9
  have hts : ∀ w ∈ nk_T, w.before args s = true := fun w hw => hKn.use hw args
  obtain ⟨sa, hsa⟩ := hKn.2.2.2.1 _ ws
  have hkeep : ∀ a : Nat, a < (nk_gH G).size → ¬ nk_fr G a → s.heap[a]? = (nk_gH G)[a]? := fun a ha _ => hG.2 a ha
  refine nk_throwSW (A := nk_fr G) (sa := sa) (text := text) (names := ["java/lang/RuntimeException", "java/lang/Exception"]) hx hb hst hown hcls (by decide) (hts _ wk) (hts _ wi) hsa (fun w hw => hts w (wa w hw)) (fun w hw => List.all_eq_true.mp wg w hw) (vx_Zq.kept hKn.2.2.2.2.1 hkeep) (vx_Zq.kept hKn.2.2.2.2.2.1 hkeep) (nk_vaS X hR b1 hq) (by rw [hl.1, hml]) d0 d3 d4 d6 d9 (fun x hx9 => (htab.1 ho x hx9).elim) (by show 2 + 3 < R.frames; omega) (by rw [nk_sum]; show st.length + (13 * 3 + 43) ≤ R.locals; omega) (by omega) (by omega) hlk (fun t _ hz ho => ⟨?_, he⟩) hq (by omega) (by omega)
  exact nk_R_al hR hz ho (by decide) (fun h1 _ => by omega) (fun ci q h1 _ => by omega)
/-- objectInit -/
theorem nr_objInit {i : Nat} {a : Nat} (d : decode cc pc = .ok (.invokespecial i, 3)) (w1 : Cond.methodLink own i objectInit ∈ nk_T) (w2 : Cond.instanceMethod objectInit ∈ nk_T) (w3 : Cond.code objectInit ⟨#[0xb1]⟩ 1 none ∈ nk_T) (hfr : 1 ≤ fr) (hlo : st.length + 12 ≤ lo) (k : nk_Sim G l own cc nL ret fr lo ini en (pc + 3) lv st h f) : nk_Sim G l own cc nL ret fr lo ini en pc lv (.inr (some a) :: st) h f :=
  nk_pure (fun p e R s m args below meth c H locs cells slots Q ls X hR hl kk => by
    have hKn := X.2.2.2.2.2.2.1
    have h1 : fr ≤ R.frames := X.2.2.2.2.2.2.2.2.1
    have h2 : lo ≤ R.locals := X.2.2.2.2.2.2.2.2.2.1
    exact W.objInit X.1 X.2.1 X.2.2.2.2.2.1 (hKn.use w1 args) (hKn.use w2 args) (hKn.use w3 args) rfl (by rw [X.2.2.1]; exact hl.1) rfl d (by omega) (by show 2 * 0 + ((nk_vs st).map fun v => v.category).sum + 12 ≤ R.locals; rw [nk_sum]; omega) (kk ls hl)) k
end NKC
