/-! THE CLAIM OUT OF ONE WALK OF THE LAW'S BODY. Your part is whole_start (and what it stands on); all else here is the same for every law, but numbers. -/
def R_law : String := "NotaryKioskLaw"
def lw_P (b : Addr) (xs : List Int32) (args : Array Value) (s : State) : Prop := args = #[.ref b] ∧ s.IntsAt b xs ∧ xs.length ≤ 260 ∧ (Jvm.Cond.and given_1 narrow_1).before args s = true
def lw_Q (_ : Array Value) (s : State) (o : Outcome) (t : State) : Prop := o = .returned (some (.int 1)) ∧ Framed s o t [] 603975 7289772
def lw_Z (below : List Frame) (a : Array Value) (s : State) : State → Prop := fun t => ∃ o, t.status = .running ∧ Ended t below o ∧ lw_Q a s o t
/-- the law's own end, with 1 on the stack, nothing written that was there before, its room as the claim has it -/
theorem lw_ret {p : Program} {l : Launch} {e : Env} {s : State} {m : MethodId} {below : List Frame} {meth : Method} {c : Code} {b : Nat} (hx : p.tables.exec = Jvm.exec) (hb : c.code = code) (hr : meth.sig.returnType = ret) (hlocks : meth.locks = false) {pc : Nat} {H : Heap} {ls : Array Slot} (hdg : decode code pc = .ok (.ireturn, 1)) : W p l e room_1 s m #[Value.ref b] below meth c H [] 603975 7289772 (lw_Z below #[Value.ref b] s) (F0 m pc ls [.int 1]) := by
  intro T hT X
  obtain ⟨fs, hret, hrun, hended, hW, hframe⟩ := X.leave (v := some (.int 1)) (hlocks := hlocks) (fun h => by rw [hr] at h; cases h)
  have hmeth' : T.vm.method? m = some meth := X.method'
  refine ⟨T.setFrames fs, ?_, .returned (some (.int 1)), hrun, hended, rfl, ⟨_, rfl⟩, hW, hframe⟩
  jvm_step X.here [X.here.top, hx, hb, hdg, hmeth', hr, ret, narrow_b1]
  (try refine ⟨rfl, ?_⟩); (try refine ⟨rfl, ?_⟩)
  first | (intro acts; rw [hret _ acts rfl rfl rfl]) | rw [hret _ _ rfl rfl rfl]
  exact Steps.refl _
/-- what holds at the law's entry: the machine, the code, the tables' words (any of lw_tbl by 'hts w (by decide +kernel)'), the script of L ints xs at the cell b, what the Statement gives of the start (any of its parts by flat_of_before) -/
def lw_At (p : Program) (s : State) (m : MethodId) (meth : Method) (c : Code) (b L : Nat) (xs : Nat → Int32) : Prop :=
  p.tables.exec = Jvm.exec ∧ c.code = code ∧ meth.sig.returnType = ret ∧ c.maxLocals = 7 ∧ s.vm.findClass R_law = some m.cls ∧ (∀ w ∈ lw_tbl, w.before #[Value.ref b] s = true) ∧ va_X b L xs s s.heap ∧ b < s.heap.size ∧ meth.locks = false ∧ (Jvm.Cond.and given_1 narrow_1).before #[Value.ref b] s = true
theorem nk_in0 {i : Nat} {w : Cond} (h : lw_tbl[i]? = some w) : w ∈ lw_tbl := List.mem_of_getElem? h
theorem nk_w0 {s : State} {a : Array Value} {w : Cond} (g : nk_mv w = true) (h : w.before a s = true) : w.before #[] s = true := by
  have k : goodWord w = true → w.before #[] s = true := fun q => word_at (State.WarmedH.refl s) (good_of_word q) h
  cases w
  case castable C T => exact va_any rfl h
  case methodLinkNest c i x o => exact va_any rfl h
  case declares x => exact va_any rfl h
  all_goals exact k g
theorem nk_insta : ∀ w ∈ nk_cl.map (fun q => Cond.instantiable q.1 q.2.2), w ∈ nk_T := nk_ins [79, 806, 116, 911, 731, 701, 131, 59, 73, 454, 662, 51, 51] (by decide +kernel) (by decide +kernel)
theorem nk_str {s : State} {a : Array Value} {own tx : String} {k n : Nat} (hs0 : ∀ w ∈ flatC (Jvm.Cond.and given_1 narrow_1), w.before a s = true) (hts : ∀ w ∈ lw_tbl, w.before a s = true) (h1 : Cond.stringRef own k tx ∈ lw_tbl) (h2 : Cond.eq (.length (.field (.string own k) "java/lang/String" "value" "[B")) (.int (Int32.ofNat n)) ∈ flatC (Jvm.Cond.and given_1 narrow_1)) : ∃ sa : Nat, vk_R (own, k, tx).1 (own, k, tx).2.1 (own, k, tx).2.2 sa s := by
  obtain ⟨x, cell, e1, -, -⟩ := Term.length_spec (va_eqt (hs0 _ h2))
  obtain ⟨sa, e2⟩ := Term.field_ref e1
  exact ⟨sa, vk_R.of (A := #[]) (show (Cond.stringRef own k tx).before #[] s = true from by
    have h9 := hts _ h1
    first | exact h9 | simpa [Cond.before, Cond.holds, Cond.value] using h9) (by
    have e3 : (Term.string own k).eval a s none [] s = (Term.string own k).eval #[] s none [] s := rfl
    rw [← e3]; exact e2)⟩
theorem nk_prim {s : State} {a : Array Value} {ty : FieldType} (h : (Cond.arrayClass ty).before a s = true) (hty : ∀ C, ty ≠ .object C) : ∃ cA, ArrOfT s cA ty ∧ va_RA s cA ty := by
  obtain ⟨c, k, comp, h1, h2, h3⟩ := Cond.arrayClass_spec h
  refine ⟨c, fun n z => ⟨fun _ h => (by cases h), k, h2, comp, h3⟩, ?_⟩
  cases ty with
  | object C => exact absurd rfl (hty C)
  | _ => exact h1
theorem nk_obj {s : State} {a : Array Value} {C : String} (h : (Cond.arrayOver (.object C)).before a s = true) : ∃ cA, ArrOfT s cA (.object C) ∧ va_RA s cA (.object C) := by
  obtain ⟨comp, c, k, h1, -, h2, h3, h4⟩ := Cond.arrayOver_spec h
  exact ⟨c, fun n z => ⟨fun _ h => (by cases h), k, h2, comp, h3⟩, k, comp, h2, h3, h1, h4⟩
theorem nk_arr {s : State} {a : Array Value} {t : FieldType} (h : (Cond.arrayOver (.array t)).before a s = true) : ∃ cA, ArrOfT s cA (.array t) ∧ va_RA s cA (.array t) := by
  obtain ⟨comp, c, k, h1, -, h2, h3, h4⟩ := arrayOver_specB h
  exact ⟨c, fun n z => ⟨fun _ h => (by cases h), k, h2, comp, h3⟩, h4⟩
theorem nk_small {args : Array Value} {first s : State} {o : Option Outcome} {idx : List Nat} {t : Term} {v : Value} (h : (Term.length t).eval args first o idx s = some v) : ∃ a cell, t.eval args first o idx s = some (.ref a) ∧ s.arrayAt? a = some cell ∧ cell.slots.size < 2147483648 := by
  simp only [Term.eval, Option.bind_eq_bind] at h
  cases ht : t.eval args first o idx s with
  | none => simp [ht] at h
  | some x =>
    cases x <;> simp [ht] at h
    case ref a =>
      obtain ⟨cell, hcell, h⟩ := Option.bind_eq_some_iff.mp h
      by_cases hn : cell.slots.size < 2147483648
      · exact ⟨a, cell, rfl, hcell, hn⟩
      · rw [if_neg hn] at h; cases h
/-- the pure run, as it is owed -/
def nk_Pure : Prop := ∀ (G : nk_G) (h0 : nk_H), nk_gL G ≤ 260 → (∀ a, nk_K h0 a = if a = nk_E h0 then 20 else 0) → nk_E h0 < nk_N h0 → nk_S h0 = 0 → ∃ h', f_L_law G h0 = some (h', 1) ∧ nk_N h' ≤ nk_N h0 + 603975 ∧ nk_S h' ≤ 7289772
theorem nk_start {s : State} {m : MethodId} {b L : Nat} {xs : Nat → Int32} (hts : ∀ w ∈ lw_tbl, w.before #[Value.ref b] s = true) (hX : va_X b L xs s s.heap) (hbl : b < s.heap.size) (hgv : (Jvm.Cond.and given_1 narrow_1).before #[Value.ref b] s = true) :
    ∃ (G : nk_G), nk_gH G = s.heap ∧ nk_gB G = b ∧ nk_gL G = L ∧ nk_gE G < s.heap.size ∧ nk_Kn G s := by
  have hs0 := flat_of_before _ hgv
  have hA : ∀ a : Nat, a < s.heap.size → ¬ (fun q : Nat => s.heap.size ≤ q) a := fun a ha => Nat.not_le.mpr ha
  have htT : ∀ w ∈ nk_T, w.before #[Value.ref b] s = true := fun w hw => hts w (List.mem_filter.mp hw).1
  have hC : ∀ k : Nat, ∃ p : ClassId × (Nat → Nat), ∀ q : vw_C, nk_cl[k]? = some q → u_Kn s q.1 q.2.1 q.2.2 p.1 p.2 := fun k => by
    cases hq : nk_cl[k]? with
    | none => exact ⟨(m.cls, fun _ => 0), fun q h => nomatch h⟩
    | some q =>
      obtain ⟨cC, iS, h⟩ := u_known (C := q.1) (T := q.2.1) (N := q.2.2) (n := q.2.2) htT (nk_cls k q hq).1 (htT _ (nk_insta _ (List.mem_map.mpr ⟨q, List.mem_of_getElem? hq, rfl⟩)))
      exact ⟨(cC, iS), fun q' h' => by cases h'; exact h⟩
  obtain ⟨a1, r1, t1⟩ := nk_prim (ty := .int) (hts _ (nk_in0 (i := 71) (by decide +kernel))) (fun C h => by cases h)
  obtain ⟨a2, r2, t2⟩ := nk_prim (ty := .boolean) (hts _ (nk_in0 (i := 111) (by decide +kernel))) (fun C h => by cases h)
  obtain ⟨a6, r6, t6⟩ := nk_prim (ty := .byte) (hts _ (nk_in0 (i := 287) (by decide +kernel))) (fun C h => by cases h)
  have w3 := hts _ (nk_in0 (i := 115) (w := .arrayOver (.object "NotaryKiosk$Chain")) (by decide +kernel))
  have w4 := hts _ (nk_in0 (i := 584) (w := .arrayOver (.object "java/lang/Object")) (by decide +kernel))
  have w5 := hts _ (nk_in0 (i := 917) (w := .arrayOver (.array .int)) (by decide +kernel))
  obtain ⟨a3, r3, t3⟩ := nk_obj w3
  obtain ⟨a4, r4, t4⟩ := nk_obj w4
  obtain ⟨a5, r5, t5⟩ := nk_arr w5
  have hl := va_eqt (hs0 (.eq (.length (.static "java/util/ArrayList" "DEFAULTCAPACITY_EMPTY_ELEMENTDATA" "[Ljava/lang/Object;")) (.int 0)) (by decide +kernel))
  obtain ⟨e0, cell, ev, eat, ez⟩ := Term.length_spec hl
  obtain ⟨ecell, -, -, -⟩ := State.arrayAt?_spec eat
  obtain ⟨eof, -⟩ := Cond.arrayOf_spec (hs0 (.arrayOf (.static "java/util/ArrayList" "DEFAULTCAPACITY_EMPTY_ELEMENTDATA" "[Ljava/lang/Object;") (.object "java/lang/Object")) (by decide +kernel)) ev ecell
  have hZ := va_Zof (A := fun q : Nat => s.heap.size ≤ q) (hts _ (nk_in0 (i := 91) (w := .laysStatic "java/util/ArrayList" "DEFAULTCAPACITY_EMPTY_ELEMENTDATA" "[Ljava/lang/Object;") (by decide +kernel))) (hts _ (nk_in0 (i := 27) (w := .initialized "java/util/ArrayList") (by decide +kernel))) ev hA
  have hU := vx_Zqof (A := fun q : Nat => s.heap.size ≤ q) (C := Bundle.tN) (n := "UNASSIGNED_STACK") (d := Bundle.steD) (hts _ (nk_in0 (i := 247) (by decide +kernel))) (hts _ (nk_in0 (i := 30) (by decide +kernel))) (hs0 _ (by decide +kernel)) hA
  have hV := vx_Zqof (A := fun q : Nat => s.heap.size ≤ q) (C := Bundle.tN) (n := "SUPPRESSED_SENTINEL") (d := Bundle.listD) (hts _ (nk_in0 (i := 249) (by decide +kernel))) (hts _ (nk_in0 (i := 30) (by decide +kernel))) (hs0 _ (by decide +kernel)) hA
  obtain ⟨mi, hMi⟩ := va_Mi.of (hs0 (.isRef (.mirror "[Ljava/lang/Object;")) (by decide +kernel))
  let D : va_G := (fun k => (Classical.choose (hC k)).1, fun k => (Classical.choose (hC k)).2)
  let A : Nat → ClassId := fun k => match k with
    | 1 => a1
    | 2 => a2
    | 3 => a3
    | 4 => a4
    | 5 => a5
    | _ => a6
  refine ⟨(D, A, s.heap, e0, b, L, xs, mi), rfl, rfl, rfl, (Array.getElem?_eq_some_iff.mp ecell).1, fun w hw => nk_w0 (List.mem_filter.mp hw).2 (htT w hw), ⟨fun k q hq => Classical.choose_spec (hC k) q hq, fun k q hq => ?_⟩, ⟨va_AO.of w3, va_AO.of w4, ?_⟩, ?_, hU, hV, hZ, ⟨cell, ecell, eof, ?_⟩, hX, hbl, hMi, ?_⟩
  · match k, hq with
    | 0, hq => cases hq; exact ⟨r1, t1⟩
    | 1, hq => cases hq; exact ⟨r2, t2⟩
    | 2, hq => cases hq; exact ⟨r3, t3⟩
    | 3, hq => cases hq; exact ⟨r4, t4⟩
    | 4, hq => cases hq; exact ⟨r5, t5⟩
    | 5, hq => cases hq; exact ⟨r6, t6⟩
    | k + 6, hq => simp [nk_tys] at hq
  · simpa [nk_AOA, Cond.before, Cond.holds, Cond.value] using w5
  · exact List.forall_mem_cons.mpr ⟨nk_str hs0 hts (own := "NotaryKiosk") (k := 363) (tx := "no such kiosk") (n := 13) (nk_in0 (i := 261) (by decide +kernel)) (by decide +kernel), List.forall_mem_cons.mpr ⟨nk_str hs0 hts (own := "NotaryKiosk") (k := 366) (tx := "both kiosks are the same") (n := 24) (nk_in0 (i := 297) (by decide +kernel)) (by decide +kernel), List.forall_mem_cons.mpr ⟨nk_str hs0 hts (own := "NotaryKiosk") (k := 72) (tx := "they are joined") (n := 15) (nk_in0 (i := 323) (by decide +kernel)) (by decide +kernel), List.forall_mem_cons.mpr ⟨nk_str hs0 hts (own := "NotaryKiosk") (k := 84) (tx := "they are not joined") (n := 19) (nk_in0 (i := 349) (by decide +kernel)) (by decide +kernel), List.forall_mem_cons.mpr ⟨nk_str hs0 hts (own := "NotaryKiosk") (k := 374) (tx := "an argument is out of range") (n := 27) (nk_in0 (i := 357) (by decide +kernel)) (by decide +kernel), List.forall_mem_cons.mpr ⟨nk_str hs0 hts (own := "NotaryKiosk") (k := 90) (tx := "the hour would be above 400") (n := 27) (nk_in0 (i := 358) (by decide +kernel)) (by decide +kernel), List.forall_mem_cons.mpr ⟨nk_str hs0 hts (own := "NotaryKiosk") (k := 368) (tx := "no such person") (n := 14) (nk_in0 (i := 430) (by decide +kernel)) (by decide +kernel), List.forall_mem_cons.mpr ⟨nk_str hs0 hts (own := "NotaryKiosk") (k := 370) (tx := "giver and holder are the same") (n := 29) (nk_in0 (i := 434) (by decide +kernel)) (by decide +kernel), List.forall_mem_cons.mpr ⟨nk_str hs0 hts (own := "NotaryKiosk") (k := 386) (tx := "there are 160 pieces of news") (n := 28) (nk_in0 (i := 448) (by decide +kernel)) (by decide +kernel), List.forall_mem_cons.mpr ⟨nk_str hs0 hts (own := "NotaryKiosk") (k := 388) (tx := "there are 40 powers") (n := 19) (nk_in0 (i := 439) (by decide +kernel)) (by decide +kernel), List.forall_mem_cons.mpr ⟨nk_str hs0 hts (own := "NotaryKiosk") (k := 376) (tx := "no such power") (n := 13) (nk_in0 (i := 605) (by decide +kernel)) (by decide +kernel), List.forall_mem_cons.mpr ⟨nk_str hs0 hts (own := "NotaryKiosk") (k := 136) (tx := "the draft is not within the source") (n := 34) (nk_in0 (i := 611) (by decide +kernel)) (by decide +kernel), List.forall_mem_cons.mpr ⟨nk_str hs0 hts (own := "NotaryKiosk") (k := 143) (tx := "the source is not good here") (n := 27) (nk_in0 (i := 650) (by decide +kernel)) (by decide +kernel), List.forall_mem_cons.mpr ⟨nk_str hs0 hts (own := "NotaryKiosk") (k := 164) (tx := "the power is not known here, or is revoked") (n := 42) (nk_in0 (i := 660) (by decide +kernel)) (by decide +kernel), List.forall_mem_cons.mpr ⟨nk_str hs0 hts (own := "NotaryKiosk") (k := 149) (tx := "the person is the giver of no power of its line") (n := 47) (nk_in0 (i := 659) (by decide +kernel)) (by decide +kernel), List.forall_mem_cons.mpr ⟨nk_str hs0 hts (own := "NotaryKiosk") (k := 182) (tx := "a deputation for the kiosk has an hour in common with it") (n := 56) (nk_in0 (i := 699) (by decide +kernel)) (by decide +kernel), List.forall_mem_cons.mpr ⟨nk_str hs0 hts (own := "NotaryKiosk") (k := 196) (tx := "there is a reason against it") (n := 28) (nk_in0 (i := 804) (by decide +kernel)) (by decide +kernel), List.forall_mem_cons.mpr ⟨nk_str hs0 hts (own := "NotaryKiosk") (k := 380) (tx := "no such record") (n := 14) (nk_in0 (i := 899) (by decide +kernel)) (by decide +kernel), List.forall_mem_cons.mpr ⟨nk_str hs0 hts (own := "NotaryKiosk") (k := 231) (tx := "there are 12 copies") (n := 19) (nk_in0 (i := 909) (by decide +kernel)) (by decide +kernel), List.forall_mem_cons.mpr ⟨nk_str hs0 hts (own := "NotaryKiosk") (k := 225) (tx := "last is ahead of first") (n := 22) (nk_in0 (i := 908) (by decide +kernel)) (by decide +kernel), List.forall_mem_cons.mpr ⟨nk_str hs0 hts (own := "NotaryKiosk") (k := 382) (tx := "no such copy") (n := 12) (nk_in0 (i := 967) (by decide +kernel)) (by decide +kernel), List.forall_mem_cons.mpr ⟨nk_str hs0 hts (own := "NotaryKiosk") (k := 384) (tx := "the copy does not have so many records") (n := 38) (nk_in0 (i := 968) (by decide +kernel)) (by decide +kernel), List.forall_mem_cons.mpr ⟨nk_str hs0 hts (own := "NotaryKiosk") (k := 372) (tx := "no such part") (n := 12) (nk_in0 (i := 972) (by decide +kernel)) (by decide +kernel), List.forall_mem_cons.mpr ⟨nk_str hs0 hts (own := "NotaryKiosk") (k := 255) (tx := "the part is left out") (n := 20) (nk_in0 (i := 974) (by decide +kernel)) (by decide +kernel), List.forall_mem_cons.mpr ⟨nk_str hs0 hts (own := "NotaryKiosk") (k := 378) (tx := "no such piece of news") (n := 21) (nk_in0 (i := 1087) (by decide +kernel)) (by decide +kernel), List.forall_mem_nil _⟩⟩⟩⟩⟩⟩⟩⟩⟩⟩⟩⟩⟩⟩⟩⟩⟩⟩⟩⟩⟩⟩⟩⟩⟩
  · have hsm : cell.slots.size < 2147483648 := by
      obtain ⟨x9, c9, y1, y2, y4⟩ := nk_small hl
      cases ev.symm.trans y1
      cases eat.symm.trans y2
      exact y4
    have h2 : cell.slots.size.toInt32 = 0 := (Value.int.inj ez).symm
    have h3 := congrArg Int32.toInt h2
    rw [show cell.slots.size.toInt32 = Int32.ofNat cell.slots.size from rfl, Int32.toInt_ofNat_of_lt (by simpa using hsm)] at h3
    simpa using h3
  · exact List.forall_mem_cons.mpr ⟨va_Nc.of (hs0 (.not (.castable "java/lang/IllegalArgumentException" "java/lang/IndexOutOfBoundsException")) (by decide +kernel)), List.forall_mem_cons.mpr ⟨va_Nc.of (hs0 (.not (.castable "java/lang/IllegalStateException" "java/lang/IndexOutOfBoundsException")) (by decide +kernel)), List.forall_mem_cons.mpr ⟨va_Nc.of (hs0 (.not (.castable "java/lang/IndexOutOfBoundsException" "java/lang/IllegalArgumentException")) (by decide +kernel)), List.forall_mem_cons.mpr ⟨va_Nc.of (hs0 (.not (.castable "java/lang/IllegalStateException" "java/lang/IllegalArgumentException")) (by decide +kernel)), List.forall_mem_cons.mpr ⟨va_Nc.of (hs0 (.not (.castable "java/lang/IndexOutOfBoundsException" "java/lang/IllegalStateException")) (by decide +kernel)), List.forall_mem_cons.mpr ⟨va_Nc.of (hs0 (.not (.castable "java/lang/IllegalArgumentException" "java/lang/IllegalStateException")) (by decide +kernel)), List.forall_mem_nil _⟩⟩⟩⟩⟩⟩
theorem nk_fresh {s t : State} {L : List Loc} {k n : Nat} (h : s.sameButNew t L k n) (hL : ∀ q ∈ L, s.heap.size ≤ q.base) : s.sameButNew t [] k n := by
  obtain ⟨h1, h2, h3, h4, h5, h6⟩ := h
  refine ⟨h1, h2, h3, h4, h5, fun a c ha => ?_⟩
  obtain ⟨c', e1, e2, e3, e4⟩ := h6 a c ha
  refine ⟨c', e1, e2, e3, fun i _ => e4 i (fun hm => ?_)⟩
  have := hL _ hm
  have hlt : a < s.heap.size := (Array.getElem?_eq_some_iff.mp ha).1
  exact absurd this (Nat.not_le.mpr hlt)
theorem nk_whole (P : nk_Pure) {p : Program} {e : Env} {s : State} {m : MethodId} {below : List Frame} {meth : Method} {c : Code} (l : Launch) (hflags : l.flags = flags0) {b L : Nat} {xs : Nat → Int32} (hL : L ≤ 260) (C0 : lw_At p s m meth c b L xs) : W p l e room_1 s m #[Value.ref b] below meth c s.heap [] 0 0 (lw_Z below #[Value.ref b] s) (entryFrame m ([Value.ref b] : List Value).toArray 7) := by
  obtain ⟨hx, hb, hr, hml, hown, hts, hX, hbl, hlocks, hgv⟩ := C0
  obtain ⟨G, g1, g2, g3, g4, hKn⟩ := nk_start (m := m) hts hX hbl hgv
  let h0 : nk_H := (fun x => if x = nk_gE G then 20 else 0, fun _ _ => 0, fun _ _ => none, fun _ => 0, s.heap.size, 0, nk_gE G, nk_gM G)
  obtain ⟨h', e1, e2, e3⟩ := P G h0 (by rw [g3]; exact hL) (fun _ => rfl) g4 rfl
  have hR : nk_R G h0 s.heap := by
    refine ⟨rfl, by rw [g1]; exact Nat.le_refl _, fun x _ => by rw [g1], fun x k1 k2 => ?_, fun x ci q k1 k2 => ?_, ⟨fun x hx9 => ?_, rfl, rfl⟩⟩
    · have : nk_K h0 x = 20 ∨ nk_K h0 x = 0 := by
        show (if x = nk_gE G then 20 else 0) = 20 ∨ (if x = nk_gE G then 20 else 0) = 0
        split
        · exact Or.inl rfl
        · exact Or.inr rfl
      omega
    · have : nk_K h0 x = 20 ∨ nk_K h0 x = 0 := by
        show (if x = nk_gE G then 20 else 0) = 20 ∨ (if x = nk_gE G then 20 else 0) = 0
        split
        · exact Or.inl rfl
        · exact Or.inr rfl
      have hci : ci < 13 := (List.getElem?_eq_some_iff.mp k2).1
      omega
    · have h9 : (if x = nk_gE G then 20 else 0) = 20 := hx9
      by_cases e : x = nk_gE G
      · exact e
      · rw [if_neg e] at h9; cases h9
  obtain ⟨k1, k2, k3⟩ := s_L_law (G := G) (l := l) hflags h0 h' 1 e1
  have X : nk_X G l RL cL_law 7 (some FieldType.boolean) 12 297 false p room_1 s m meth c :=
    ⟨hx, hb, hml, hr, hlocks, hown, hKn, ⟨by rw [g1]; exact Nat.le_refl _, fun x _ => by rw [g1]⟩, by decide, by decide, ⟨fun e9 => e9.elim (fun z => absurd rfl z) (fun z => absurd rfl ((by decide +kernel : ∀ q ∈ nk_nls, q ≠ cL_law) cL_law z)), fun _ q hq he => absurd he ((by decide +kernel : ∀ q ∈ nk_hhl, q.1 ≠ cL_law) q hq)⟩, nk_noTrace hflags, fun h => by cases h⟩
  have hh : lv_has ((lg_sl (nk_vs [.inr (some b)]) ++ List.replicate (7 - (lg_sl (nk_vs [.inr (some b)])).length) Slot.unset).toArray) 7 (lv_args 0 (nk_vs [.inr (some b)])) := lv_entry (nk_vs [.inr (some b)]) (Nat.le_of_ble_eq_true rfl)
  have := k3 p e room_1 s m #[Value.ref b] below meth c X 0 (Nat.le_refl _) (Nat.le_refl _) (by
    have : nk_N h0 = s.heap.size := rfl
    show nk_N h' - s.heap.size ≤ 603975
    omega) (by show nk_S h' - 0 ≤ 7289772; omega) s.heap _ [] hR (by rw [g2]; exact hh) (fun q hq => nomatch hq)
  have z1 : nk_N h0 - s.heap.size = 0 := Nat.sub_self _
  have z2 : nk_S h0 - 0 = 0 := rfl
  rw [z1, z2] at this
  rw [lg_entry_eq]
  intro T hT X9
  obtain ⟨t, a1, o, b1, b2, b3⟩ := this T hT X9
  refine ⟨t, a1, o, b1, b2, ?_⟩
  rcases b3 with ⟨⟨-, v, hv, ho⟩, L9, hF, hL9⟩ | ⟨q, -, E, ce, L9, ⟨-, hv⟩, -⟩
  · cases hv
    refine ⟨ho, hF.1, hF.2.1, ?_⟩
    refine (nk_fresh hF.2.2 (fun q hq => by have := hL9 q hq; unfold nk_fr at this; rw [g1] at this; exact this)).mono ?_ ?_
    · have : nk_N h0 = s.heap.size := rfl
      omega
    · omega
  · cases hv
