section
-- ===== PART A: goes FIRST, ahead of the names: the tables' words, and 'selects' of the private methods out of them =====
/-- a private method of a class that the tables say can be made, by its rows of tables_1 -/
def lw_okq (q : MethodName × Nat) : Prop := (q.1.cls ≠ "java/lang/invoke/MethodHandle" ∧ q.1.cls ≠ "java/lang/invoke/VarHandle") ∧ Cond.instantiable q.1.cls q.2 ∈ tables_1 ∧ Cond.privateMethod q.1 ∈ tables_1 ∧ Cond.instanceMethod q.1 ∈ tables_1
theorem lw_p0 : lw_okq (⟨"java/lang/Throwable", "fillInStackTrace", "(I)Ljava/lang/Throwable;"⟩, 6) := ⟨⟨by decide +kernel, by decide +kernel⟩, List.mem_of_getElem? (i := 238) (by decide +kernel), List.mem_of_getElem? (i := 236) (by decide +kernel), List.mem_of_getElem? (i := 237) (by decide +kernel)⟩
theorem lw_p1 : lw_okq (⟨"NotaryKiosk", "mustHaveRoomForPower", "()V"⟩, 9) := ⟨⟨by decide +kernel, by decide +kernel⟩, List.mem_of_getElem? (i := 30) (by decide +kernel), List.mem_of_getElem? (i := 415) (by decide +kernel), List.mem_of_getElem? (i := 416) (by decide +kernel)⟩
theorem lw_p2 : lw_okq (⟨"NotaryKiosk", "mustHaveRoomForNews", "()V"⟩, 9) := ⟨⟨by decide +kernel, by decide +kernel⟩, List.mem_of_getElem? (i := 30) (by decide +kernel), List.mem_of_getElem? (i := 420) (by decide +kernel), List.mem_of_getElem? (i := 421) (by decide +kernel)⟩
theorem lw_p3 : lw_okq (⟨"NotaryKiosk", "makePower", "(ILNotaryKiosk$Power;II)I"⟩, 9) := ⟨⟨by decide +kernel, by decide +kernel⟩, List.mem_of_getElem? (i := 30) (by decide +kernel), List.mem_of_getElem? (i := 429) (by decide +kernel), List.mem_of_getElem? (i := 430) (by decide +kernel)⟩
theorem lw_p4 : lw_okq (⟨"java/util/ArrayList", "add", "(Ljava/lang/Object;[Ljava/lang/Object;I)V"⟩, 3) := ⟨⟨by decide +kernel, by decide +kernel⟩, List.mem_of_getElem? (i := 58) (by decide +kernel), List.mem_of_getElem? (i := 516) (by decide +kernel), List.mem_of_getElem? (i := 517) (by decide +kernel)⟩
theorem lw_p5 : lw_okq (⟨"java/util/ArrayList", "grow", "()[Ljava/lang/Object;"⟩, 3) := ⟨⟨by decide +kernel, by decide +kernel⟩, List.mem_of_getElem? (i := 58) (by decide +kernel), List.mem_of_getElem? (i := 520) (by decide +kernel), List.mem_of_getElem? (i := 521) (by decide +kernel)⟩
theorem lw_p6 : lw_okq (⟨"java/util/ArrayList", "grow", "(I)[Ljava/lang/Object;"⟩, 3) := ⟨⟨by decide +kernel, by decide +kernel⟩, List.mem_of_getElem? (i := 58) (by decide +kernel), List.mem_of_getElem? (i := 524) (by decide +kernel), List.mem_of_getElem? (i := 525) (by decide +kernel)⟩
theorem lw_p7 : lw_okq (⟨"NotaryKiosk", "mustBePower", "(I)V"⟩, 9) := ⟨⟨by decide +kernel, by decide +kernel⟩, List.mem_of_getElem? (i := 30) (by decide +kernel), List.mem_of_getElem? (i := 581) (by decide +kernel), List.mem_of_getElem? (i := 582) (by decide +kernel)⟩
theorem lw_p8 : lw_okq (⟨"NotaryKiosk", "isGoodAt", "(ILNotaryKiosk$Power;)Z"⟩, 9) := ⟨⟨by decide +kernel, by decide +kernel⟩, List.mem_of_getElem? (i := 30) (by decide +kernel), List.mem_of_getElem? (i := 592) (by decide +kernel), List.mem_of_getElem? (i := 593) (by decide +kernel)⟩
theorem lw_p9 : lw_okq (⟨"NotaryKiosk$News", "sees", "(I)Z"⟩, 2) := ⟨⟨by decide +kernel, by decide +kernel⟩, List.mem_of_getElem? (i := 52) (by decide +kernel), List.mem_of_getElem? (i := 604) (by decide +kernel), List.mem_of_getElem? (i := 605) (by decide +kernel)⟩
theorem lw_p10 : lw_okq (⟨"NotaryKiosk$News", "revokesAlone", "(LNotaryKiosk$Power;)Z"⟩, 2) := ⟨⟨by decide +kernel, by decide +kernel⟩, List.mem_of_getElem? (i := 52) (by decide +kernel), List.mem_of_getElem? (i := 612) (by decide +kernel), List.mem_of_getElem? (i := 613) (by decide +kernel)⟩
theorem lw_p11 : lw_okq (⟨"NotaryKiosk", "deedNow", "(III)LNotaryKiosk$Deed;"⟩, 9) := ⟨⟨by decide +kernel, by decide +kernel⟩, List.mem_of_getElem? (i := 30) (by decide +kernel), List.mem_of_getElem? (i := 706) (by decide +kernel), List.mem_of_getElem? (i := 707) (by decide +kernel)⟩
theorem lw_p12 : lw_okq (⟨"NotaryKiosk$News", "wouldPassTotal", "(LNotaryKiosk$Power;I)Z"⟩, 2) := ⟨⟨by decide +kernel, by decide +kernel⟩, List.mem_of_getElem? (i := 52) (by decide +kernel), List.mem_of_getElem? (i := 757) (by decide +kernel), List.mem_of_getElem? (i := 758) (by decide +kernel)⟩
theorem lw_p13 : lw_okq (⟨"NotaryKiosk$News", "officerAt", "(II)I"⟩, 2) := ⟨⟨by decide +kernel, by decide +kernel⟩, List.mem_of_getElem? (i := 52) (by decide +kernel), List.mem_of_getElem? (i := 779) (by decide +kernel), List.mem_of_getElem? (i := 780) (by decide +kernel)⟩
theorem lw_p14 : lw_okq (⟨"NotaryKiosk", "reasonByMail", "(LNotaryKiosk$Act;)I"⟩, 9) := ⟨⟨by decide +kernel, by decide +kernel⟩, List.mem_of_getElem? (i := 30) (by decide +kernel), List.mem_of_getElem? (i := 821) (by decide +kernel), List.mem_of_getElem? (i := 822) (by decide +kernel)⟩
theorem lw_p15 : lw_okq (⟨"NotaryKiosk$Chain", "sealNow", "(ILNotaryKiosk$Act;)I"⟩, 2) := ⟨⟨by decide +kernel, by decide +kernel⟩, List.mem_of_getElem? (i := 95) (by decide +kernel), List.mem_of_getElem? (i := 842) (by decide +kernel), List.mem_of_getElem? (i := 843) (by decide +kernel)⟩
def lw_privs_1 : List (MethodName × Nat) := [(⟨"java/lang/Throwable", "fillInStackTrace", "(I)Ljava/lang/Throwable;"⟩, 6), (⟨"NotaryKiosk", "mustHaveRoomForPower", "()V"⟩, 9), (⟨"NotaryKiosk", "mustHaveRoomForNews", "()V"⟩, 9), (⟨"NotaryKiosk", "makePower", "(ILNotaryKiosk$Power;II)I"⟩, 9), (⟨"java/util/ArrayList", "add", "(Ljava/lang/Object;[Ljava/lang/Object;I)V"⟩, 3), (⟨"java/util/ArrayList", "grow", "()[Ljava/lang/Object;"⟩, 3), (⟨"java/util/ArrayList", "grow", "(I)[Ljava/lang/Object;"⟩, 3), (⟨"NotaryKiosk", "mustBePower", "(I)V"⟩, 9), (⟨"NotaryKiosk", "isGoodAt", "(ILNotaryKiosk$Power;)Z"⟩, 9), (⟨"NotaryKiosk$News", "sees", "(I)Z"⟩, 2), (⟨"NotaryKiosk$News", "revokesAlone", "(LNotaryKiosk$Power;)Z"⟩, 2), (⟨"NotaryKiosk", "deedNow", "(III)LNotaryKiosk$Deed;"⟩, 9), (⟨"NotaryKiosk$News", "wouldPassTotal", "(LNotaryKiosk$Power;I)Z"⟩, 2), (⟨"NotaryKiosk$News", "officerAt", "(II)I"⟩, 2), (⟨"NotaryKiosk", "reasonByMail", "(LNotaryKiosk$Act;)I"⟩, 9), (⟨"NotaryKiosk$Chain", "sealNow", "(ILNotaryKiosk$Act;)I"⟩, 2)]
theorem lw_r1 : ∀ q ∈ lw_privs_1, lw_okq q := List.forall_mem_cons.mpr ⟨lw_p0, List.forall_mem_cons.mpr ⟨lw_p1, List.forall_mem_cons.mpr ⟨lw_p2, List.forall_mem_cons.mpr ⟨lw_p3, List.forall_mem_cons.mpr ⟨lw_p4, List.forall_mem_cons.mpr ⟨lw_p5, List.forall_mem_cons.mpr ⟨lw_p6, List.forall_mem_cons.mpr ⟨lw_p7, List.forall_mem_cons.mpr ⟨lw_p8, List.forall_mem_cons.mpr ⟨lw_p9, List.forall_mem_cons.mpr ⟨lw_p10, List.forall_mem_cons.mpr ⟨lw_p11, List.forall_mem_cons.mpr ⟨lw_p12, List.forall_mem_cons.mpr ⟨lw_p13, List.forall_mem_cons.mpr ⟨lw_p14, List.forall_mem_cons.mpr ⟨lw_p15, fun _ h => absurd h List.not_mem_nil⟩⟩⟩⟩⟩⟩⟩⟩⟩⟩⟩⟩⟩⟩⟩⟩
theorem lw_p16 : lw_okq (⟨"NotaryKiosk", "mustBeRecord", "(II)V"⟩, 9) := ⟨⟨by decide +kernel, by decide +kernel⟩, List.mem_of_getElem? (i := 30) (by decide +kernel), List.mem_of_getElem? (i := 871) (by decide +kernel), List.mem_of_getElem? (i := 872) (by decide +kernel)⟩
theorem lw_p17 : lw_okq (⟨"NotaryKiosk", "mustBePlace", "(II)V"⟩, 9) := ⟨⟨by decide +kernel, by decide +kernel⟩, List.mem_of_getElem? (i := 30) (by decide +kernel), List.mem_of_getElem? (i := 939) (by decide +kernel), List.mem_of_getElem? (i := 940) (by decide +kernel)⟩
theorem lw_p18 : lw_okq (⟨"NotaryKiosk", "mustBeCopy", "(I)V"⟩, 9) := ⟨⟨by decide +kernel, by decide +kernel⟩, List.mem_of_getElem? (i := 30) (by decide +kernel), List.mem_of_getElem? (i := 943) (by decide +kernel), List.mem_of_getElem? (i := 944) (by decide +kernel)⟩
theorem lw_p19 : lw_okq (⟨"NotaryKiosk$Copy", "tellsRecordAs", "(ILNotaryKiosk$Act;)Z"⟩, 7) := ⟨⟨by decide +kernel, by decide +kernel⟩, List.mem_of_getElem? (i := 890) (by decide +kernel), List.mem_of_getElem? (i := 1048) (by decide +kernel), List.mem_of_getElem? (i := 1049) (by decide +kernel)⟩
theorem lw_p20 : lw_okq (⟨"NotaryKiosk", "mustBePiece", "(I)V"⟩, 9) := ⟨⟨by decide +kernel, by decide +kernel⟩, List.mem_of_getElem? (i := 30) (by decide +kernel), List.mem_of_getElem? (i := 1063) (by decide +kernel), List.mem_of_getElem? (i := 1064) (by decide +kernel)⟩
def lw_privs_2 : List (MethodName × Nat) := [(⟨"NotaryKiosk", "mustBeRecord", "(II)V"⟩, 9), (⟨"NotaryKiosk", "mustBePlace", "(II)V"⟩, 9), (⟨"NotaryKiosk", "mustBeCopy", "(I)V"⟩, 9), (⟨"NotaryKiosk$Copy", "tellsRecordAs", "(ILNotaryKiosk$Act;)Z"⟩, 7), (⟨"NotaryKiosk", "mustBePiece", "(I)V"⟩, 9)]
theorem lw_r2 : ∀ q ∈ lw_privs_2, lw_okq q := List.forall_mem_cons.mpr ⟨lw_p16, List.forall_mem_cons.mpr ⟨lw_p17, List.forall_mem_cons.mpr ⟨lw_p18, List.forall_mem_cons.mpr ⟨lw_p19, List.forall_mem_cons.mpr ⟨lw_p20, fun _ h => absurd h List.not_mem_nil⟩⟩⟩⟩⟩
def lw_privs : List (MethodName × Nat) := lw_privs_1 ++ (lw_privs_2)
def lw_tbl : List Cond := k2_sels lw_privs ++ tables_1
theorem lw_privs_ok : ∀ q ∈ lw_privs, lw_okq q := by
  show ∀ q ∈ lw_privs_1 ++ (lw_privs_2), lw_okq q
  exact List.forall_mem_append.mpr ⟨lw_r1, lw_r2⟩
/-! ===== BEGIN words of one list among another's, by their places ===== -/
theorem goodIn_r {big : List Cond} (ws : List Cond) (ps : List Nat) (hp : ws = ps.filterMap (fun i => big[i]?)) (h : ws.all goodWord = true) : GoodIn big ws := by
  intro w hw
  have h1 := List.all_eq_true.mp h w hw
  rw [hp] at hw
  obtain ⟨i, -, hi⟩ := List.mem_filterMap.mp hw
  have hm : w ∈ big := by first | exact List.mem_of_getElem? hi | exact List.getElem?_mem hi
  exact ⟨hm, good_of_word h1⟩
theorem goodIn_app {big a b : List Cond} (ha : GoodIn big a) (hb : GoodIn big b) : GoodIn big (a ++ b) := fun w h => (List.mem_append.mp h).elim (ha w) (hb w)
theorem goodIn_ca {big a b : List Cond} {c : Cond} (ha : GoodIn big (c :: a)) (hb : GoodIn big b) : GoodIn big (c :: (a ++ b)) := fun w h => (List.mem_cons.mp h).elim (fun e => ha w (List.mem_cons.mpr (Or.inl e))) (fun h => (List.mem_append.mp h).elim (fun h => ha w (List.mem_cons.mpr (Or.inr h))) (hb w))
theorem goodIn_sub {big ws : List Cond} (hm : ∀ w ∈ ws, w ∈ big) (h : ws.all goodWord = true) : GoodIn big ws := fun w hw => ⟨hm w hw, good_of_word (List.all_eq_true.mp h w hw)⟩
/-! ===== END ===== -/
/-! ===== BEGIN exceptions that leave a method, and their catching by the caller (launches without stack traces) ===== -/
section VXA
/-! The laws vx_back, vx_callV, vx_callS, vx_callSW, vx_throw0, vx_throwS follow proofs of the library, with one case more: JvmDerived/Free/Laws.lean (Back.of_free), Shelf42/LK1.lean (callV, callS), Shelf/KitTraced.lean (throwNew0V, throwNewS). -/
/-- where a method has thrown q: the class by its name, the cell, what was written, the world -/
def vx_T (XC : String → State → State → Prop) (st : State) (q : Addr) (t : State) (mc ms : Nat) (free : Addr → Prop) : Prop :=
  ∃ (E : String) (ce : Cell) (L : List Loc), XC E st t ∧ t.heap[q]? = some ce ∧ ce.vm = .none ∧ st.vm.findClass E = some ce.cls ∧ st.WarmedH t.vm ∧ st.sameButNew ({ t with vm := st.vm } : State) L mc ms ∧ ∀ z ∈ L, free z.base
def vx_Q (Qc : Array Value → State → Outcome → State → Prop) (XC : String → State → State → Prop) (mc ms : Nat) (free : Addr → Prop) : Array Value → State → Outcome → State → Prop := fun a st o t =>
  (Qc a st o t ∧ ∃ L, FrameEnd st o t L mc ms ∧ ∀ q ∈ L, free q.base) ∨ ∃ q, o = .threw q ∧ vx_T XC st q t mc ms free
/-- a callee that returns or throws -/
def vx_Met (l : Launch) (y : MethodName) (ws : List Cond) (rm : Room) (Pc : Array Value → State → Prop) (Qc : Array Value → State → Outcome → State → Prop) (XC : String → State → State → Prop) (mc ms : Nat) (free : Addr → Prop) : Prop :=
  MetFree l y (headSpec ws rm) Pc (fun _ _ _ _ _ => True) (vx_Q Qc XC mc ms free)
def vx_Post (XC : String → State → State → Prop) (mc ms : Nat) (free : Addr → Prop) : Pt → Array Value → Addr → Pt → Prop := fun A a q B =>
  ∃ (g : JFrame) (mk : MethodId) (t : State) (L : List Loc) (E : String) (ce : Cell), B.U.heap = t.heap ∧ B.U.vm = t.vm ∧ XC E (A.U.calling g mk a) t ∧ t.heap[q]? = some ce ∧ ce.vm = .none ∧ A.U.vm.findClass E = some ce.cls ∧ B.locs = A.locs ++ L ∧ (∀ z ∈ L, free z.base) ∧ B.cells = A.cells + mc ∧ B.slots = A.slots + ms
def vx_Back (l : Launch) (R : Room) (p : Program) (e : Env) (below : List Frame) (s : State) (sargs : Array Value) (y : MethodName) (len W9 : Nat)
    (Pre : Pt → Array Value → Prop) (Post : Pt → Array Value → Option Value → Pt → Prop) (PostX : Pt → Array Value → Addr → Pt → Prop) : Prop :=
  ∀ (m : MethodId) (meth : Method) (c : Code) (A : Pt) (g : JFrame) (ig : Instr) (mk : MethodId) (a : Array Value),
    Stand p l e R s m sargs below meth c A.U A.locs A.cells A.slots → g.method = m → g.locals.size = c.maxLocals → decode c.code g.pc = .ok (ig, len) →
    2 * g.monitorRoom + (g.stack.map fun v => v.category).sum ≤ W9 → A.U.methodNamed? y = some mk → Pre A a →
    (∃ (v : Option Value) (B : Pt), Stand p l e R s m sargs below meth c B.U B.locs B.cells B.slots ∧ Post A a v B ∧
      Steps p.tables e below (doInvoke e (A.U.setTop g) [] mk a).1 (B.U.setTop { g with pc := g.pc + len, stack := v.toList ++ g.stack })) ∨
    (∃ (q : Addr) (B : Pt), Stand p l e R s m sargs below meth c B.U B.locs B.cells B.slots ∧ PostX A a q B ∧
      Steps p.tables e below (doInvoke e (A.U.setTop g) [] mk a).1 ((B.U.setTop g).pushFrame (.throwing q)))
section Payer
variable {l : Launch} {R : Room} {p : Program} {e : Env} {below : List Frame} {s : State} {sargs : Array Value} {y : MethodName} {len W9 : Nat}
theorem vx_back {ws : List Cond} {rm : Room} {Pc : Array Value → State → Prop} {Qc : Array Value → State → Outcome → State → Prop} {XC : String → State → State → Prop} {mc ms : Nat} {free : Addr → Prop} {bytes : ByteArray} {maxL : Nat} {ret : Option FieldType}
    (hM : vx_Met l y ws rm Pc Qc XC mc ms free) (hblind : FrameBlind Pc) (hrc : rm.cells = mc) (hrs : rm.slots = ms)
    (hframes : rm.frames + 1 ≤ R.frames) (hlocals : W9 + (maxL + 11) + rm.locals ≤ R.locals)
    (hws : ∀ w ∈ ws, ∀ a' U, s.WarmedH U.vm → w.before a' U = true) (hcode : Cond.code y bytes maxL ret ∈ ws) (hinit : ∀ a' U, s.WarmedH U.vm → (Cond.initialized y.cls).before a' U = true) :
    vx_Back l R p e below s sargs y len W9 (PreOf R mc ms Pc) (PostOf Qc mc ms free) (vx_Post XC mc ms free) := by
  intro m meth c A g ig mk a X hg hsize hdg hW hn hp
  have h1 : (headSpec ws rm).pre.before a A.U = true := atoms_intro fun w hw => hws w hw _ _ X.warmed
  have h2 : (Cond.code y bytes maxL ret).before a A.U = true := hws _ hcode _ _ X.warmed
  have h3 : (Cond.initialized y.cls).before a A.U = true := hinit _ _ X.warmed
  have h4 : A.cells + (headSpec ws rm).room.cells ≤ R.cells := by rw [show (headSpec ws rm).room.cells = mc from hrc]; exact hp.1
  have h5 : A.slots + (headSpec ws rm).room.slots ≤ R.slots := by rw [show (headSpec ws rm).room.slots = ms from hrs]; exact hp.2.1
  have hPc : Pc a (A.U.calling g mk a) := hblind _ _ _ _ hp.2.2
  obtain ⟨U, Ls, c0, s0⟩ := A
  dsimp only [Pt.U, Pt.locs, Pt.cells, Pt.slots] at h1 h2 h3 h4 h5 X hn hPc ⊢
  obtain ⟨methY, cY, hmY, hcY, -, hlY, -, -, -, -⟩ := Cond.code_spec hn h2
  obtain ⟨kY, hkY, -⟩ := className_of_methodNamed hn
  have hinitY : kY.init = .initialized := Cond.initialized_spec (findClass_of_methodNamed hn) hkY h3
  have h : At U g.method c below := by rw [hg]; exact X.here
  have hlocals9 : W9 + (maxL + 11) + (headSpec ws rm).room.locals ≤ R.locals := hlocals
  have happ : (headSpec ws rm).appliesLoose y e.platform (U.calling g mk a) = true :=
    Spec.appliesLoose_calling (g := g) h hdg hn hkY hinitY
      (X.room_calling (g := g) (R' := (headSpec ws rm).room) hsize hmY hcY hframes (by rw [hlY]; omega) h4 h5) h1
  obtain ⟨mid, hmid⟩ := h.above
  have hfr : (U.setTop g).frames = (.java g :: mid) ++ below := by rw [State.frames_setTop' g h.top, hmid]; rfl
  obtain ⟨o, s₂, hsteps, -, hend, hq⟩ := Steps.callFree hM p X.admits X.cas X.clock (acts := []) hfr happ hPc trivial
  have hq' : vx_Q Qc XC mc ms free a (U.calling g mk a) o s₂ := hq
  rw [State.frames_setTop' g h.top] at hend
  obtain ⟨g₀, hg0⟩ := Option.isSome_iff_exists.mp h.top
  obtain ⟨r, hr⟩ := State.topJava?_eq_some.mp hg0
  have hr' : (({ U with heap := s₂.heap, slotsUsed := s₂.slotsUsed } : State).setVm s₂.vm).frames = .java g₀ :: r := hr
  rcases hq' with ⟨hqc, L, hfe, hL⟩ | ⟨q, rfl, E, ce, L, hx, hce, hcv, hcl, hW₂, hsm, hL⟩
  · obtain ⟨⟨v, rfl⟩, hW₂, e2, q2, q3, q4, q5, q6⟩ := id hfe
    have e3 : s₂ = ({ (U.calling g mk a).setFrames s₂.frames with heap := s₂.heap, slotsUsed := s₂.slotsUsed } : State).setVm s₂.vm := by
      have : s₂ = ({ s₂ with vm := (U.calling g mk a).vm } : State).setVm s₂.vm := rfl
      rw [e2] at this
      exact this
    obtain ⟨c₂, i₂, len₂, hc₂, hd₂, hf₂⟩ := hend
    have hW' : U.WarmedH s₂.vm := hW₂
    have hcc : c₂ = c := by
      have h1 : s₂.code? g.method = U.code? g.method := by
        rw [State.code?_eq, State.code?_eq, hW'.alike.method?]
      exact Option.some.inj (hc₂.symm.trans (h1.trans h.code))
    subst hcc
    have hlen : len₂ = len := by rw [hdg] at hd₂; cases hd₂; rfl
    subst hlen
    have hs₂ : s₂ = (({ U with heap := s₂.heap, slotsUsed := s₂.slotsUsed } : State).setVm s₂.vm).setTop { g with pc := g.pc + len₂, stack := v.toList ++ g.stack } := by
      refine e3.trans ?_
      rw [hf₂, State.calling_eq h.top, State.setFrames_setFrames, State.setTop_of_frames _ hr', hr]
      rfl
    have hsame : U.sameButNew ({ U with heap := s₂.heap, slotsUsed := s₂.slotsUsed } : State) L mc ms := by
      refine ⟨?_, q2, q3, q4, q5, q6⟩
      obtain ⟨t, ht, -⟩ := State.frames_cons hr
      show ({ U with heap := s₂.heap, slotsUsed := s₂.slotsUsed } : State) = { U.setFrames U.frames with heap := s₂.heap, slotsUsed := s₂.slotsUsed }
      rw [State.setFrames_self ht]
    subst hg
    refine Or.inl ⟨v, ⟨(({ U with heap := s₂.heap, slotsUsed := s₂.slotsUsed } : State).setVm s₂.vm), Ls ++ L, c0 + mc, s0 + ms⟩,
      ⟨X.admits, X.cas, X.clock, X.frames, X.room, X.hears, X.method, X.code, (X.here.setHeapUsed s₂.heap s₂.slotsUsed).setVm hW'.alike, X.tail, State.WarmedH.trans X.warmed hW', X.limits, X.bytes, X.same.trans (hsame.setVm s.vm)⟩,
      ⟨g, mk, s₂, L, rfl, rfl, hqc, rfl, hL, rfl, rfl⟩, ?_⟩
    show Steps p.tables e below _ ((({ U with heap := s₂.heap, slotsUsed := s₂.slotsUsed } : State).setVm s₂.vm).setTop { g with pc := g.pc + len₂, stack := v.toList ++ g.stack })
    rw [← hs₂]
    exact hsteps
  · obtain ⟨e2, q2, q3, q4, q5, q6⟩ := id hsm
    have e3 : s₂ = ({ (U.calling g mk a).setFrames s₂.frames with heap := s₂.heap, slotsUsed := s₂.slotsUsed } : State).setVm s₂.vm := by
      have : s₂ = ({ s₂ with vm := (U.calling g mk a).vm } : State).setVm s₂.vm := rfl
      rw [e2] at this
      exact this
    have hf₂ : s₂.frames = .throwing q :: .java g :: U.frames.tail := hend
    have hW' : U.WarmedH s₂.vm := hW₂
    have hs₂ : s₂ = ((({ U with heap := s₂.heap, slotsUsed := s₂.slotsUsed } : State).setVm s₂.vm).setTop g).pushFrame (.throwing q) := by
      refine e3.trans ?_
      rw [hf₂, State.calling_eq h.top, State.setFrames_setFrames, State.pushFrame, State.frames_setTop _ hr', State.setTop_of_frames _ hr', State.setFrames_setFrames, hr]
      rfl
    have hsame : U.sameButNew ({ U with heap := s₂.heap, slotsUsed := s₂.slotsUsed } : State) L mc ms := by
      refine ⟨?_, q2, q3, q4, q5, q6⟩
      obtain ⟨t, ht, -⟩ := State.frames_cons hr
      show ({ U with heap := s₂.heap, slotsUsed := s₂.slotsUsed } : State) = { U.setFrames U.frames with heap := s₂.heap, slotsUsed := s₂.slotsUsed }
      rw [State.setFrames_self ht]
    subst hg
    refine Or.inr ⟨q, ⟨(({ U with heap := s₂.heap, slotsUsed := s₂.slotsUsed } : State).setVm s₂.vm), Ls ++ L, c0 + mc, s0 + ms⟩,
      ⟨X.admits, X.cas, X.clock, X.frames, X.room, X.hears, X.method, X.code, (X.here.setHeapUsed s₂.heap s₂.slotsUsed).setVm hW'.alike, X.tail, State.WarmedH.trans X.warmed hW', X.limits, X.bytes, X.same.trans (hsame.setVm s.vm)⟩,
      ⟨g, mk, s₂, L, E, ce, rfl, rfl, hx, hce, hcv, hcl, rfl, hL, rfl, rfl⟩, ?_⟩
    show Steps p.tables e below _ (((({ U with heap := s₂.heap, slotsUsed := s₂.slotsUsed } : State).setVm s₂.vm).setTop g).pushFrame (.throwing q))
    rw [← hs₂]
    exact hsteps
end Payer
section Calls
variable {p : Program} {l : Launch} {e : Env} {R : Room} {s : State} {m : MethodId} {args : Array Value} {below : List Frame} {meth : Method} {c : Code} {T : State} {locs : List Loc} {cells slots : Nat}
theorem vx_callV (X : Stand p l e R s m args below meth c T locs cells slots) (hexec : p.tables.exec = Jvm.exec) {own C : String} {index : Nat} {y : MethodName} {bytes : ByteArray} {maxL : Nat} {ret : Option FieldType}
    (hown : s.vm.findClass own = some m.cls) (hlink : (Cond.methodLink own index y).before args s = true) (hinst : (Cond.instanceMethod y).before args s = true) (hsel : (Cond.selects C y y).before args s = true)
    (hcode : (Cond.code y bytes maxL ret).before args s = true) (hy : y.cls ≠ "java/lang/invoke/MethodHandle" ∧ y.cls ≠ "java/lang/invoke/VarHandle")
    {W9 : Nat} {Pre : Pt → Array Value → Prop} {Post : Pt → Array Value → Option Value → Pt → Prop} {PostX : Pt → Array Value → Addr → Pt → Prop} (hK : vx_Back l R p e below s args y 3 W9 Pre Post PostX)
    {b : Addr} {cellB : Cell} (hcell : T.heap[b]? = some cellB) (hobj : cellB.vm.isStatics = false) (hcls : s.vm.findClass C = some cellB.cls)
    {g : JFrame} (hg : g.method = m) (hsize : g.locals.size = c.maxLocals) {argsL rest : List Value} (hlen : ∀ sig, parseMethodDescriptor y.desc = some sig → argsL.length = sig.parameters.length)
    (hstack : g.stack = argsL.reverse ++ .ref b :: rest) (hW : 2 * g.monitorRoom + (rest.map fun v => v.category).sum ≤ W9) (hdg : decode c.code g.pc = .ok (.invokevirtual index, 3))
    (hpre : ∀ vm₁, s.WarmedH vm₁ → Pre ⟨T.setVm vm₁, locs, cells, slots⟩ (Value.ref b :: argsL).toArray) :
    (∃ (v : Option Value) (vm₁ : Vm) (B : Pt), s.WarmedH vm₁ ∧ Stand p l e R s m args below meth c B.U B.locs B.cells B.slots ∧ Post ⟨T.setVm vm₁, locs, cells, slots⟩ (Value.ref b :: argsL).toArray v B ∧
      ∀ target, Steps p.tables e below (B.U.setTop { g with pc := g.pc + 3, stack := v.toList ++ rest }) target → Steps p.tables e below (T.setTop g) target) ∨
    (∃ (q : Addr) (vm₁ : Vm) (B : Pt), s.WarmedH vm₁ ∧ Stand p l e R s m args below meth c B.U B.locs B.cells B.slots ∧ PostX ⟨T.setVm vm₁, locs, cells, slots⟩ (Value.ref b :: argsL).toArray q B ∧
      Steps p.tables e below (T.setTop g) ((B.U.setTop { g with stack := rest }).pushFrame (.throwing q))) := by
  obtain ⟨mk, methM, hnamed, hmethM, hstM, habM⟩ := Cond.instanceMethod_spec hinst
  obtain ⟨methM', cM, hmethM', -, -, -, -, -, -, hsigM⟩ := Cond.code_spec hnamed hcode
  cases hmethM.symm.trans hmethM'
  obtain ⟨c2, r2, m2, q1, q2, q3, q4, kP, hkP, hkPi⟩ := Cond.selects_spec hsel
  cases hcls.symm.trans q1
  cases (State.methodFound?_of_named hnamed hy).symm.trans q2
  cases hnamed.symm.trans q3
  have hselP : selectMethod e.platform s.vm cellB.cls mk = .method mk := by rw [Launch.admits_selectMethod X.admits]; exact q4
  obtain ⟨vm₁, X₁, hstep₁⟩ := X.invokevirtual hexec hown hlink hnamed hmethM hstM hkP hkPi hy (a := b) (cell := cellB) hcell
    (fun z h => by rw [h] at hobj; cases hobj) hselP hmethM habM hkP hkPi (g := g) hg (argsL := argsL) (rest := rest) (hlen _ hsigM) hstack hdg
  rcases hK m meth c ⟨T.setVm vm₁, locs, cells, slots⟩ { g with stack := rest } (.invokevirtual index) mk (Value.ref b :: argsL).toArray X₁ hg hsize hdg hW (X₁.named hnamed) (hpre vm₁ X₁.warmed) with ⟨v, B, X', hpost, hsteps⟩ | ⟨q, B, X', hpost, hsteps⟩
  · exact Or.inl ⟨v, vm₁, B, X₁.warmed, X', hpost, fun target h => hstep₁ _ fun acts => by rw [doInvoke_state]; exact hsteps.trans h⟩
  · exact Or.inr ⟨q, vm₁, B, X₁.warmed, X', hpost, hstep₁ _ fun acts => by rw [doInvoke_state]; exact hsteps⟩
theorem vx_callS (X : Stand p l e R s m args below meth c T locs cells slots) (hexec : p.tables.exec = Jvm.exec) {own : String} {index : Nat} {y : MethodName} {bytes : ByteArray} {maxL : Nat} {ret : Option FieldType}
    (hown : s.vm.findClass own = some m.cls) (hlink : (Cond.methodLink own index y).before args s = true) (hstat : (Cond.static y).before args s = true) (hinit : (Cond.initialized y.cls).before args s = true)
    (hcode : (Cond.code y bytes maxL ret).before args s = true) (hy : y.cls ≠ "java/lang/invoke/MethodHandle" ∧ y.cls ≠ "java/lang/invoke/VarHandle")
    {W9 : Nat} {Pre : Pt → Array Value → Prop} {Post : Pt → Array Value → Option Value → Pt → Prop} {PostX : Pt → Array Value → Addr → Pt → Prop} (hK : vx_Back l R p e below s args y 3 W9 Pre Post PostX)
    {g : JFrame} (hg : g.method = m) (hsize : g.locals.size = c.maxLocals) {argsL rest : List Value} (hlen : ∀ sig, parseMethodDescriptor y.desc = some sig → argsL.length = sig.parameters.length)
    (hstack : g.stack = argsL.reverse ++ rest) (hW : 2 * g.monitorRoom + (rest.map fun v => v.category).sum ≤ W9) (hdg : decode c.code g.pc = .ok (.invokestatic index, 3))
    (hpre : ∀ vm₁, s.WarmedH vm₁ → Pre ⟨T.setVm vm₁, locs, cells, slots⟩ argsL.toArray) :
    (∃ (v : Option Value) (vm₁ : Vm) (B : Pt), s.WarmedH vm₁ ∧ Stand p l e R s m args below meth c B.U B.locs B.cells B.slots ∧ Post ⟨T.setVm vm₁, locs, cells, slots⟩ argsL.toArray v B ∧
      ∀ target, Steps p.tables e below (B.U.setTop { g with pc := g.pc + 3, stack := v.toList ++ rest }) target → Steps p.tables e below (T.setTop g) target) ∨
    (∃ (q : Addr) (vm₁ : Vm) (B : Pt), s.WarmedH vm₁ ∧ Stand p l e R s m args below meth c B.U B.locs B.cells B.slots ∧ PostX ⟨T.setVm vm₁, locs, cells, slots⟩ argsL.toArray q B ∧
      Steps p.tables e below (T.setTop g) ((B.U.setTop { g with stack := rest }).pushFrame (.throwing q))) := by
  obtain ⟨mk, hnamed⟩ := Cond.code_named hcode
  obtain ⟨methM, cM, hmethM, -, -, -, -, -, -, hsigM⟩ := Cond.code_spec hnamed hcode
  have hstatic : methM.isStatic = true := Cond.static_spec hnamed hmethM hstat
  obtain ⟨kP, hkP, -⟩ := className_of_methodNamed hnamed
  have hinitP : kP.init = .initialized := Cond.initialized_spec (findClass_of_methodNamed hnamed) hkP hinit
  obtain ⟨vm₁, X₁, hstep₁⟩ := X.invokestatic hexec hown hlink hnamed hmethM hstatic hkP hinitP hy (g := g) hg (argsL := argsL) (rest := rest) (hlen _ hsigM) hstack hdg
  rcases hK m meth c ⟨T.setVm vm₁, locs, cells, slots⟩ { g with stack := rest } (.invokestatic index) mk argsL.toArray X₁ hg hsize hdg hW (X₁.named hnamed) (hpre vm₁ X₁.warmed) with ⟨v, B, X', hpost, hsteps⟩ | ⟨q, B, X', hpost, hsteps⟩
  · exact Or.inl ⟨v, vm₁, B, X₁.warmed, X', hpost, fun target h => hstep₁ _ fun acts => by rw [doInvoke_state]; exact hsteps.trans h⟩
  · exact Or.inr ⟨q, vm₁, B, X₁.warmed, X', hpost, hstep₁ _ fun acts => by rw [doInvoke_state]; exact hsteps⟩
end Calls
theorem vx_cls {s : State} {T : State} {vm₁ : Vm} {E : String} {k : ClassId} (hW : s.WarmedH vm₁) (h : (T.setVm vm₁).vm.findClass E = some k) : s.vm.findClass E = some k := by
  have h1 : vm₁.findClass E = some k := h
  rw [hW.alike.findClass] at h1
  exact h1
/-- the method's frame g, with q thrown over it -/
def vx_W (p : Program) (l : Launch) (e : Env) (R : Room) (s : State) (m : MethodId) (args : Array Value) (below : List Frame) (meth : Method) (c : Code) (H : Heap) (locs : List Loc) (cells slots : Nat) (Q : State → Prop) (g : JFrame) (q : Addr) : Prop :=
  ∀ T : State, T.heap = H → Stand p l e R s m args below meth c T locs cells slots → ∃ t, Steps p.tables e below ((T.setTop g).pushFrame (.throwing q)) t ∧ Q t
def vx_Run (p : Program) (l : Launch) (e : Env) (R : Room) (s : State) (m : MethodId) (args : Array Value) (below : List Frame) (meth : Method) (c : Code) (H : Heap) (locs : List Loc) (cells slots mc ms : Nat) (g : JFrame) (rest : List Value) (Qa : State → Outcome → State → Prop) (XC : String → State → State → Prop) (free : Addr → Prop) : Prop :=
  ∀ T : State, T.heap = H → Stand p l e R s m args below meth c T locs cells slots →
    (∃ (v : Option Value) (st₀ t T' : State) (L : List Loc), st₀.heap = H ∧ Stand p l e R s m args below meth c T' (locs ++ L) (cells + mc) (slots + ms) ∧ (∀ q ∈ L, free q.base) ∧ T'.heap = t.heap ∧ T'.vm = t.vm ∧ Qa st₀ (.returned v) t ∧
      Goes p e below T g T' { g with pc := g.pc + 3, stack := v.toList ++ rest }) ∨
    (∃ (q : Addr) (st₀ t T' : State) (L : List Loc) (E : String) (ce : Cell), st₀.heap = H ∧ Stand p l e R s m args below meth c T' (locs ++ L) (cells + mc) (slots + ms) ∧ (∀ z ∈ L, free z.base) ∧ T'.heap = t.heap ∧ T'.vm = t.vm ∧ XC E st₀ t ∧ t.heap[q]? = some ce ∧ ce.vm = .none ∧ s.vm.findClass E = some ce.cls ∧
      Steps p.tables e below (T.setTop g) ((T'.setTop { g with stack := rest }).pushFrame (.throwing q)))
def vx_X {S : Type} (px : S → Prop) (B : String → S → State → Prop) (A : Nat → Prop) : String → State → State → Prop := fun E st t => ∃ u : S, px u ∧ B E u t ∧ va_F A st t
section Runs
variable {p : Program} {l : Launch} {e : Env} {R : Room} {s : State} {m : MethodId} {args : Array Value} {below : List Frame} {meth : Method} {c : Code} {H : Heap} {locs : List Loc} {cells slots : Nat}
variable {y : MethodName} {bytes cc : ByteArray} {maxL nL mc ms n index : Nat} {ret : Option FieldType} {ws : List Cond} {rm : Room} {Pc : Array Value → State → Prop} {Qc : Array Value → State → Outcome → State → Prop} {XC : String → State → State → Prop} {free : Addr → Prop} {Ts : List Cond} {own C : String} {b : Addr} {As rest : List Value} {g : JFrame}
theorem vx_callBack (cb : CallB R s args own index y bytes maxL ret ws rm mc ms n) (hM : vx_Met l y ws rm Pc Qc XC mc ms free) (hbl : FrameBlind Pc) : vx_Back l R p e below s args y 3 8 (PreOf R mc ms Pc) (PostOf Qc mc ms free) (vx_Post XC mc ms free) := by
  obtain ⟨hrc, hrs, hfr, hlo, hws, hcw, -, hini, -⟩ := cb
  exact vx_back (bytes := bytes) (maxL := maxL) (ret := ret) hM hbl hrc hrs hfr hlo hws hcw (fun a' U hW => word_at hW (Or.inl (by first | rfl | simp [Cond.onTables, Cond.keeps, Cond.steady])) hini)
theorem vx_runV (S : CallFix p m c cc nL s args Ts own) (hM : vx_Met l y ws rm Pc Qc XC mc ms free) (cw : CallW R s args own C index y bytes maxL ret ws rm mc ms n) (hp : PreV s H C b Pc As)
    (hg : g.method = m) (hn : As.length = n) (hsize : g.locals.size = nL) (hstack : g.stack = As.reverse ++ .ref b :: rest) (hW : 2 * g.monitorRoom + (rest.map fun v => v.category).sum ≤ 8) (hdg : decode cc g.pc = .ok (.invokevirtual index, 3)) (hf : cells + mc ≤ R.cells ∧ slots + ms ≤ R.slots) :
    vx_Run p l e R s m args below meth c H locs cells slots mc ms g rest (Qc (Value.ref b :: As).toArray) XC free := by
  have hK : vx_Back l R p e below s args y 3 8 (PreOf R mc ms Pc) (PostOf Qc mc ms free) (vx_Post XC mc ms free) := vx_callBack cw.1 hM hp.1
  obtain ⟨⟨-, -, -, -, -, -, hcode, -, hy, hlen, hl⟩, hin, hse⟩ := cw
  obtain ⟨hx, hb, hml, ho, -⟩ := S
  obtain ⟨-, ⟨cellB, hcB, hoB, hclB⟩, hPc⟩ := hp
  intro T hT X
  rcases vx_callV X hx (C := C) (bytes := bytes) (maxL := maxL) (ret := ret) ho hl hin hse hcode hy hK (by rw [hT]; exact hcB) hoB hclB hg (hsize.trans hml.symm) (argsL := As) (rest := rest) (fun sig h => hn.trans (hlen sig h)) hstack hW (by rw [hb]; exact hdg)
    (fun vm₁ hW₁ => ⟨hf.1, hf.2, hPc (T.setVm vm₁) hT hW₁⟩) with ⟨v, vm₁, ⟨U', l2, c2, s2⟩, hW₁, X', ⟨g', mk, t, L, e1, e2, hq, h1, hL, h2, h3⟩, st⟩ | ⟨q, vm₁, ⟨U', l2, c2, s2⟩, hW₁, X', ⟨g', mk, t, L, E, ce, e1, e2, hq, hce, hcv, hcl, h1, hL, h2, h3⟩, st⟩
  · dsimp only [Pt.U, Pt.locs, Pt.cells, Pt.slots] at X' e1 e2 h1 h2 h3 st
    subst h1; subst h2; subst h3
    exact Or.inl ⟨v, (T.setVm vm₁).calling g' mk (Value.ref b :: As).toArray, t, U', L, hT, X', hL, e1, e2, hq, st⟩
  · dsimp only [Pt.U, Pt.locs, Pt.cells, Pt.slots] at X' e1 e2 h1 h2 h3 st hcl
    subst h1; subst h2; subst h3
    exact Or.inr ⟨q, (T.setVm vm₁).calling g' mk (Value.ref b :: As).toArray, t, U', L, E, ce, hT, X', hL, e1, e2, hq, hce, hcv, vx_cls hW₁ hcl, st⟩
theorem vx_runS (S : CallFix p m c cc nL s args Ts own) (hM : vx_Met l y ws rm Pc Qc XC mc ms free) (cw : CallB R s args own index y bytes maxL ret ws rm mc ms n ∧ (Cond.static y).before args s = true) (hp : PreS s H Pc As)
    (hg : g.method = m) (hn : As.length = n) (hsize : g.locals.size = nL) (hstack : g.stack = As.reverse ++ rest) (hW : 2 * g.monitorRoom + (rest.map fun v => v.category).sum ≤ 8) (hdg : decode cc g.pc = .ok (.invokestatic index, 3)) (hf : cells + mc ≤ R.cells ∧ slots + ms ≤ R.slots) :
    vx_Run p l e R s m args below meth c H locs cells slots mc ms g rest (Qc As.toArray) XC free := by
  have hK : vx_Back l R p e below s args y 3 8 (PreOf R mc ms Pc) (PostOf Qc mc ms free) (vx_Post XC mc ms free) := vx_callBack cw.1 hM hp.1
  obtain ⟨⟨-, -, -, -, -, -, hcode, hini, hy, hlen, hl⟩, hstt⟩ := cw
  obtain ⟨hx, hb, hml, ho, -⟩ := S
  intro T hT X
  rcases vx_callS X hx (bytes := bytes) (maxL := maxL) (ret := ret) ho hl hstt hini hcode hy hK hg (hsize.trans hml.symm) (argsL := As) (rest := rest) (fun sig h => hn.trans (hlen sig h)) hstack hW (by rw [hb]; exact hdg)
    (fun vm₁ hW₁ => ⟨hf.1, hf.2, hp.2 (T.setVm vm₁) hT hW₁⟩) with ⟨v, vm₁, ⟨U', l2, c2, s2⟩, hW₁, X', ⟨g', mk, t, L, e1, e2, hq, h1, hL, h2, h3⟩, st⟩ | ⟨q, vm₁, ⟨U', l2, c2, s2⟩, hW₁, X', ⟨g', mk, t, L, E, ce, e1, e2, hq, hce, hcv, hcl, h1, hL, h2, h3⟩, st⟩
  · dsimp only [Pt.U, Pt.locs, Pt.cells, Pt.slots] at X' e1 e2 h1 h2 h3 st
    subst h1; subst h2; subst h3
    exact Or.inl ⟨v, (T.setVm vm₁).calling g' mk As.toArray, t, U', L, hT, X', hL, e1, e2, hq, st⟩
  · dsimp only [Pt.U, Pt.locs, Pt.cells, Pt.slots] at X' e1 e2 h1 h2 h3 st hcl
    subst h1; subst h2; subst h3
    exact Or.inr ⟨q, (T.setVm vm₁).calling g' mk As.toArray, t, U', L, E, ce, hT, X', hL, e1, e2, hq, hce, hcv, vx_cls hW₁ hcl, st⟩
end Runs
section Rows
variable {p : Program} {l : Launch} {e : Env} {R : Room} {s : State} {m : MethodId} {args : Array Value} {below : List Frame} {meth : Method} {c : Code} {H : Heap} {locs : List Loc} {cells slots : Nat} {Q : State → Prop}
variable {mc ms : Nat} {free : Addr → Prop} {A0 A1 : Nat → Prop} {H0 : Heap} {a : Array Value} {pc : Nat} {ls : Array Slot} {st0 rest : List Value}
theorem vx_keep {st₀ t T' : State} {L : List Loc} (h0 : st₀.heap = H) (e1 : T'.heap = t.heap) (hS : va_S A0 H0 H locs) (hA : ∀ q, q < H.size → A1 q → A0 q) (hf : ∀ q, free q → A0 q) (hL : ∀ q ∈ L, free q.base) (hF : va_F A1 st₀ t) :
    H.size ≤ T'.heap.size ∧ (∀ q : Nat, q < H.size → ¬ A1 q → T'.heap[q]? = H[q]?) ∧ va_S A0 H0 T'.heap (locs ++ L) := by
  obtain ⟨hz, hk⟩ := hF
  rw [h0] at hz hk
  exact ⟨by rw [e1]; exact hz, fun q h1 h2 => by rw [e1]; exact hk q h1 h2,
    ⟨Nat.le_trans hS.1 (by rw [e1]; exact hz), fun q h1 h2 => by rw [e1, hk q (Nat.lt_of_lt_of_le h1 hS.1) (fun z => h2 (hA q (Nat.lt_of_lt_of_le h1 hS.1) z))]; exact hS.2.1 q h1 h2, fun q hq => by
      rcases List.mem_append.mp hq with h | h
      · exact hS.2.2 q h
      · exact hf _ (hL q h)⟩⟩
theorem vx_calli {S SX : Type} {post : Int32 → S → Prop} {px : SX → Prop} {B : S → State → Prop} {BX : String → SX → State → Prop} {AX : Nat → Prop} (hr : vx_Run p l e R s m args below meth c H locs cells slots mc ms (F0 m pc ls st0) rest (va_Qi post B A1 a) (vx_X px BX AX) free) (hS : va_S A0 H0 H locs) (hA : ∀ q, q < H.size → A1 q → A0 q) (hf : ∀ q, free q → A0 q) (hAX : ∀ q, q < H.size → AX q → A0 q)
    (kx : ∀ (E : String) (ce : Cell) (q9 : Addr) (u : SX) (t : State) (H1 : Heap) (locs1 : List Loc), t.heap = H1 → s.vm.Alike t.vm → px u → BX E u t → H.size ≤ H1.size → (∀ q : Nat, q < H.size → ¬ AX q → H1[q]? = H[q]?) → va_S A0 H0 H1 locs1 → H1[q9]? = some ce → ce.vm = .none → s.vm.findClass E = some ce.cls → vx_W p l e R s m args below meth c H1 locs1 (cells + mc) (slots + ms) Q (F0 m pc ls rest) q9)
    (kk : ∀ (r : Int32) (u : S) (t : State) (H1 : Heap) (locs1 : List Loc), t.heap = H1 → s.vm.Alike t.vm → post r u → B u t → H.size ≤ H1.size → (∀ q : Nat, q < H.size → ¬ A1 q → H1[q]? = H[q]?) → va_S A0 H0 H1 locs1 → W p l e R s m args below meth c H1 locs1 (cells + mc) (slots + ms) Q (F0 m (pc + 3) ls (.int r :: rest))) : W p l e R s m args below meth c H locs cells slots Q (F0 m pc ls st0) := by
  intro T hT X
  rcases hr T hT X with ⟨v, st₀, t, T', L, h0, X', hL, e1, e2, ⟨⟨r, u, hv, hp, hb⟩, hF⟩, st⟩ | ⟨q, st₀, t, T', L, E, ce, h0, X', hL, e1, e2, ⟨u, hp, hb, hF⟩, hce, hcv, hcl, st⟩
  · cases hv
    obtain ⟨k1, k2, k3⟩ := vx_keep h0 e1 hS hA hf hL hF
    obtain ⟨t2, a1, b1⟩ := kk r u t T'.heap (locs ++ L) e1.symm (by rw [← e2]; exact X'.warmed.alike) hp hb k1 k2 k3 T' rfl X'
    exact ⟨t2, st t2 a1, b1⟩
  · obtain ⟨k1, k2, k3⟩ := vx_keep h0 e1 hS hAX hf hL hF
    obtain ⟨t2, a1, b1⟩ := kx E ce q u t T'.heap (locs ++ L) e1.symm (by rw [← e2]; exact X'.warmed.alike) hp hb k1 k2 k3 (by rw [e1]; exact hce) hcv hcl T' rfl X'
    exact ⟨t2, st.trans a1, b1⟩
theorem vx_calll {S SX : Type} {post : Int64 → S → Prop} {px : SX → Prop} {B : S → State → Prop} {BX : String → SX → State → Prop} {AX : Nat → Prop} (hr : vx_Run p l e R s m args below meth c H locs cells slots mc ms (F0 m pc ls st0) rest (va_Ql post B A1 a) (vx_X px BX AX) free) (hS : va_S A0 H0 H locs) (hA : ∀ q, q < H.size → A1 q → A0 q) (hf : ∀ q, free q → A0 q) (hAX : ∀ q, q < H.size → AX q → A0 q)
    (kx : ∀ (E : String) (ce : Cell) (q9 : Addr) (u : SX) (t : State) (H1 : Heap) (locs1 : List Loc), t.heap = H1 → s.vm.Alike t.vm → px u → BX E u t → H.size ≤ H1.size → (∀ q : Nat, q < H.size → ¬ AX q → H1[q]? = H[q]?) → va_S A0 H0 H1 locs1 → H1[q9]? = some ce → ce.vm = .none → s.vm.findClass E = some ce.cls → vx_W p l e R s m args below meth c H1 locs1 (cells + mc) (slots + ms) Q (F0 m pc ls rest) q9)
    (kk : ∀ (r : Int64) (u : S) (t : State) (H1 : Heap) (locs1 : List Loc), t.heap = H1 → s.vm.Alike t.vm → post r u → B u t → H.size ≤ H1.size → (∀ q : Nat, q < H.size → ¬ A1 q → H1[q]? = H[q]?) → va_S A0 H0 H1 locs1 → W p l e R s m args below meth c H1 locs1 (cells + mc) (slots + ms) Q (F0 m (pc + 3) ls (.long r :: rest))) : W p l e R s m args below meth c H locs cells slots Q (F0 m pc ls st0) := by
  intro T hT X
  rcases hr T hT X with ⟨v, st₀, t, T', L, h0, X', hL, e1, e2, ⟨⟨r, u, hv, hp, hb⟩, hF⟩, st⟩ | ⟨q, st₀, t, T', L, E, ce, h0, X', hL, e1, e2, ⟨u, hp, hb, hF⟩, hce, hcv, hcl, st⟩
  · cases hv
    obtain ⟨k1, k2, k3⟩ := vx_keep h0 e1 hS hA hf hL hF
    obtain ⟨t2, a1, b1⟩ := kk r u t T'.heap (locs ++ L) e1.symm (by rw [← e2]; exact X'.warmed.alike) hp hb k1 k2 k3 T' rfl X'
    exact ⟨t2, st t2 a1, b1⟩
  · obtain ⟨k1, k2, k3⟩ := vx_keep h0 e1 hS hAX hf hL hF
    obtain ⟨t2, a1, b1⟩ := kx E ce q u t T'.heap (locs ++ L) e1.symm (by rw [← e2]; exact X'.warmed.alike) hp hb k1 k2 k3 (by rw [e1]; exact hce) hcv hcl T' rfl X'
    exact ⟨t2, st.trans a1, b1⟩
theorem vx_callf {S SX : Type} {post : UInt32 → S → Prop} {px : SX → Prop} {B : S → State → Prop} {BX : String → SX → State → Prop} {AX : Nat → Prop} (hr : vx_Run p l e R s m args below meth c H locs cells slots mc ms (F0 m pc ls st0) rest (va_Qf post B A1 a) (vx_X px BX AX) free) (hS : va_S A0 H0 H locs) (hA : ∀ q, q < H.size → A1 q → A0 q) (hf : ∀ q, free q → A0 q) (hAX : ∀ q, q < H.size → AX q → A0 q)
    (kx : ∀ (E : String) (ce : Cell) (q9 : Addr) (u : SX) (t : State) (H1 : Heap) (locs1 : List Loc), t.heap = H1 → s.vm.Alike t.vm → px u → BX E u t → H.size ≤ H1.size → (∀ q : Nat, q < H.size → ¬ AX q → H1[q]? = H[q]?) → va_S A0 H0 H1 locs1 → H1[q9]? = some ce → ce.vm = .none → s.vm.findClass E = some ce.cls → vx_W p l e R s m args below meth c H1 locs1 (cells + mc) (slots + ms) Q (F0 m pc ls rest) q9)
    (kk : ∀ (r : UInt32) (u : S) (t : State) (H1 : Heap) (locs1 : List Loc), t.heap = H1 → s.vm.Alike t.vm → post r u → B u t → H.size ≤ H1.size → (∀ q : Nat, q < H.size → ¬ A1 q → H1[q]? = H[q]?) → va_S A0 H0 H1 locs1 → W p l e R s m args below meth c H1 locs1 (cells + mc) (slots + ms) Q (F0 m (pc + 3) ls (.float r :: rest))) : W p l e R s m args below meth c H locs cells slots Q (F0 m pc ls st0) := by
  intro T hT X
  rcases hr T hT X with ⟨v, st₀, t, T', L, h0, X', hL, e1, e2, ⟨⟨r, u, hv, hp, hb⟩, hF⟩, st⟩ | ⟨q, st₀, t, T', L, E, ce, h0, X', hL, e1, e2, ⟨u, hp, hb, hF⟩, hce, hcv, hcl, st⟩
  · cases hv
    obtain ⟨k1, k2, k3⟩ := vx_keep h0 e1 hS hA hf hL hF
    obtain ⟨t2, a1, b1⟩ := kk r u t T'.heap (locs ++ L) e1.symm (by rw [← e2]; exact X'.warmed.alike) hp hb k1 k2 k3 T' rfl X'
    exact ⟨t2, st t2 a1, b1⟩
  · obtain ⟨k1, k2, k3⟩ := vx_keep h0 e1 hS hAX hf hL hF
    obtain ⟨t2, a1, b1⟩ := kx E ce q u t T'.heap (locs ++ L) e1.symm (by rw [← e2]; exact X'.warmed.alike) hp hb k1 k2 k3 (by rw [e1]; exact hce) hcv hcl T' rfl X'
    exact ⟨t2, st.trans a1, b1⟩
theorem vx_calld {S SX : Type} {post : UInt64 → S → Prop} {px : SX → Prop} {B : S → State → Prop} {BX : String → SX → State → Prop} {AX : Nat → Prop} (hr : vx_Run p l e R s m args below meth c H locs cells slots mc ms (F0 m pc ls st0) rest (va_Qd post B A1 a) (vx_X px BX AX) free) (hS : va_S A0 H0 H locs) (hA : ∀ q, q < H.size → A1 q → A0 q) (hf : ∀ q, free q → A0 q) (hAX : ∀ q, q < H.size → AX q → A0 q)
    (kx : ∀ (E : String) (ce : Cell) (q9 : Addr) (u : SX) (t : State) (H1 : Heap) (locs1 : List Loc), t.heap = H1 → s.vm.Alike t.vm → px u → BX E u t → H.size ≤ H1.size → (∀ q : Nat, q < H.size → ¬ AX q → H1[q]? = H[q]?) → va_S A0 H0 H1 locs1 → H1[q9]? = some ce → ce.vm = .none → s.vm.findClass E = some ce.cls → vx_W p l e R s m args below meth c H1 locs1 (cells + mc) (slots + ms) Q (F0 m pc ls rest) q9)
    (kk : ∀ (r : UInt64) (u : S) (t : State) (H1 : Heap) (locs1 : List Loc), t.heap = H1 → s.vm.Alike t.vm → post r u → B u t → H.size ≤ H1.size → (∀ q : Nat, q < H.size → ¬ A1 q → H1[q]? = H[q]?) → va_S A0 H0 H1 locs1 → W p l e R s m args below meth c H1 locs1 (cells + mc) (slots + ms) Q (F0 m (pc + 3) ls (.double r :: rest))) : W p l e R s m args below meth c H locs cells slots Q (F0 m pc ls st0) := by
  intro T hT X
  rcases hr T hT X with ⟨v, st₀, t, T', L, h0, X', hL, e1, e2, ⟨⟨r, u, hv, hp, hb⟩, hF⟩, st⟩ | ⟨q, st₀, t, T', L, E, ce, h0, X', hL, e1, e2, ⟨u, hp, hb, hF⟩, hce, hcv, hcl, st⟩
  · cases hv
    obtain ⟨k1, k2, k3⟩ := vx_keep h0 e1 hS hA hf hL hF
    obtain ⟨t2, a1, b1⟩ := kk r u t T'.heap (locs ++ L) e1.symm (by rw [← e2]; exact X'.warmed.alike) hp hb k1 k2 k3 T' rfl X'
    exact ⟨t2, st t2 a1, b1⟩
  · obtain ⟨k1, k2, k3⟩ := vx_keep h0 e1 hS hAX hf hL hF
    obtain ⟨t2, a1, b1⟩ := kx E ce q u t T'.heap (locs ++ L) e1.symm (by rw [← e2]; exact X'.warmed.alike) hp hb k1 k2 k3 (by rw [e1]; exact hce) hcv hcl T' rfl X'
    exact ⟨t2, st.trans a1, b1⟩
theorem vx_callv {S SX : Type} {post : S → Prop} {px : SX → Prop} {B : S → State → Prop} {BX : String → SX → State → Prop} {AX : Nat → Prop} (hr : vx_Run p l e R s m args below meth c H locs cells slots mc ms (F0 m pc ls st0) rest (va_Qv post B A1 a) (vx_X px BX AX) free) (hS : va_S A0 H0 H locs) (hA : ∀ q, q < H.size → A1 q → A0 q) (hf : ∀ q, free q → A0 q) (hAX : ∀ q, q < H.size → AX q → A0 q)
    (kx : ∀ (E : String) (ce : Cell) (q9 : Addr) (u : SX) (t : State) (H1 : Heap) (locs1 : List Loc), t.heap = H1 → s.vm.Alike t.vm → px u → BX E u t → H.size ≤ H1.size → (∀ q : Nat, q < H.size → ¬ AX q → H1[q]? = H[q]?) → va_S A0 H0 H1 locs1 → H1[q9]? = some ce → ce.vm = .none → s.vm.findClass E = some ce.cls → vx_W p l e R s m args below meth c H1 locs1 (cells + mc) (slots + ms) Q (F0 m pc ls rest) q9)
    (kk : ∀ (u : S) (t : State) (H1 : Heap) (locs1 : List Loc), t.heap = H1 → s.vm.Alike t.vm → post u → B u t → H.size ≤ H1.size → (∀ q : Nat, q < H.size → ¬ A1 q → H1[q]? = H[q]?) → va_S A0 H0 H1 locs1 → W p l e R s m args below meth c H1 locs1 (cells + mc) (slots + ms) Q (F0 m (pc + 3) ls (rest))) : W p l e R s m args below meth c H locs cells slots Q (F0 m pc ls st0) := by
  intro T hT X
  rcases hr T hT X with ⟨v, st₀, t, T', L, h0, X', hL, e1, e2, ⟨⟨u, hv, hp, hb⟩, hF⟩, st⟩ | ⟨q, st₀, t, T', L, E, ce, h0, X', hL, e1, e2, ⟨u, hp, hb, hF⟩, hce, hcv, hcl, st⟩
  · cases hv
    obtain ⟨k1, k2, k3⟩ := vx_keep h0 e1 hS hA hf hL hF
    obtain ⟨t2, a1, b1⟩ := kk u t T'.heap (locs ++ L) e1.symm (by rw [← e2]; exact X'.warmed.alike) hp hb k1 k2 k3 T' rfl X'
    exact ⟨t2, st t2 a1, b1⟩
  · obtain ⟨k1, k2, k3⟩ := vx_keep h0 e1 hS hAX hf hL hF
    obtain ⟨t2, a1, b1⟩ := kx E ce q u t T'.heap (locs ++ L) e1.symm (by rw [← e2]; exact X'.warmed.alike) hp hb k1 k2 k3 (by rw [e1]; exact hce) hcv hcl T' rfl X'
    exact ⟨t2, st.trans a1, b1⟩
/-- caught by the row x of this method's table; the rows ahead don't take it -/
theorem vx_catch {own name : String} {E : String} {ce : Cell} {q : Addr} (hown : s.vm.findClass own = some m.cls) (pre : List ExceptionTableEntry) (x : ExceptionTableEntry) (suf : List ExceptionTableEntry) (hsplit : c.exceptionTable.toList = pre ++ x :: suf)
    (hpass : ∀ z ∈ pre, covers z pc = false ∨ (z.catchType ≠ 0 ∧ ∃ nm : String, (Cond.classLink own z.catchType nm).before args s = true ∧ va_Nc E nm s)) (hx : covers x pc = true) (h0 : x.catchType ≠ 0)
    (hlink : (Cond.classLink own x.catchType name).before args s = true) (hcast : (Cond.castable E name).before args s = true) (hcell : H[q]? = some ce) (hv : ce.vm = .none) (hcl : s.vm.findClass E = some ce.cls)
    (kk : W p l e R s m args below meth c H locs cells slots Q (F0 m x.handlerPc ls [.ref q])) : vx_W p l e R s m args below meth c H locs cells slots Q (F0 m pc ls rest) q := by
  intro T hT X
  have hpl : e.platform.magicAccessors = ({} : Platform).magicAccessors := by rw [X.admits.platform]
  obtain ⟨c3, c4, hc3, hc4, hasg⟩ := Cond.castable_spec hcast
  cases Option.some.inj (hc3.symm.trans hcl)
  obtain ⟨c5, hc5, hcl5⟩ := Cond.classLink_spec hown hlink e.platform hpl
  cases Option.some.inj (hc4.symm.trans hc5)
  obtain ⟨vm', X', st⟩ := X.thenCaughtThrough q (g := F0 m pc ls rest) rfl (Steps.refl _) (by rw [hT]; exact hcell) (by rw [hv]; rfl) (by obtain ⟨k9, h9, -⟩ := Vm.findClass_spec hcl; exact ⟨k9, h9⟩) pre x suf hsplit
    (fun z hz => by
      rcases hpass z hz with h | ⟨hz0, nm, hl1, hn1⟩
      · exact Or.inl h
      · obtain ⟨c6, hc6, hcl6⟩ := Cond.classLink_spec hown hl1 e.platform hpl
        obtain ⟨a8, b8, h1, h2, h3⟩ := hn1
        cases Option.some.inj (h1.symm.trans hcl)
        cases Option.some.inj (h2.symm.trans hc6)
        exact Or.inr ⟨hz0, _, hcl6, h3⟩) hx (Or.inr ⟨h0, c4, hcl5, hasg⟩)
  obtain ⟨t, a1, b1⟩ := kk (T.setVm vm') hT X'
  exact ⟨t, st.trans a1, b1⟩
end Rows
section Ends
variable {p : Program} {l : Launch} {e : Env} {R : Room} {s : State} {m : MethodId} {args : Array Value} {below : List Frame} {meth : Method} {c : Code} {H : Heap} {locs : List Loc} {cells slots : Nat} {Q : State → Prop}
variable {mc ms : Nat} {free : Addr → Prop} {A0 A1 : Nat → Prop} {H0 : Heap} {a : Array Value} {ls : Array Slot} {st0 rest : List Value}
variable {Qc : Array Value → State → Outcome → State → Prop} {XC : String → State → State → Prop}
/-- what a body that may throw owes at its end -/
def vx_MQ (below : List Frame) (Qc : Array Value → State → Outcome → State → Prop) (XC : String → State → State → Prop) (a : Array Value) (s : State) (mc ms : Nat) (free : Addr → Prop) : State → Prop := fun t =>
  ∃ o, t.status = .running ∧ Ended t below o ∧ vx_Q Qc XC mc ms free a s o t
theorem vx_ret {g : JFrame} {mc ms : Nat} (k : W p l e R s m args below meth c H locs cells slots (MQ below Qc args s mc ms free) g) : W p l e R s m args below meth c H locs cells slots (vx_MQ below Qc XC args s mc ms free) g := by
  intro T hT X
  obtain ⟨t, a1, o, b1, b2, b3, b4⟩ := k T hT X
  exact ⟨t, a1, o, b1, b2, Or.inl ⟨b3, b4⟩⟩
/-- not caught here: it goes on to the caller -/
theorem vx_widen {g : JFrame} {q : Addr} {k n : Nat} (h1 : cells ≤ k) (h2 : slots ≤ n) (kk : vx_W p l e R s m args below meth c H locs k n Q g q) : vx_W p l e R s m args below meth c H locs cells slots Q g q := fun T hT X => kk T hT (stand_widen X h1 h2)
theorem vx_out {pc : Nat} {E : String} {ce : Cell} {q : Addr} {mc ms : Nat} (hout : ∀ x ∈ c.exceptionTable.toList, covers x pc = false) (hlocks : meth.locks = false) (hcell : H[q]? = some ce) (hv : ce.vm = .none) (hcl : s.vm.findClass E = some ce.cls)
    (hx : ∀ t : State, t.heap = H → s.vm.Alike t.vm → XC E s t) (hf : ∀ z ∈ locs, free z.base) (hc : cells ≤ mc) (hs : slots ≤ ms) :
    vx_W p l e R s m args below meth c H locs cells slots (vx_MQ below Qc XC args s mc ms free) (F0 m pc ls rest) q := by
  intro T hT X
  obtain ⟨st1, hrun, hend, hW, hsm⟩ := X.leaveThrown q (g := F0 m pc ls rest) rfl rfl rfl hout hlocks
  have hcell9 : (T.setFrames (.throwing q :: below)).heap[q]? = some ce := by
    show T.heap[q]? = some ce
    rw [hT]; exact hcell
  exact ⟨_, st1, .threw q, hrun, hend, Or.inr ⟨q, rfl, E, ce, locs, hx _ hT hW.alike, hcell9, hv, hcl, hW, hsm.mono hc hs, hf⟩⟩
theorem vx_frame {U : State} {k n : Nat} (h : s.sameButNew ({ U with vm := s.vm } : State) locs k n) : s.heap.size ≤ U.heap.size ∧ ∀ q : Nat, q < s.heap.size → (∀ z ∈ locs, z.base ≠ q) → U.heap[q]? = s.heap[q]? := by
  obtain ⟨-, h2, -, -, -, h6⟩ := h
  refine ⟨h2, fun q hq hz => ?_⟩
  obtain ⟨c9, e1, e2, e3, e4⟩ := h6 q _ (Array.getElem?_eq_getElem hq)
  have hs : c9.slots = (s.heap[q]).slots := Array.ext_getElem? fun i => e4 i fun hm => hz _ hm rfl
  have h9 : c9 = s.heap[q] := by
    rw [hs] at e2
    exact e2
  have e5 : U.heap[q]? = some c9 := e1
  rw [e5, h9, Array.getElem?_eq_getElem hq]
/-- the words of a throw but the four that speak of the heap -/
def vx_no (w : Cond) : Bool := decide (w ≠ .isRef (.static Bundle.tN "UNASSIGNED_STACK" Bundle.steD)) && decide (w ≠ .isRef (.static Bundle.tN "SUPPRESSED_SENTINEL" Bundle.listD)) && decide (w ≠ .laysStatic Bundle.tN "UNASSIGNED_STACK" Bundle.steD) && decide (w ≠ .laysStatic Bundle.tN "SUPPRESSED_SENTINEL" Bundle.listD)
def vx_at0 (own : String) (ic : Nat) (X : String) (names : List String) : List Cond := (Bundle.ownAtoms0 own ic X names).filter vx_no
def vx_atS (own : String) (ic : Nat) (X : String) (names : List String) : List Cond := (Bundle.ownAtoms own ic X names).filter vx_no
/-- a word that the tables alone decide, or a good one -/
def vx_ot (w : Cond) : Bool := w.onTables || goodWord w
theorem vx_ot_at {args a' : Array Value} {s U : State} {w : Cond} (hW : s.WarmedH U.vm) (hvm : s.vm = U.vm) (hg : vx_ot w = true) (h : w.before args s = true) : w.before a' U = true := by
  simp only [vx_ot, Bool.or_eq_true] at hg
  rcases hg with hg | hg
  · exact va_tabs hg hvm h
  · exact word_at hW (good_of_word hg) h
/-- a list's words: the good ones out of the method's own list, the others by premises of their own -/
theorem vx_hat {args : Array Value} {s : State} {L B : List Cond} (h1 : ∀ w ∈ L.filter goodWord, w.before args s = true) (h2 : ∀ w ∈ L.filter (fun w => !goodWord w), w ∈ B) (h3 : ∀ w ∈ B, w.before args s = true) : ∀ w ∈ L, w.before args s = true := by
  intro w hw
  by_cases g : goodWord w = true
  · exact h1 w (List.mem_filter.mpr ⟨hw, g⟩)
  · refine h3 w (h2 w (List.mem_filter.mpr ⟨hw, ?_⟩))
    show (!goodWord w) = true
    cases hgw : goodWord w
    · rfl
    · exact absurd hgw g
theorem vx_c {args : Array Value} {s : State} {w : Cond} {B : List Cond} (h : w.before args s = true) (t : ∀ w ∈ B, w.before args s = true) : ∀ w' ∈ w :: B, w'.before args s = true := fun w' h' => (List.mem_cons.mp h').elim (fun e => by rw [e]; exact h) (t w')
theorem vx_n {args : Array Value} {s : State} : ∀ w ∈ ([] : List Cond), w.before args s = true := fun _ h => nomatch h
theorem vx_own {args : Array Value} {s : State} {L : List Cond} (h1 : ∀ w ∈ L.filter vx_no, w.before args s = true)
    (hU : (Cond.isRef (.static Bundle.tN "UNASSIGNED_STACK" Bundle.steD)).before args s = true) (hN : (Cond.isRef (.static Bundle.tN "SUPPRESSED_SENTINEL" Bundle.listD)).before args s = true)
    (lU : (Cond.laysStatic Bundle.tN "UNASSIGNED_STACK" Bundle.steD).before args s = true) (lN : (Cond.laysStatic Bundle.tN "SUPPRESSED_SENTINEL" Bundle.listD).before args s = true) : ∀ w ∈ L, w.before args s = true := by
  intro w hw
  by_cases e1 : w = .isRef (.static Bundle.tN "UNASSIGNED_STACK" Bundle.steD)
  · rw [e1]; exact hU
  · by_cases e2 : w = .isRef (.static Bundle.tN "SUPPRESSED_SENTINEL" Bundle.listD)
    · rw [e2]; exact hN
    · by_cases e3 : w = .laysStatic Bundle.tN "UNASSIGNED_STACK" Bundle.steD
      · rw [e3]; exact lU
      · by_cases e4 : w = .laysStatic Bundle.tN "SUPPRESSED_SENTINEL" Bundle.listD
        · rw [e4]; exact lN
        · exact h1 w (List.mem_filter.mpr ⟨hw, by unfold vx_no; rw [decide_eq_true e1, decide_eq_true e2, decide_eq_true e3, decide_eq_true e4]; rfl⟩)
/-- where a static field lies, its class's statics cell in H -/
def vx_L (C n d : String) (A : Nat → Prop) (U : State) (H : Heap) : Prop := ∃ (c : ClassId) (k : Class) (i : Nat) (f : Field) (a : Nat) (cell : Cell), U.vm.findClass C = some c ∧ U.fieldFound? C n d = some (c, k, i, f) ∧ f.isStatic = true ∧ k.statics = some a ∧ H[a]? = some cell ∧ cell.vm.isStatics = true ∧ cell.cls = c ∧ f.slot < cell.slots.size ∧ k.staticTypes[f.slot]? = some f.type ∧ ¬ A a
theorem vx_L.moved {C n d : String} {A : Nat → Prop} {u U : State} {H : Heap} (hvm : u.vm.Alike U.vm) (h : vx_L C n d A u H) : vx_L C n d A U H := by
  obtain ⟨c, k, i, f, a, cell, h1, h2, h3, h4, h5, h6, h7, h8, h9, h10⟩ := h
  obtain ⟨k', hi', he⟩ := State.fieldFound?_setVm hvm h2
  exact ⟨c, k', i, f, a, cell, by rw [hvm.findClass]; exact h1, hi', h3, by rw [he]; exact h4, h5, h6, h7, h8, by rw [he]; exact h9, h10⟩
theorem vx_L.kept {C n d : String} {A : Nat → Prop} {U : State} {H H1 : Heap} (h : vx_L C n d A U H) (hq : ∀ a : Nat, a < H.size → ¬ A a → H1[a]? = H[a]?) : vx_L C n d A U H1 := by
  obtain ⟨c, k, i, f, a, cell, h1, h2, h3, h4, h5, h6, h7, h8, h9, h10⟩ := h
  exact ⟨c, k, i, f, a, cell, h1, h2, h3, h4, by rw [hq a (Array.getElem?_eq_some_iff.mp h5).1 h10]; exact h5, h6, h7, h8, h9, h10⟩
theorem vx_L.narrow {C n d : String} {A B : Nat → Prop} {U : State} {H : Heap} (h : vx_L C n d A U H) (hAB : ∀ q, B q → A q) : vx_L C n d B U H := by
  obtain ⟨c, k, i, f, a, cell, h1, h2, h3, h4, h5, h6, h7, h8, h9, h10⟩ := h
  exact ⟨c, k, i, f, a, cell, h1, h2, h3, h4, h5, h6, h7, h8, h9, fun z => h10 (hAB _ z)⟩
theorem vx_L.word {C n d : String} {A : Nat → Prop} {s : State} {args : Array Value} (h : vx_L C n d A s s.heap) : (Cond.laysStatic C n d).before args s = true := by
  obtain ⟨c, k, i, f, a, cell, h1, h2, h3, h4, h5, h6, h7, h8, h9, -⟩ := h
  show (Cond.laysStatic C n d).holds args s none s [] = true
  exact Cond.laysStatic_of h1 h2 h3 h4 h5 h6 h7 h8 h9
/-- .. and what it holds: null or some reference -/
def vx_Zq (C n d : String) (A : Nat → Prop) (U : State) (H : Heap) : Prop := va_Zq C n d A U H ∧ vx_L C n d A U H
theorem vx_Zq.moved {C n d : String} {A : Nat → Prop} {u U : State} {H : Heap} (hvm : u.vm.Alike U.vm) (h : vx_Zq C n d A u H) : vx_Zq C n d A U H := ⟨va_Zq.moved hvm h.1, vx_L.moved hvm h.2⟩
theorem vx_Zq.kept {C n d : String} {A : Nat → Prop} {U : State} {H H1 : Heap} (h : vx_Zq C n d A U H) (hq : ∀ a : Nat, a < H.size → ¬ A a → H1[a]? = H[a]?) : vx_Zq C n d A U H1 := ⟨va_Zq.kept h.1 hq, vx_L.kept h.2 hq⟩
theorem vx_Zq.narrow {C n d : String} {A B : Nat → Prop} {U : State} {H : Heap} (h : vx_Zq C n d A U H) (hAB : ∀ q, B q → A q) : vx_Zq C n d B U H := ⟨va_Zq.narrow h.1 hAB, vx_L.narrow h.2 hAB⟩
theorem vx_Zqof {args : Array Value} {s : State} {C n d : String} {A : Nat → Prop} (hl : (Cond.laysStatic C n d).before args s = true) (hini : (Cond.initialized C).before args s = true) (h : (Cond.isRef (.static C n d)).before args s = true) (hA : ∀ a : Nat, a < s.heap.size → ¬ A a) : vx_Zq C n d A s s.heap := by
  refine ⟨va_Zqof hl hini h hA, ?_⟩
  obtain ⟨c, k, i, f, a, cell, h1, h2, h3, h4, h5, h6, h7, h8, h9⟩ := Cond.laysStatic_spec hl
  exact ⟨c, k, i, f, a, cell, h1, h2, h3, h4, h5, h6, h7, h8, h9, hA a (Array.getElem?_eq_some_iff.mp h5).1⟩
theorem vx_isRef {C n d : String} {v : Value} {A : Nat → Prop} {s : State} {args : Array Value} (h : va_Z C n d v A s s.heap) (hv : v.isRef = true) : (Cond.isRef (.static C n d)).before args s = true := by
  obtain ⟨cf, kf, fi, f, a, cell, h1, h2, h3, h4, h5, h6, h7, -⟩ := h
  have he : (Term.static C n d).eval args s none [] s = some v := by
    simp [Term.eval, State.fieldNamed?, h1, h2, h4, h5, h6, h7]
  simp only [Cond.before, Cond.holds, Cond.value, he]
  cases v <;> simp_all [Value.isRef]
theorem vx_isRefq {C n d : String} {A : Nat → Prop} {s : State} {args : Array Value} (h : va_Zq C n d A s s.heap) : (Cond.isRef (.static C n d)).before args s = true := by
  rcases h with h | ⟨t, h⟩
  · exact vx_isRef h rfl
  · exact vx_isRef h rfl
/-- the same frame, seen from here: as if the method were called anew in this heap -/
theorem vx_rebase {T : State} (X : Stand p l e R s m args below meth c T locs cells slots) {R' : Room} (hf : R'.frames ≤ R.frames) (hl : R'.locals ≤ R.locals) (hc : cells + R'.cells ≤ R.cells) (hs : slots + R'.slots ≤ R.slots) :
    Stand p l e R' ((T.setVm s.vm).setFrames (.invoking m args :: below)) m args below meth c T [] 0 0 := by
  have htop : (T.setVm s.vm).topJava?.isSome := X.here.top
  have hF : ((T.setVm s.vm).setFrames (.invoking m args :: below)).frames = .invoking m args :: below := State.frames_setFrames _ (State.cur_lt_of_top htop)
  obtain ⟨g₀, hg0⟩ := Option.isSome_iff_exists.mp htop
  obtain ⟨r, hr⟩ := State.topJava?_eq_some.mp hg0
  have hl9 : e.platform.stackLimits (T.setVm s.vm).me = e.platform.stackLimits s.me := X.limits
  have hb9 : (T.setVm s.vm).me.stackBytes = s.me.stackBytes := X.bytes
  refine ⟨X.admits, X.cas, X.clock, hF, ?_, X.hears, X.method, X.code, X.here, X.tail, X.warmed, ?_, ?_, ?_⟩
  · have h := X.room
    have hU : ((T.setVm s.vm).setFrames (.invoking m args :: below)).localsInUse = s.localsInUse := by
      rw [State.localsInUse_invoking hF (meth := meth) (c := c) X.method X.code, State.localsInUse_invoking X.frames X.method X.code]
    simp only [State.hasRoom, Bool.and_eq_true, decide_eq_true_eq] at h ⊢
    obtain ⟨⟨⟨⟨h1, h2, h3, h4, h5, h6⟩, h7⟩, h8⟩, h9⟩ := h
    rw [X.frames, List.length_cons] at h2 h3
    have q1 := X.heapSize
    have q2 := X.used
    simp only [hF, hU, List.length_cons, State.stackLimits_setFrames, State.stackBytes_setFrames, hl9, hb9]
    refine ⟨⟨⟨⟨by omega, by omega, by omega, by omega, by omega, h6⟩, ?_⟩, ?_⟩, X.book⟩
    · show T.heap.size + R'.cells ≤ e.platform.maxCells
      omega
    · show T.slotsUsed + R'.slots ≤ e.platform.maxSlots
      omega
  · rw [State.stackLimits_setFrames]; rfl
  · rw [State.stackBytes_setFrames]; rfl
  · refine ⟨?_, Nat.le_refl _, Nat.le_refl _, ?_, ?_, fun a c9 h9 => ⟨c9, h9, rfl, rfl, fun _ _ => rfl⟩⟩
    · obtain ⟨t, ht, -⟩ := State.frames_cons hr
      show T.setVm s.vm = { ((T.setVm s.vm).setFrames (.invoking m args :: below)).setFrames (T.setVm s.vm).frames with heap := T.heap, slotsUsed := T.slotsUsed }
      rw [State.setFrames_setFrames, State.setFrames_self ht]
      rfl
    · show T.slotsUsed = T.slotsUsed + ((T.heap.toList.drop T.heap.size).map (·.slots.size)).sum
      rw [List.drop_eq_nil_of_le (Nat.le_of_eq Array.length_toList)]
      rfl
    · show ((T.heap.toList.drop T.heap.size).map (·.slots.size)).sum ≤ 0
      rw [List.drop_eq_nil_of_le (Nat.le_of_eq Array.length_toList)]
      exact Nat.le_refl _
/-- 'throw new E()': new; dup; invokespecial; athrow -/
theorem vx_throw0 {cc : ByteArray} {pc : Nat} (hexec : p.tables.exec = Jvm.exec) (hb : c.code = cc) (hl : l.stackTraces = false) {own cls : String} {names : List String} {ik ic mc ms : Nat} {A : Nat → Prop}
    (hown : s.vm.findClass own = some m.cls) (hcls : Bundle.fit cls = true) (hnames : ∀ n ∈ names, Bundle.fit n = true)
    (hk : (Cond.classLink own ik cls).before args s = true) (hini : (Cond.initialized cls).before args s = true) (hat : ∀ w ∈ vx_at0 own ic cls names, w.before args s = true)
    (hgood : ∀ w ∈ Cond.classLink own ik cls :: Cond.initialized cls :: vx_at0 own ic cls names, vx_ot w = true)
    (hU : vx_Zq Bundle.tN "UNASSIGNED_STACK" Bundle.steD A s s.heap) (hN : vx_Zq Bundle.tN "SUPPRESSED_SENTINEL" Bundle.listD A s s.heap) (hS : va_S A s.heap H locs) (hsize : ls.size = c.maxLocals)
    (d0 : decode cc pc = .ok (.new ik, 3)) (d3 : decode cc (pc + 3) = .ok (.dup, 1)) (d4 : decode cc (pc + 4) = .ok (.invokespecial ic, 3)) (d7 : decode cc (pc + 7) = .ok (.athrow, 1))
    (hout : ∀ x ∈ c.exceptionTable.toList, covers x (pc + 7) = false)
    (hRframes : names.length + 3 < R.frames) (hRlocals : (rest.map fun v => v.category).sum + (13 * (names.length + 1) + 42) ≤ R.locals) (hRcells : cells + 1 ≤ R.cells) (hRslots : slots + 6 ≤ R.slots) (hlocks : meth.locks = false)
    (hx : ∀ t : State, s.vm.Alike t.vm → H.size ≤ t.heap.size → (∀ q : Nat, q < H.size → t.heap[q]? = H[q]?) → XC cls s t)
    (hf : ∀ z ∈ locs, free z.base) (hc : cells + 1 ≤ mc) (hs : slots + 6 ≤ ms) :
    W p l e R s m args below meth c H locs cells slots (vx_MQ below Qc XC args s mc ms free) (F0 m pc ls rest) := by
  intro T hT X
  have htr : e.platform.stackTraces = false := (show e.platform.stackTraces = l.stackTraces by rw [X.admits.platform]).trans hl
  have Y := vx_rebase X (R' := { frames := R.frames, locals := R.locals, cells := 1, slots := 6 }) (Nat.le_refl _) (Nat.le_refl _) hRcells hRslots
  obtain ⟨s', hA⟩ : ∃ z, z = (T.setVm s.vm).setFrames (.invoking m args :: below) := ⟨_, rfl⟩
  rw [← hA] at Y
  have hvm : s'.vm = s.vm := by rw [hA]; rfl
  have hhp : s'.heap = H := by rw [hA]; exact hT
  have hW0 : s.WarmedH s'.vm := by rw [hvm]; exact State.WarmedH.refl s
  have hat' : ∀ w ∈ vx_at0 own ic cls names, w.before args s' = true := fun w hw => vx_ot_at hW0 hvm.symm (hgood w (List.mem_cons_of_mem _ (List.mem_cons_of_mem _ hw))) (hat w hw)
  have hk' : (Cond.classLink own ik cls).before args s' = true := vx_ot_at hW0 hvm.symm (hgood _ List.mem_cons_self) hk
  have hini' : (Cond.initialized cls).before args s' = true := vx_ot_at hW0 hvm.symm (hgood _ (List.mem_cons_of_mem _ List.mem_cons_self)) hini
  have hU' : vx_Zq Bundle.tN "UNASSIGNED_STACK" Bundle.steD A s' s'.heap := by rw [hhp]; exact vx_Zq.moved hW0.alike (hU.kept hS.2.1)
  have hN' : vx_Zq Bundle.tN "SUPPRESSED_SENTINEL" Bundle.listD A s' s'.heap := by rw [hhp]; exact vx_Zq.moved hW0.alike (hN.kept hS.2.1)
  have h : ∀ w ∈ Bundle.ownAtoms0 own ic cls names, w.before args s' = true := vx_own hat' (vx_isRefq hU'.1) (vx_isRefq hN'.1) hU'.2.word hN'.2.word
  have hown' : s'.vm.findClass own = some m.cls := by rw [hvm]; exact hown
  have hins : (Cond.instantiable cls 6).before args s' = true := h _ (by simp [Bundle.ownAtoms0])
  obtain ⟨vm₁, cX, kX, hfX, hkX, -, -, X₁, st1⟩ := Y.newCold hexec (own := own) (C := cls) (index := ik) (n := 6) hown' hk' hins hini'
    (g := F0 m pc ls rest) rfl (by rw [hb]; exact d0) (Nat.le_refl _) (Nat.le_refl _)
  generalize hT1 : (T.setVm vm₁).pushCell { cls := cX, slots := kX.instanceTypes.map defaultValue, vm := .none } = T1 at X₁ st1
  have hcat : (Value.ref T.heap.size).category = 1 := rfl
  have hcellA : T1.heap[T.heap.size]? = some (freshCell cX kX) := by rw [← hT1]; exact State.heap_pushCell_size _ _
  have d3' : decode c.code (pc + 3) = .ok (.dup, 1) := by rw [hb]; exact d3
  obtain ⟨U, hsteps, hrun, hend, hW, hsame, ce, hce, hO⟩ := X₁.ctorThrow0 hexec htr (own := own) (cls := cls) (names := names) (ic := ic) hown' hcls hnames h (fun x hx => nomatch hx) hfX hkX hcellA (by rw [hhp, hT]; exact Nat.le_refl _)
    (g := { method := m, pc := pc + 4, locals := ls, stack := .ref T.heap.size :: .ref T.heap.size :: rest, locked := none }) rfl hsize rfl rfl (rest := rest) rfl
    (by rw [hb]; exact d4) (by rw [hb]; exact d7) hout hRframes (by simp only [List.map_cons, List.sum_cons, hcat]; omega) hlocks
  obtain ⟨f1, f2⟩ := vx_frame hsame
  rw [hhp] at f1 f2
  have hWs : s.WarmedH U.vm := State.WarmedH.trans hW0 hW
  have hcl : s.vm.findClass cls = some ce.cls := by
    have h9 := hO.cls
    rw [hvm] at h9
    exact h9
  have hall : s.sameButNew ({ U with vm := s.vm } : State) locs mc ms := by
    subst hA
    obtain ⟨e1, e2⟩ := hsame
    rw [State.setFrames_setFrames] at e1
    have h2 : (T.setVm s.vm).sameButNew ({ U with vm := s.vm } : State) [] (0 + 1) (0 + 6) := ⟨e1, e2⟩
    have h3 := X.same.trans h2
    rw [List.append_nil] at h3
    exact h3.mono hc hs
  refine ⟨U, ?_, .threw T.heap.size, hrun, hend, Or.inr ⟨T.heap.size, rfl, cls, ce, locs, hx U hWs.alike f1 (fun q hq => f2 q hq (fun z hz => nomatch hz)), hce, hO.vm, hcl, hWs, hall, hf⟩⟩
  refine st1 _ ?_
  show Steps p.tables e below (T1.setTop { method := m, pc := pc + 3, locals := ls, stack := .ref T.heap.size :: rest, locked := none }) _
  jvm_step X₁.here [X₁.here.top, hexec, d3', Value.category]
  exact hsteps
/-- 'throw new E("text")': new; dup; ldc; invokespecial; athrow -/
theorem vx_throwS {cc : ByteArray} {pc : Nat} (hexec : p.tables.exec = Jvm.exec) (hb : c.code = cc) (hl : l.stackTraces = false) {own cls text : String} {names : List String} {ik is ic mc ms sa : Nat} {A : Nat → Prop}
    (hown : s.vm.findClass own = some m.cls) (hcls : Bundle.fit cls = true) (hnames : ∀ n ∈ names, Bundle.fit n = true)
    (hk : (Cond.classLink own ik cls).before args s = true) (hini : (Cond.initialized cls).before args s = true) (hstr : vk_R own is text sa s) (hat : ∀ w ∈ vx_atS own ic cls names, w.before args s = true)
    (hgood : ∀ w ∈ Cond.classLink own ik cls :: Cond.initialized cls :: vx_atS own ic cls names, vx_ot w = true)
    (hU : vx_Zq Bundle.tN "UNASSIGNED_STACK" Bundle.steD A s s.heap) (hN : vx_Zq Bundle.tN "SUPPRESSED_SENTINEL" Bundle.listD A s s.heap) (hS : va_S A s.heap H locs) (hsize : ls.size = c.maxLocals)
    (d0 : decode cc pc = .ok (.new ik, 3)) (d3 : decode cc (pc + 3) = .ok (.dup, 1)) (d4 : decode cc (pc + 4) = .ok (.ldc is, 2)) (d6 : decode cc (pc + 6) = .ok (.invokespecial ic, 3)) (d9 : decode cc (pc + 9) = .ok (.athrow, 1))
    (hout : ∀ x ∈ c.exceptionTable.toList, covers x (pc + 9) = false)
    (hRframes : names.length + 3 < R.frames) (hRlocals : (rest.map fun v => v.category).sum + (13 * (names.length + 1) + 43) ≤ R.locals) (hRcells : cells + 1 ≤ R.cells) (hRslots : slots + 6 ≤ R.slots) (hlocks : meth.locks = false)
    (hx : ∀ t : State, s.vm.Alike t.vm → H.size ≤ t.heap.size → (∀ q : Nat, q < H.size → t.heap[q]? = H[q]?) → XC cls s t)
    (hf : ∀ z ∈ locs, free z.base) (hc : cells + 1 ≤ mc) (hs : slots + 6 ≤ ms) :
    W p l e R s m args below meth c H locs cells slots (vx_MQ below Qc XC args s mc ms free) (F0 m pc ls rest) := by
  intro T hT X
  have htr : e.platform.stackTraces = false := (show e.platform.stackTraces = l.stackTraces by rw [X.admits.platform]).trans hl
  have Y := vx_rebase X (R' := { frames := R.frames, locals := R.locals, cells := 1, slots := 6 }) (Nat.le_refl _) (Nat.le_refl _) hRcells hRslots
  obtain ⟨s', hA⟩ : ∃ z, z = (T.setVm s.vm).setFrames (.invoking m args :: below) := ⟨_, rfl⟩
  rw [← hA] at Y
  have hvm : s'.vm = s.vm := by rw [hA]; rfl
  have hhp : s'.heap = H := by rw [hA]; exact hT
  have hW0 : s.WarmedH s'.vm := by rw [hvm]; exact State.WarmedH.refl s
  have hat' : ∀ w ∈ vx_atS own ic cls names, w.before args s' = true := fun w hw => vx_ot_at hW0 hvm.symm (hgood w (List.mem_cons_of_mem _ (List.mem_cons_of_mem _ hw))) (hat w hw)
  have hk' : (Cond.classLink own ik cls).before args s' = true := vx_ot_at hW0 hvm.symm (hgood _ List.mem_cons_self) hk
  have hini' : (Cond.initialized cls).before args s' = true := vx_ot_at hW0 hvm.symm (hgood _ (List.mem_cons_of_mem _ List.mem_cons_self)) hini
  have hU' : vx_Zq Bundle.tN "UNASSIGNED_STACK" Bundle.steD A s' s'.heap := by rw [hhp]; exact vx_Zq.moved hW0.alike (hU.kept hS.2.1)
  have hN' : vx_Zq Bundle.tN "SUPPRESSED_SENTINEL" Bundle.listD A s' s'.heap := by rw [hhp]; exact vx_Zq.moved hW0.alike (hN.kept hS.2.1)
  have h : ∀ w ∈ Bundle.ownAtoms own ic cls names, w.before args s' = true := vx_own hat' (vx_isRefq hU'.1) (vx_isRefq hN'.1) hU'.2.word hN'.2.word
  have hown' : s'.vm.findClass own = some m.cls := by rw [hvm]; exact hown
  have hins : (Cond.instantiable cls 6).before args s' = true := h _ (by simp [Bundle.ownAtoms])
  obtain ⟨vm₁, cX, kX, hfX, hkX, -, -, X₁, st1⟩ := Y.newCold hexec (own := own) (C := cls) (index := ik) (n := 6) hown' hk' hins hini'
    (g := F0 m pc ls rest) rfl (by rw [hb]; exact d0) (Nat.le_refl _) (Nat.le_refl _)
  generalize hT1 : (T.setVm vm₁).pushCell { cls := cX, slots := kX.instanceTypes.map defaultValue, vm := .none } = T1 at X₁ st1
  have hcat : (Value.ref T.heap.size).category = 1 := rfl
  have hcellA : T1.heap[T.heap.size]? = some (freshCell cX kX) := by rw [← hT1]; exact State.heap_pushCell_size _ _
  have d3' : decode c.code (pc + 3) = .ok (.dup, 1) := by rw [hb]; exact d3
  have d4' : decode c.code (pc + 4) = .ok (.ldc is, 2) := by rw [hb]; exact d4
  have hstr' : vk_R own is text sa s' := vk_R.warm hW0 hstr
  obtain ⟨U, hsteps, hrun, hend, hW, hsame, ce, hce, hO⟩ := X₁.ctorThrowS hexec htr (own := own) (cls := cls) (names := names) (ic := ic) hown' hcls hnames h (fun x hx => nomatch hx) hfX hkX hcellA (by rw [hhp, hT]; exact Nat.le_refl _) (msg := .ref sa) rfl
    (g := { method := m, pc := pc + 6, locals := ls, stack := .ref sa :: .ref T.heap.size :: .ref T.heap.size :: rest, locked := none }) rfl hsize rfl rfl (rest := rest) rfl
    (by rw [hb]; exact d6) (by rw [hb]; exact d9) hout hRframes (by simp only [List.map_cons, List.sum_cons, hcat]; omega) hlocks
  obtain ⟨f1, f2⟩ := vx_frame hsame
  rw [hhp] at f1 f2
  have hWs : s.WarmedH U.vm := State.WarmedH.trans hW0 hW
  have hcl : s.vm.findClass cls = some ce.cls := by
    have h9 := hO.cls
    rw [hvm] at h9
    exact h9
  have hall : s.sameButNew ({ U with vm := s.vm } : State) locs mc ms := by
    subst hA
    obtain ⟨e1, e2⟩ := hsame
    rw [State.setFrames_setFrames] at e1
    have h2 : (T.setVm s.vm).sameButNew ({ U with vm := s.vm } : State) [] (0 + 1) (0 + 6) := ⟨e1, e2⟩
    have h3 := X.same.trans h2
    rw [List.append_nil] at h3
    exact h3.mono hc hs
  refine ⟨U, ?_, .threw T.heap.size, hrun, hend, Or.inr ⟨T.heap.size, rfl, cls, ce, locs, hx U hWs.alike f1 (fun q hq => f2 q hq (fun z hz => nomatch hz)), hce, hO.vm, hcl, hWs, hall, hf⟩⟩
  refine st1 _ ?_
  show Steps p.tables e below (T1.setTop { method := m, pc := pc + 3, locals := ls, stack := .ref T.heap.size :: rest, locked := none }) _
  jvm_step X₁.here [X₁.here.top, hexec, d3', Value.category]
  exact X₁.ldcString hexec (own := own) (text := text) (index := is) (a := sa) hown' hstr'.1 hstr'.2
    (g := { method := m, pc := pc + 4, locals := ls, stack := .ref T.heap.size :: .ref T.heap.size :: rest, locked := none }) rfl d4' _ hsteps
/-- 'throw new E("text")', the text by a wide index -/
theorem vx_throwSW {cc : ByteArray} {pc : Nat} (hexec : p.tables.exec = Jvm.exec) (hb : c.code = cc) (hl : l.stackTraces = false) {own cls text : String} {names : List String} {ik is ic mc ms sa : Nat} {A : Nat → Prop}
    (hown : s.vm.findClass own = some m.cls) (hcls : Bundle.fit cls = true) (hnames : ∀ n ∈ names, Bundle.fit n = true)
    (hk : (Cond.classLink own ik cls).before args s = true) (hini : (Cond.initialized cls).before args s = true) (hstr : vk_R own is text sa s) (hat : ∀ w ∈ vx_atS own ic cls names, w.before args s = true)
    (hgood : ∀ w ∈ Cond.classLink own ik cls :: Cond.initialized cls :: vx_atS own ic cls names, vx_ot w = true)
    (hU : vx_Zq Bundle.tN "UNASSIGNED_STACK" Bundle.steD A s s.heap) (hN : vx_Zq Bundle.tN "SUPPRESSED_SENTINEL" Bundle.listD A s s.heap) (hS : va_S A s.heap H locs) (hsize : ls.size = c.maxLocals)
    (d0 : decode cc pc = .ok (.new ik, 3)) (d3 : decode cc (pc + 3) = .ok (.dup, 1)) (d4 : decode cc (pc + 4) = .ok (.ldc_w is, 3)) (d7 : decode cc (pc + 7) = .ok (.invokespecial ic, 3)) (d10 : decode cc (pc + 10) = .ok (.athrow, 1))
    (hout : ∀ x ∈ c.exceptionTable.toList, covers x (pc + 10) = false)
    (hRframes : names.length + 3 < R.frames) (hRlocals : (rest.map fun v => v.category).sum + (13 * (names.length + 1) + 43) ≤ R.locals) (hRcells : cells + 1 ≤ R.cells) (hRslots : slots + 6 ≤ R.slots) (hlocks : meth.locks = false)
    (hx : ∀ t : State, s.vm.Alike t.vm → H.size ≤ t.heap.size → (∀ q : Nat, q < H.size → t.heap[q]? = H[q]?) → XC cls s t)
    (hf : ∀ z ∈ locs, free z.base) (hc : cells + 1 ≤ mc) (hs : slots + 6 ≤ ms) :
    W p l e R s m args below meth c H locs cells slots (vx_MQ below Qc XC args s mc ms free) (F0 m pc ls rest) := by
  intro T hT X
  have htr : e.platform.stackTraces = false := (show e.platform.stackTraces = l.stackTraces by rw [X.admits.platform]).trans hl
  have Y := vx_rebase X (R' := { frames := R.frames, locals := R.locals, cells := 1, slots := 6 }) (Nat.le_refl _) (Nat.le_refl _) hRcells hRslots
  obtain ⟨s', hA⟩ : ∃ z, z = (T.setVm s.vm).setFrames (.invoking m args :: below) := ⟨_, rfl⟩
  rw [← hA] at Y
  have hvm : s'.vm = s.vm := by rw [hA]; rfl
  have hhp : s'.heap = H := by rw [hA]; exact hT
  have hW0 : s.WarmedH s'.vm := by rw [hvm]; exact State.WarmedH.refl s
  have hat' : ∀ w ∈ vx_atS own ic cls names, w.before args s' = true := fun w hw => vx_ot_at hW0 hvm.symm (hgood w (List.mem_cons_of_mem _ (List.mem_cons_of_mem _ hw))) (hat w hw)
  have hk' : (Cond.classLink own ik cls).before args s' = true := vx_ot_at hW0 hvm.symm (hgood _ List.mem_cons_self) hk
  have hini' : (Cond.initialized cls).before args s' = true := vx_ot_at hW0 hvm.symm (hgood _ (List.mem_cons_of_mem _ List.mem_cons_self)) hini
  have hU' : vx_Zq Bundle.tN "UNASSIGNED_STACK" Bundle.steD A s' s'.heap := by rw [hhp]; exact vx_Zq.moved hW0.alike (hU.kept hS.2.1)
  have hN' : vx_Zq Bundle.tN "SUPPRESSED_SENTINEL" Bundle.listD A s' s'.heap := by rw [hhp]; exact vx_Zq.moved hW0.alike (hN.kept hS.2.1)
  have h : ∀ w ∈ Bundle.ownAtoms own ic cls names, w.before args s' = true := vx_own hat' (vx_isRefq hU'.1) (vx_isRefq hN'.1) hU'.2.word hN'.2.word
  have hown' : s'.vm.findClass own = some m.cls := by rw [hvm]; exact hown
  have hins : (Cond.instantiable cls 6).before args s' = true := h _ (by simp [Bundle.ownAtoms])
  obtain ⟨vm₁, cX, kX, hfX, hkX, -, -, X₁, st1⟩ := Y.newCold hexec (own := own) (C := cls) (index := ik) (n := 6) hown' hk' hins hini'
    (g := F0 m pc ls rest) rfl (by rw [hb]; exact d0) (Nat.le_refl _) (Nat.le_refl _)
  generalize hT1 : (T.setVm vm₁).pushCell { cls := cX, slots := kX.instanceTypes.map defaultValue, vm := .none } = T1 at X₁ st1
  have hcat : (Value.ref T.heap.size).category = 1 := rfl
  have hcellA : T1.heap[T.heap.size]? = some (freshCell cX kX) := by rw [← hT1]; exact State.heap_pushCell_size _ _
  have d3' : decode c.code (pc + 3) = .ok (.dup, 1) := by rw [hb]; exact d3
  have d4' : decode c.code (pc + 4) = .ok (.ldc_w is, 3) := by rw [hb]; exact d4
  have hstr' : vk_R own is text sa s' := vk_R.warm hW0 hstr
  obtain ⟨U, hsteps, hrun, hend, hW, hsame, ce, hce, hO⟩ := X₁.ctorThrowS hexec htr (own := own) (cls := cls) (names := names) (ic := ic) hown' hcls hnames h (fun x hx => nomatch hx) hfX hkX hcellA (by rw [hhp, hT]; exact Nat.le_refl _) (msg := .ref sa) rfl
    (g := { method := m, pc := pc + 7, locals := ls, stack := .ref sa :: .ref T.heap.size :: .ref T.heap.size :: rest, locked := none }) rfl hsize rfl rfl (rest := rest) rfl
    (by rw [hb]; exact d7) (by rw [hb]; exact d10) hout hRframes (by simp only [List.map_cons, List.sum_cons, hcat]; omega) hlocks
  obtain ⟨f1, f2⟩ := vx_frame hsame
  rw [hhp] at f1 f2
  have hWs : s.WarmedH U.vm := State.WarmedH.trans hW0 hW
  have hcl : s.vm.findClass cls = some ce.cls := by
    have h9 := hO.cls
    rw [hvm] at h9
    exact h9
  have hall : s.sameButNew ({ U with vm := s.vm } : State) locs mc ms := by
    subst hA
    obtain ⟨e1, e2⟩ := hsame
    rw [State.setFrames_setFrames] at e1
    have h2 : (T.setVm s.vm).sameButNew ({ U with vm := s.vm } : State) [] (0 + 1) (0 + 6) := ⟨e1, e2⟩
    have h3 := X.same.trans h2
    rw [List.append_nil] at h3
    exact h3.mono hc hs
  refine ⟨U, ?_, .threw T.heap.size, hrun, hend, Or.inr ⟨T.heap.size, rfl, cls, ce, locs, hx U hWs.alike f1 (fun q hq => f2 q hq (fun z hz => nomatch hz)), hce, hO.vm, hcl, hWs, hall, hf⟩⟩
  refine st1 _ ?_
  show Steps p.tables e below (T1.setTop { method := m, pc := pc + 3, locals := ls, stack := .ref T.heap.size :: rest, locked := none }) _
  jvm_step X₁.here [X₁.here.top, hexec, d3', Value.category]
  exact X₁.ldcStringW hexec (own := own) (text := text) (index := is) (a := sa) hown' hstr'.1 hstr'.2
    (g := { method := m, pc := pc + 4, locals := ls, stack := .ref T.heap.size :: .ref T.heap.size :: rest, locked := none }) rfl d4' _ hsteps
end Ends
section Bodies
variable {l : Launch}
theorem vx_ofW {y : MethodName} {ws ws' : List Cond} {rm : Room} {Pc : Array Value → State → Prop} {Qc : Array Value → State → Outcome → State → Prop} {XC : String → State → State → Prop} {mc ms : Nat} {free : Addr → Prop} {cc : ByteArray} {maxL : Nat} {ret : Option FieldType}
    (hy : plainName y.cls = true) (hw : ws = Cond.code y cc maxL ret :: ws')
    (body : ∀ p e s m args below meth c s₁, BodyLoose p l y (headSpec ws rm) cc maxL ret e s m args below meth c s₁ → c.maxLocals = maxL → (∀ x ∈ c.exceptionTable.toList, False) → Pc args s →
      W p l e (headSpec ws rm).room s m args below meth c s.heap [] 0 0 (vx_MQ below Qc XC args s mc ms free) (entryFrame m args maxL)) : vx_Met l y ws rm Pc Qc XC mc ms free := by
  refine MetFree.of_bodyS (code := cc) (maxLocals := maxL) (ret := ret) hy ?_ ?_
  · intro args s m h hn
    obtain ⟨meth, c, h1, h2, h3, h4, h5, h6, -, -⟩ := Cond.code_spec hn (atoms_spec (ws := ws) h _ (by rw [hw]; exact List.mem_cons_self))
    exact ⟨meth, c, h1, h2, h3, h4, h5, h6⟩
  · intro p e s m args below meth c s₁ B hml hP _
    have hh0 : s₁.heap = s.heap := by rw [B.state]; rfl
    have ht : ∀ x ∈ c.exceptionTable.toList, False := by
      obtain ⟨meth9, c9, h1, h2, -, -, -, -, h7, -⟩ := Cond.code_spec B.named (atoms_spec (ws := ws) B.pre _ (by rw [hw]; exact List.mem_cons_self))
      cases Option.some.inj (h1.symm.trans B.method)
      cases Option.some.inj (h2.symm.trans (Stand.of_body B).code)
      intro x hx
      rw [Array.isEmpty_iff.mp h7] at hx
      cases hx
    obtain ⟨t, a1, o, b1, b2, b3⟩ := body p e s m args below meth c s₁ B hml ht hP s₁ hh0 (Stand.of_body B)
    exact ⟨t, o, a1, b1, b2, b3⟩
/-- the table of a body with handlers -/
theorem vx_table {p : Program} {x y : MethodName} {S : Spec} {cc bytes : ByteArray} {maxL maxL' : Nat} {ret ret' : Option FieldType} {e : Env} {s s₁ : State} {m : MethodId} {args : Array Value} {below : List Frame} {meth : Method} {c : Code} {hh : List (Nat × Nat × Nat × Nat)}
    (B : BodyLoose p l y S cc maxL ret e s m args below meth c s₁) (h : (Cond.codeWith y bytes maxL' ret' hh).before args s = true) : c.exceptionTable.toList = tableOf hh := by
  obtain ⟨m9, meth9, c9, hn9, h1, h2, -, -, h6, -⟩ := Cond.codeWith_spec h
  cases Option.some.inj (hn9.symm.trans B.named)
  cases Option.some.inj (h1.symm.trans B.method)
  cases Option.some.inj (h2.symm.trans (Stand.of_body B).code)
  rw [← h6, table_eq]
end Bodies
end VXA
/-! ===== END ===== -/
/-! ===== BEGIN a static call of a method with an exception table ===== -/
section VXS
variable {p : Program} {l : Launch} {e : Env} {R : Room} {s : State} {m : MethodId} {args : Array Value} {below : List Frame} {meth : Method} {c : Code} {T : State} {H : Heap} {locs : List Loc} {cells slots : Nat}
abbrev vx_CSW (R : Room) (s : State) (args : Array Value) (own : String) (index : Nat) (y : MethodName) (bytes : ByteArray) (maxL : Nat) (ret : Option FieldType) (hh : List (Nat × Nat × Nat × Nat)) (ws : List Cond) (rm : Room) (mc ms n : Nat) : Prop :=
  (rm.cells = mc ∧ rm.slots = ms ∧ rm.frames + 1 ≤ R.frames ∧ 8 + (maxL + 11) + rm.locals ≤ R.locals ∧ (∀ w ∈ ws, ∀ (a' : Array Value) (U : State), s.WarmedH U.vm → w.before a' U = true) ∧ Cond.codeWith y bytes maxL ret hh ∈ ws) ∧
  (Cond.codeWith y bytes maxL ret hh).before args s = true ∧ (Cond.initialized y.cls).before args s = true ∧ (y.cls ≠ "java/lang/invoke/MethodHandle" ∧ y.cls ≠ "java/lang/invoke/VarHandle") ∧
  (∀ sig, parseMethodDescriptor y.desc = some sig → n = sig.parameters.length) ∧ (Cond.methodLink own index y).before args s = true ∧ (Cond.static y).before args s = true
theorem vx_cwSW {own : String} {index maxL mc ms : Nat} {y : MethodName} {bytes : ByteArray} {ret : Option FieldType} {hh : List (Nat × Nat × Nat × Nat)} {Ts ws ws' : List Cond} {rm : Room} (n : Nat) (ht : ∀ w ∈ Ts, w.before args s = true) (hT : GoodIn Ts (va_wsS own index y ws)) (hw : ws = Cond.codeWith y bytes maxL ret hh :: ws') (hrc : rm.cells = mc) (hrs : rm.slots = ms)
    (hd : y.cls ≠ "java/lang/invoke/MethodHandle" ∧ y.cls ≠ "java/lang/invoke/VarHandle" ∧ (parseMethodDescriptor y.desc).map (fun d => d.parameters.length) = some n) (hR : rm.frames + 1 ≤ R.frames ∧ 8 + (maxL + 11) + rm.locals ≤ R.locals) :
    vx_CSW R s args own index y bytes maxL ret hh ws rm mc ms n := by
  have ok : ∀ w ∈ va_wsS own index y ws, w.before args s = true := fun w h => ht w (hT w h).1
  have hG : GoodIn Ts ws := fun w h => hT w (by unfold va_wsS; exact List.mem_append_right _ h)
  have hc : Cond.codeWith y bytes maxL ret hh ∈ ws := by rw [hw]; exact List.mem_cons_self
  refine ⟨⟨hrc, hrs, hR.1, hR.2, pay_in ht hG, hc⟩, ht _ (hG _ hc).1, ok _ (by simp [va_wsS]), ⟨hd.1, hd.2.1⟩, fun sig h => ?_, ok _ (by simp [va_wsS]), ok _ (by simp [va_wsS])⟩
  have h2 := hd.2.2
  rw [h] at h2
  exact (Option.some.inj h2).symm
theorem vx_callSW (X : Stand p l e R s m args below meth c T locs cells slots) (hexec : p.tables.exec = Jvm.exec) {own : String} {index : Nat} {y : MethodName} {bytes : ByteArray} {maxL : Nat} {ret : Option FieldType} {hh : List (Nat × Nat × Nat × Nat)}
    (hown : s.vm.findClass own = some m.cls) (hlink : (Cond.methodLink own index y).before args s = true) (hstat : (Cond.static y).before args s = true) (hinit : (Cond.initialized y.cls).before args s = true)
    (hcode : (Cond.codeWith y bytes maxL ret hh).before args s = true) (hy : y.cls ≠ "java/lang/invoke/MethodHandle" ∧ y.cls ≠ "java/lang/invoke/VarHandle")
    {W9 : Nat} {Pre : Pt → Array Value → Prop} {Post : Pt → Array Value → Option Value → Pt → Prop} (hK : Back l R p e below s args y 3 W9 Pre Post)
    {g : JFrame} (hg : g.method = m) (hsize : g.locals.size = c.maxLocals) {argsL rest : List Value} (hlen : ∀ sig, parseMethodDescriptor y.desc = some sig → argsL.length = sig.parameters.length)
    (hstack : g.stack = argsL.reverse ++ rest) (hW : 2 * g.monitorRoom + (rest.map fun v => v.category).sum ≤ W9) (hdg : decode c.code g.pc = .ok (.invokestatic index, 3))
    (hpre : ∀ vm₁, s.WarmedH vm₁ → Pre ⟨T.setVm vm₁, locs, cells, slots⟩ argsL.toArray) :
    ∃ (v : Option Value) (vm₁ : Vm) (B : Pt), s.WarmedH vm₁ ∧ Stand p l e R s m args below meth c B.U B.locs B.cells B.slots ∧ Post ⟨T.setVm vm₁, locs, cells, slots⟩ argsL.toArray v B ∧
      ∀ target, Steps p.tables e below (B.U.setTop { g with pc := g.pc + 3, stack := v.toList ++ rest }) target → Steps p.tables e below (T.setTop g) target := by
  obtain ⟨mk, methM, cM, hnamed, hmethM, -, -, -, -, -, -, hsigM⟩ := Cond.codeWith_spec hcode
  have hstatic : methM.isStatic = true := Cond.static_spec hnamed hmethM hstat
  obtain ⟨kP, hkP, -⟩ := className_of_methodNamed hnamed
  have hinitP : kP.init = .initialized := Cond.initialized_spec (findClass_of_methodNamed hnamed) hkP hinit
  obtain ⟨vm₁, X₁, hstep₁⟩ := X.invokestatic hexec hown hlink hnamed hmethM hstatic hkP hinitP hy (g := g) hg (argsL := argsL) (rest := rest) (hlen _ hsigM) hstack hdg
  obtain ⟨v, B, X', hpost, hsteps⟩ := hK m meth c ⟨T.setVm vm₁, locs, cells, slots⟩ { g with stack := rest } (.invokestatic index) mk argsL.toArray X₁ hg hsize hdg hW (X₁.named hnamed) (hpre vm₁ X₁.warmed)
  exact ⟨v, vm₁, B, X₁.warmed, X', hpost, fun target h => hstep₁ _ fun acts => by rw [doInvoke_state]; exact hsteps.trans h⟩
theorem vx_runSW {y : MethodName} {bytes cc : ByteArray} {maxL nL mc ms n index : Nat} {ret : Option FieldType} {hh : List (Nat × Nat × Nat × Nat)} {ws : List Cond} {rm : Room} {Pc : Array Value → State → Prop} {Qc : Array Value → State → Outcome → State → Prop} {free : Addr → Prop} {Ts : List Cond} {own : String} {As rest : List Value} {g : JFrame}
    (S : CallFix p m c cc nL s args Ts own) (hM : Met l y ws rm Pc Qc mc ms free) (cw : vx_CSW R s args own index y bytes maxL ret hh ws rm mc ms n) (hp : PreS s H Pc As)
    (hg : g.method = m) (hn : As.length = n) (hsize : g.locals.size = nL) (hstack : g.stack = As.reverse ++ rest) (hW : 2 * g.monitorRoom + (rest.map fun v => v.category).sum ≤ 8) (hdg : decode cc g.pc = .ok (.invokestatic index, 3)) (hf : cells + mc ≤ R.cells ∧ slots + ms ≤ R.slots) :
    va_Run p l e R s m args below meth c H locs cells slots mc ms g rest (Qc As.toArray) (free) := by
  obtain ⟨⟨hrc, hrs, hfr, hlo, hws, hcw⟩, hcode, hini, hy, hlen, hl, hstt⟩ := cw
  have hK : Back l R p e below s args y 3 8 (PreOf R mc ms Pc) (PostOf Qc mc ms free) := va_backW (hh := hh) (bytes := bytes) (maxL := maxL) (ret := ret) hM hp.1 hrc hrs hfr hlo hws hcw (fun a' U hW => word_at hW (Or.inl (by first | rfl | simp [Cond.onTables, Cond.keeps, Cond.steady])) hini)
  obtain ⟨hx, hb, hml, ho, -⟩ := S
  intro T hT X
  obtain ⟨v, vm₁, ⟨U', l2, c2, s2⟩, hW₁, X', ⟨g', mk, t, L, e1, e2, hq, h1, hL, h2, h3⟩, st⟩ := vx_callSW X hx (hh := hh) (bytes := bytes) (maxL := maxL) (ret := ret) ho hl hstt hini hcode hy hK hg (hsize.trans hml.symm) (argsL := As) (rest := rest) (fun sig h => hn.trans (hlen sig h)) hstack hW (by rw [hb]; exact hdg)
    (fun vm₁ hW₁ => ⟨hf.1, hf.2, hp.2 (T.setVm vm₁) hT hW₁⟩)
  dsimp only [Pt.U, Pt.locs, Pt.cells, Pt.slots] at X' e1 e2 h1 h2 h3 st
  subst h1; subst h2; subst h3
  exact ⟨v, (T.setVm vm₁).calling g' mk As.toArray, t, U', L, hT, X', hL, e1, e2, hq, st⟩
/-- not caught here, past rows that name other classes: it goes on to the caller -/
theorem vx_outP {p : Program} {l : Launch} {e : Env} {R : Room} {s : State} {m : MethodId} {args : Array Value} {below : List Frame} {meth : Method} {c : Code} {H : Heap} {locs : List Loc} {cells slots : Nat} {free : Addr → Prop} {ls : Array Slot} {rest : List Value} {Qc : Array Value → State → Outcome → State → Prop} {XC : String → State → State → Prop}
    {pc : Nat} {own E : String} {ce : Cell} {q : Addr} {mc ms : Nat} (hown : s.vm.findClass own = some m.cls) (hlocks : meth.locks = false)
    (hpass : ∀ z ∈ c.exceptionTable.toList, covers z pc = false ∨ (z.catchType ≠ 0 ∧ ∃ nm : String, (Cond.classLink own z.catchType nm).before args s = true ∧ va_Nc E nm s)) (hcell : H[q]? = some ce) (hv : ce.vm = .none) (hcl : s.vm.findClass E = some ce.cls)
    (hx : ∀ t : State, t.heap = H → s.vm.Alike t.vm → XC E s t) (hf : ∀ z ∈ locs, free z.base) (hc : cells ≤ mc) (hs : slots ≤ ms) :
    vx_W p l e R s m args below meth c H locs cells slots (vx_MQ below Qc XC args s mc ms free) (F0 m pc ls rest) q := by
  intro T hT X
  have hpl : e.platform.magicAccessors = ({} : Platform).magicAccessors := by rw [X.admits.platform]
  obtain ⟨vm', hW', X', st⟩ := X.outThrough hlocks q (g := F0 m pc ls rest) rfl rfl rfl (cell := ce) (by rw [hT]; exact hcell) (by rw [hv]; rfl)
    (by obtain ⟨k9, h9, -⟩ := Vm.findClass_spec hcl; exact ⟨k9, h9⟩) (fun z hz => by
      rcases hpass z hz with h | ⟨hz0, nm, hl1, hn1⟩
      · exact Or.inl h
      · obtain ⟨c6, hc6, hcl6⟩ := Cond.classLink_spec hown hl1 e.platform hpl
        obtain ⟨a8, b8, h1, h2, h3⟩ := hn1
        cases Option.some.inj (h1.symm.trans hcl)
        cases Option.some.inj (h2.symm.trans hc6)
        exact Or.inr ⟨hz0, _, hcl6, h3⟩)
  obtain ⟨g₀, hfr⟩ := X'.frames_eq
  have hcell9 : ((T.setVm vm').setFrames (.throwing q :: below)).heap[q]? = some ce := by
    show T.heap[q]? = some ce
    rw [hT]; exact hcell
  have hend : Ended ((T.setVm vm').setFrames (.throwing q :: below)) below (.threw q) := State.frames_setFrames _ (State.cur_lt_of_frames hfr)
  refine ⟨(T.setVm vm').setFrames (.throwing q :: below), ?_, .threw q, X'.here.running, hend, Or.inr ⟨q, rfl, E, ce, locs, hx _ hT (X'.ends _).1.alike, hcell9, hv, hcl, (X'.ends _).1, (X'.ends _).2.mono hc hs, hf⟩⟩
  rw [X.pushThrowing_eq]
  exact st
/-- a thing of a world lies in the heap -/
theorem vx_lt {D : va_G} {cl : List vw_C} {ws : va_W} {H1 : Heap} (h : va_P D cl ws H1) {k : Nat} {q : Nat × va_E} (hk : ws[k]? = some q) : q.1 < H1.size := (h k q hk).lt
end VXS
/-! ===== END ===== -/
/-! ===== BEGIN methods with a table of their own: called by a name, returning or throwing ===== -/
section VXH
/-! vx_backW, vx_callVX, vx_callSX, vx_callVW, vx_runVW, vx_runVX, vx_runSX, vx_ofWH follow the same proofs as their sisters above (Free/Laws.lean, Shelf42/LK1.lean); vx_outP calls Shelf42/NT130.lean (outThrough). -/
section
variable {l : Launch} {R : Room} {p : Program} {e : Env} {below : List Frame} {s : State} {sargs : Array Value} {y : MethodName} {len W9 : Nat}
theorem vx_backW {ws : List Cond} {rm : Room} {Pc : Array Value → State → Prop} {Qc : Array Value → State → Outcome → State → Prop} {XC : String → State → State → Prop} {mc ms : Nat} {free : Addr → Prop} {bytes : ByteArray} {maxL : Nat} {ret : Option FieldType} {hh : List (Nat × Nat × Nat × Nat)}
    (hM : vx_Met l y ws rm Pc Qc XC mc ms free) (hblind : FrameBlind Pc) (hrc : rm.cells = mc) (hrs : rm.slots = ms)
    (hframes : rm.frames + 1 ≤ R.frames) (hlocals : W9 + (maxL + 11) + rm.locals ≤ R.locals)
    (hws : ∀ w ∈ ws, ∀ a' U, s.WarmedH U.vm → w.before a' U = true) (hcode : Cond.codeWith y bytes maxL ret hh ∈ ws) (hinit : ∀ a' U, s.WarmedH U.vm → (Cond.initialized y.cls).before a' U = true) :
    vx_Back l R p e below s sargs y len W9 (PreOf R mc ms Pc) (PostOf Qc mc ms free) (vx_Post XC mc ms free) := by
  intro m meth c A g ig mk a X hg hsize hdg hW hn hp
  have h1 : (headSpec ws rm).pre.before a A.U = true := atoms_intro fun w hw => hws w hw _ _ X.warmed
  have h2 : (Cond.codeWith y bytes maxL ret hh).before a A.U = true := hws _ hcode _ _ X.warmed
  have h3 : (Cond.initialized y.cls).before a A.U = true := hinit _ _ X.warmed
  have h4 : A.cells + (headSpec ws rm).room.cells ≤ R.cells := by rw [show (headSpec ws rm).room.cells = mc from hrc]; exact hp.1
  have h5 : A.slots + (headSpec ws rm).room.slots ≤ R.slots := by rw [show (headSpec ws rm).room.slots = ms from hrs]; exact hp.2.1
  have hPc : Pc a (A.U.calling g mk a) := hblind _ _ _ _ hp.2.2
  obtain ⟨U, Ls, c0, s0⟩ := A
  dsimp only [Pt.U, Pt.locs, Pt.cells, Pt.slots] at h1 h2 h3 h4 h5 X hn hPc ⊢
  obtain ⟨m9, methY, cY, hn9, hmY, hcY, -, hlY, -⟩ := Cond.codeWith_spec h2
  cases Option.some.inj (hn9.symm.trans hn)
  obtain ⟨kY, hkY, -⟩ := className_of_methodNamed hn
  have hinitY : kY.init = .initialized := Cond.initialized_spec (findClass_of_methodNamed hn) hkY h3
  have h : At U g.method c below := by rw [hg]; exact X.here
  have hlocals9 : W9 + (maxL + 11) + (headSpec ws rm).room.locals ≤ R.locals := hlocals
  have happ : (headSpec ws rm).appliesLoose y e.platform (U.calling g mk a) = true :=
    Spec.appliesLoose_calling (g := g) h hdg hn hkY hinitY
      (X.room_calling (g := g) (R' := (headSpec ws rm).room) hsize hmY hcY hframes (by rw [hlY]; omega) h4 h5) h1
  obtain ⟨mid, hmid⟩ := h.above
  have hfr : (U.setTop g).frames = (.java g :: mid) ++ below := by rw [State.frames_setTop' g h.top, hmid]; rfl
  obtain ⟨o, s₂, hsteps, -, hend, hq⟩ := Steps.callFree hM p X.admits X.cas X.clock (acts := []) hfr happ hPc trivial
  have hq' : vx_Q Qc XC mc ms free a (U.calling g mk a) o s₂ := hq
  rw [State.frames_setTop' g h.top] at hend
  obtain ⟨g₀, hg0⟩ := Option.isSome_iff_exists.mp h.top
  obtain ⟨r, hr⟩ := State.topJava?_eq_some.mp hg0
  have hr' : (({ U with heap := s₂.heap, slotsUsed := s₂.slotsUsed } : State).setVm s₂.vm).frames = .java g₀ :: r := hr
  rcases hq' with ⟨hqc, L, hfe, hL⟩ | ⟨q, rfl, E, ce, L, hx, hce, hcv, hcl, hW₂, hsm, hL⟩
  · obtain ⟨⟨v, rfl⟩, hW₂, e2, q2, q3, q4, q5, q6⟩ := id hfe
    have e3 : s₂ = ({ (U.calling g mk a).setFrames s₂.frames with heap := s₂.heap, slotsUsed := s₂.slotsUsed } : State).setVm s₂.vm := by
      have : s₂ = ({ s₂ with vm := (U.calling g mk a).vm } : State).setVm s₂.vm := rfl
      rw [e2] at this
      exact this
    obtain ⟨c₂, i₂, len₂, hc₂, hd₂, hf₂⟩ := hend
    have hW' : U.WarmedH s₂.vm := hW₂
    have hcc : c₂ = c := by
      have h1 : s₂.code? g.method = U.code? g.method := by
        rw [State.code?_eq, State.code?_eq, hW'.alike.method?]
      exact Option.some.inj (hc₂.symm.trans (h1.trans h.code))
    subst hcc
    have hlen : len₂ = len := by rw [hdg] at hd₂; cases hd₂; rfl
    subst hlen
    have hs₂ : s₂ = (({ U with heap := s₂.heap, slotsUsed := s₂.slotsUsed } : State).setVm s₂.vm).setTop { g with pc := g.pc + len₂, stack := v.toList ++ g.stack } := by
      refine e3.trans ?_
      rw [hf₂, State.calling_eq h.top, State.setFrames_setFrames, State.setTop_of_frames _ hr', hr]
      rfl
    have hsame : U.sameButNew ({ U with heap := s₂.heap, slotsUsed := s₂.slotsUsed } : State) L mc ms := by
      refine ⟨?_, q2, q3, q4, q5, q6⟩
      obtain ⟨t, ht, -⟩ := State.frames_cons hr
      show ({ U with heap := s₂.heap, slotsUsed := s₂.slotsUsed } : State) = { U.setFrames U.frames with heap := s₂.heap, slotsUsed := s₂.slotsUsed }
      rw [State.setFrames_self ht]
    subst hg
    refine Or.inl ⟨v, ⟨(({ U with heap := s₂.heap, slotsUsed := s₂.slotsUsed } : State).setVm s₂.vm), Ls ++ L, c0 + mc, s0 + ms⟩,
      ⟨X.admits, X.cas, X.clock, X.frames, X.room, X.hears, X.method, X.code, (X.here.setHeapUsed s₂.heap s₂.slotsUsed).setVm hW'.alike, X.tail, State.WarmedH.trans X.warmed hW', X.limits, X.bytes, X.same.trans (hsame.setVm s.vm)⟩,
      ⟨g, mk, s₂, L, rfl, rfl, hqc, rfl, hL, rfl, rfl⟩, ?_⟩
    show Steps p.tables e below _ ((({ U with heap := s₂.heap, slotsUsed := s₂.slotsUsed } : State).setVm s₂.vm).setTop { g with pc := g.pc + len₂, stack := v.toList ++ g.stack })
    rw [← hs₂]
    exact hsteps
  · obtain ⟨e2, q2, q3, q4, q5, q6⟩ := id hsm
    have e3 : s₂ = ({ (U.calling g mk a).setFrames s₂.frames with heap := s₂.heap, slotsUsed := s₂.slotsUsed } : State).setVm s₂.vm := by
      have : s₂ = ({ s₂ with vm := (U.calling g mk a).vm } : State).setVm s₂.vm := rfl
      rw [e2] at this
      exact this
    have hf₂ : s₂.frames = .throwing q :: .java g :: U.frames.tail := hend
    have hW' : U.WarmedH s₂.vm := hW₂
    have hs₂ : s₂ = ((({ U with heap := s₂.heap, slotsUsed := s₂.slotsUsed } : State).setVm s₂.vm).setTop g).pushFrame (.throwing q) := by
      refine e3.trans ?_
      rw [hf₂, State.calling_eq h.top, State.setFrames_setFrames, State.pushFrame, State.frames_setTop _ hr', State.setTop_of_frames _ hr', State.setFrames_setFrames, hr]
      rfl
    have hsame : U.sameButNew ({ U with heap := s₂.heap, slotsUsed := s₂.slotsUsed } : State) L mc ms := by
      refine ⟨?_, q2, q3, q4, q5, q6⟩
      obtain ⟨t, ht, -⟩ := State.frames_cons hr
      show ({ U with heap := s₂.heap, slotsUsed := s₂.slotsUsed } : State) = { U.setFrames U.frames with heap := s₂.heap, slotsUsed := s₂.slotsUsed }
      rw [State.setFrames_self ht]
    subst hg
    refine Or.inr ⟨q, ⟨(({ U with heap := s₂.heap, slotsUsed := s₂.slotsUsed } : State).setVm s₂.vm), Ls ++ L, c0 + mc, s0 + ms⟩,
      ⟨X.admits, X.cas, X.clock, X.frames, X.room, X.hears, X.method, X.code, (X.here.setHeapUsed s₂.heap s₂.slotsUsed).setVm hW'.alike, X.tail, State.WarmedH.trans X.warmed hW', X.limits, X.bytes, X.same.trans (hsame.setVm s.vm)⟩,
      ⟨g, mk, s₂, L, E, ce, rfl, rfl, hx, hce, hcv, hcl, rfl, hL, rfl, rfl⟩, ?_⟩
    show Steps p.tables e below _ (((({ U with heap := s₂.heap, slotsUsed := s₂.slotsUsed } : State).setVm s₂.vm).setTop g).pushFrame (.throwing q))
    rw [← hs₂]
    exact hsteps
end
variable {p : Program} {l : Launch} {e : Env} {R : Room} {s : State} {m : MethodId} {args : Array Value} {below : List Frame} {meth : Method} {c : Code} {T : State} {H : Heap} {locs : List Loc} {cells slots : Nat}
theorem vx_callVX (X : Stand p l e R s m args below meth c T locs cells slots) (hexec : p.tables.exec = Jvm.exec) {own C : String} {index : Nat} {y : MethodName} {bytes : ByteArray} {maxL : Nat} {ret : Option FieldType} {hh : List (Nat × Nat × Nat × Nat)}
    (hown : s.vm.findClass own = some m.cls) (hlink : (Cond.methodLink own index y).before args s = true) (hinst : (Cond.instanceMethod y).before args s = true) (hsel : (Cond.selects C y y).before args s = true)
    (hcode : (Cond.codeWith y bytes maxL ret hh).before args s = true) (hy : y.cls ≠ "java/lang/invoke/MethodHandle" ∧ y.cls ≠ "java/lang/invoke/VarHandle")
    {W9 : Nat} {Pre : Pt → Array Value → Prop} {Post : Pt → Array Value → Option Value → Pt → Prop} {PostX : Pt → Array Value → Addr → Pt → Prop} (hK : vx_Back l R p e below s args y 3 W9 Pre Post PostX)
    {b : Addr} {cellB : Cell} (hcell : T.heap[b]? = some cellB) (hobj : cellB.vm.isStatics = false) (hcls : s.vm.findClass C = some cellB.cls)
    {g : JFrame} (hg : g.method = m) (hsize : g.locals.size = c.maxLocals) {argsL rest : List Value} (hlen : ∀ sig, parseMethodDescriptor y.desc = some sig → argsL.length = sig.parameters.length)
    (hstack : g.stack = argsL.reverse ++ .ref b :: rest) (hW : 2 * g.monitorRoom + (rest.map fun v => v.category).sum ≤ W9) (hdg : decode c.code g.pc = .ok (.invokevirtual index, 3))
    (hpre : ∀ vm₁, s.WarmedH vm₁ → Pre ⟨T.setVm vm₁, locs, cells, slots⟩ (Value.ref b :: argsL).toArray) :
    (∃ (v : Option Value) (vm₁ : Vm) (B : Pt), s.WarmedH vm₁ ∧ Stand p l e R s m args below meth c B.U B.locs B.cells B.slots ∧ Post ⟨T.setVm vm₁, locs, cells, slots⟩ (Value.ref b :: argsL).toArray v B ∧
      ∀ target, Steps p.tables e below (B.U.setTop { g with pc := g.pc + 3, stack := v.toList ++ rest }) target → Steps p.tables e below (T.setTop g) target) ∨
    (∃ (q : Addr) (vm₁ : Vm) (B : Pt), s.WarmedH vm₁ ∧ Stand p l e R s m args below meth c B.U B.locs B.cells B.slots ∧ PostX ⟨T.setVm vm₁, locs, cells, slots⟩ (Value.ref b :: argsL).toArray q B ∧
      Steps p.tables e below (T.setTop g) ((B.U.setTop { g with stack := rest }).pushFrame (.throwing q))) := by
  obtain ⟨mk, methM, hnamed, hmethM, hstM, habM⟩ := Cond.instanceMethod_spec hinst
  obtain ⟨m8, methM', cM, hn8, hmethM', -, -, -, -, -, -, hsigM⟩ := Cond.codeWith_spec hcode
  cases Option.some.inj (hn8.symm.trans hnamed)
  cases hmethM.symm.trans hmethM'
  obtain ⟨c2, r2, m2, q1, q2, q3, q4, kP, hkP, hkPi⟩ := Cond.selects_spec hsel
  cases hcls.symm.trans q1
  cases (State.methodFound?_of_named hnamed hy).symm.trans q2
  cases hnamed.symm.trans q3
  have hselP : selectMethod e.platform s.vm cellB.cls mk = .method mk := by rw [Launch.admits_selectMethod X.admits]; exact q4
  obtain ⟨vm₁, X₁, hstep₁⟩ := X.invokevirtual hexec hown hlink hnamed hmethM hstM hkP hkPi hy (a := b) (cell := cellB) hcell
    (fun z h => by rw [h] at hobj; cases hobj) hselP hmethM habM hkP hkPi (g := g) hg (argsL := argsL) (rest := rest) (hlen _ hsigM) hstack hdg
  rcases hK m meth c ⟨T.setVm vm₁, locs, cells, slots⟩ { g with stack := rest } (.invokevirtual index) mk (Value.ref b :: argsL).toArray X₁ hg hsize hdg hW (X₁.named hnamed) (hpre vm₁ X₁.warmed) with ⟨v, B, X', hpost, hsteps⟩ | ⟨q, B, X', hpost, hsteps⟩
  · exact Or.inl ⟨v, vm₁, B, X₁.warmed, X', hpost, fun target h => hstep₁ _ fun acts => by rw [doInvoke_state]; exact hsteps.trans h⟩
  · exact Or.inr ⟨q, vm₁, B, X₁.warmed, X', hpost, hstep₁ _ fun acts => by rw [doInvoke_state]; exact hsteps⟩
theorem vx_callSX (X : Stand p l e R s m args below meth c T locs cells slots) (hexec : p.tables.exec = Jvm.exec) {own : String} {index : Nat} {y : MethodName} {bytes : ByteArray} {maxL : Nat} {ret : Option FieldType} {hh : List (Nat × Nat × Nat × Nat)}
    (hown : s.vm.findClass own = some m.cls) (hlink : (Cond.methodLink own index y).before args s = true) (hstat : (Cond.static y).before args s = true) (hinit : (Cond.initialized y.cls).before args s = true)
    (hcode : (Cond.codeWith y bytes maxL ret hh).before args s = true) (hy : y.cls ≠ "java/lang/invoke/MethodHandle" ∧ y.cls ≠ "java/lang/invoke/VarHandle")
    {W9 : Nat} {Pre : Pt → Array Value → Prop} {Post : Pt → Array Value → Option Value → Pt → Prop} {PostX : Pt → Array Value → Addr → Pt → Prop} (hK : vx_Back l R p e below s args y 3 W9 Pre Post PostX)
    {g : JFrame} (hg : g.method = m) (hsize : g.locals.size = c.maxLocals) {argsL rest : List Value} (hlen : ∀ sig, parseMethodDescriptor y.desc = some sig → argsL.length = sig.parameters.length)
    (hstack : g.stack = argsL.reverse ++ rest) (hW : 2 * g.monitorRoom + (rest.map fun v => v.category).sum ≤ W9) (hdg : decode c.code g.pc = .ok (.invokestatic index, 3))
    (hpre : ∀ vm₁, s.WarmedH vm₁ → Pre ⟨T.setVm vm₁, locs, cells, slots⟩ argsL.toArray) :
    (∃ (v : Option Value) (vm₁ : Vm) (B : Pt), s.WarmedH vm₁ ∧ Stand p l e R s m args below meth c B.U B.locs B.cells B.slots ∧ Post ⟨T.setVm vm₁, locs, cells, slots⟩ argsL.toArray v B ∧
      ∀ target, Steps p.tables e below (B.U.setTop { g with pc := g.pc + 3, stack := v.toList ++ rest }) target → Steps p.tables e below (T.setTop g) target) ∨
    (∃ (q : Addr) (vm₁ : Vm) (B : Pt), s.WarmedH vm₁ ∧ Stand p l e R s m args below meth c B.U B.locs B.cells B.slots ∧ PostX ⟨T.setVm vm₁, locs, cells, slots⟩ argsL.toArray q B ∧
      Steps p.tables e below (T.setTop g) ((B.U.setTop { g with stack := rest }).pushFrame (.throwing q))) := by
  obtain ⟨mk, methM, cM, hnamed, hmethM, -, -, -, -, -, -, hsigM⟩ := Cond.codeWith_spec hcode
  have hstatic : methM.isStatic = true := Cond.static_spec hnamed hmethM hstat
  obtain ⟨kP, hkP, -⟩ := className_of_methodNamed hnamed
  have hinitP : kP.init = .initialized := Cond.initialized_spec (findClass_of_methodNamed hnamed) hkP hinit
  obtain ⟨vm₁, X₁, hstep₁⟩ := X.invokestatic hexec hown hlink hnamed hmethM hstatic hkP hinitP hy (g := g) hg (argsL := argsL) (rest := rest) (hlen _ hsigM) hstack hdg
  rcases hK m meth c ⟨T.setVm vm₁, locs, cells, slots⟩ { g with stack := rest } (.invokestatic index) mk argsL.toArray X₁ hg hsize hdg hW (X₁.named hnamed) (hpre vm₁ X₁.warmed) with ⟨v, B, X', hpost, hsteps⟩ | ⟨q, B, X', hpost, hsteps⟩
  · exact Or.inl ⟨v, vm₁, B, X₁.warmed, X', hpost, fun target h => hstep₁ _ fun acts => by rw [doInvoke_state]; exact hsteps.trans h⟩
  · exact Or.inr ⟨q, vm₁, B, X₁.warmed, X', hpost, hstep₁ _ fun acts => by rw [doInvoke_state]; exact hsteps⟩
theorem vx_callVW (X : Stand p l e R s m args below meth c T locs cells slots) (hexec : p.tables.exec = Jvm.exec) {own C : String} {index : Nat} {y : MethodName} {bytes : ByteArray} {maxL : Nat} {ret : Option FieldType} {hh : List (Nat × Nat × Nat × Nat)}
    (hown : s.vm.findClass own = some m.cls) (hlink : (Cond.methodLink own index y).before args s = true) (hinst : (Cond.instanceMethod y).before args s = true) (hsel : (Cond.selects C y y).before args s = true)
    (hcode : (Cond.codeWith y bytes maxL ret hh).before args s = true) (hy : y.cls ≠ "java/lang/invoke/MethodHandle" ∧ y.cls ≠ "java/lang/invoke/VarHandle")
    {W9 : Nat} {Pre : Pt → Array Value → Prop} {Post : Pt → Array Value → Option Value → Pt → Prop} (hK : Back l R p e below s args y 3 W9 Pre Post)
    {b : Addr} {cellB : Cell} (hcell : T.heap[b]? = some cellB) (hobj : cellB.vm.isStatics = false) (hcls : s.vm.findClass C = some cellB.cls)
    {g : JFrame} (hg : g.method = m) (hsize : g.locals.size = c.maxLocals) {argsL rest : List Value} (hlen : ∀ sig, parseMethodDescriptor y.desc = some sig → argsL.length = sig.parameters.length)
    (hstack : g.stack = argsL.reverse ++ .ref b :: rest) (hW : 2 * g.monitorRoom + (rest.map fun v => v.category).sum ≤ W9) (hdg : decode c.code g.pc = .ok (.invokevirtual index, 3))
    (hpre : ∀ vm₁, s.WarmedH vm₁ → Pre ⟨T.setVm vm₁, locs, cells, slots⟩ (Value.ref b :: argsL).toArray) :
    ∃ (v : Option Value) (vm₁ : Vm) (B : Pt), s.WarmedH vm₁ ∧ Stand p l e R s m args below meth c B.U B.locs B.cells B.slots ∧ Post ⟨T.setVm vm₁, locs, cells, slots⟩ (Value.ref b :: argsL).toArray v B ∧
      ∀ target, Steps p.tables e below (B.U.setTop { g with pc := g.pc + 3, stack := v.toList ++ rest }) target → Steps p.tables e below (T.setTop g) target := by
  obtain ⟨mk, methM, hnamed, hmethM, hstM, habM⟩ := Cond.instanceMethod_spec hinst
  obtain ⟨m8, methM', cM, hn8, hmethM', -, -, -, -, -, -, hsigM⟩ := Cond.codeWith_spec hcode
  cases Option.some.inj (hn8.symm.trans hnamed)
  cases hmethM.symm.trans hmethM'
  obtain ⟨c2, r2, m2, q1, q2, q3, q4, kP, hkP, hkPi⟩ := Cond.selects_spec hsel
  cases hcls.symm.trans q1
  cases (State.methodFound?_of_named hnamed hy).symm.trans q2
  cases hnamed.symm.trans q3
  have hselP : selectMethod e.platform s.vm cellB.cls mk = .method mk := by rw [Launch.admits_selectMethod X.admits]; exact q4
  obtain ⟨vm₁, X₁, hstep₁⟩ := X.invokevirtual hexec hown hlink hnamed hmethM hstM hkP hkPi hy (a := b) (cell := cellB) hcell
    (fun z h => by rw [h] at hobj; cases hobj) hselP hmethM habM hkP hkPi (g := g) hg (argsL := argsL) (rest := rest) (hlen _ hsigM) hstack hdg
  obtain ⟨v, B, X', hpost, hsteps⟩ := hK m meth c ⟨T.setVm vm₁, locs, cells, slots⟩ { g with stack := rest } (.invokevirtual index) mk (Value.ref b :: argsL).toArray X₁ hg hsize hdg hW (X₁.named hnamed) (hpre vm₁ X₁.warmed)
  exact ⟨v, vm₁, B, X₁.warmed, X', hpost, fun target h => hstep₁ _ fun acts => by rw [doInvoke_state]; exact hsteps.trans h⟩
abbrev vx_CVW (R : Room) (s : State) (args : Array Value) (own C : String) (index : Nat) (y : MethodName) (bytes : ByteArray) (maxL : Nat) (ret : Option FieldType) (hh : List (Nat × Nat × Nat × Nat)) (ws : List Cond) (rm : Room) (mc ms n : Nat) : Prop :=
  (rm.cells = mc ∧ rm.slots = ms ∧ rm.frames + 1 ≤ R.frames ∧ 8 + (maxL + 11) + rm.locals ≤ R.locals ∧ (∀ w ∈ ws, ∀ (a' : Array Value) (U : State), s.WarmedH U.vm → w.before a' U = true) ∧ Cond.codeWith y bytes maxL ret hh ∈ ws) ∧
  (Cond.codeWith y bytes maxL ret hh).before args s = true ∧ (Cond.initialized y.cls).before args s = true ∧ (y.cls ≠ "java/lang/invoke/MethodHandle" ∧ y.cls ≠ "java/lang/invoke/VarHandle") ∧
  (∀ sig, parseMethodDescriptor y.desc = some sig → n = sig.parameters.length) ∧ (Cond.methodLink own index y).before args s = true ∧ (Cond.instanceMethod y).before args s = true ∧ (Cond.selects C y y).before args s = true
theorem vx_cwVW {own C : String} {index maxL mc ms : Nat} {y : MethodName} {bytes : ByteArray} {ret : Option FieldType} {hh : List (Nat × Nat × Nat × Nat)} {Ts ws ws' : List Cond} {rm : Room} (n : Nat) (ht : ∀ w ∈ Ts, w.before args s = true) (hT : GoodIn Ts (wsV own index C y ws)) (hw : ws = Cond.codeWith y bytes maxL ret hh :: ws') (hrc : rm.cells = mc) (hrs : rm.slots = ms)
    (hd : y.cls = C ∧ y.cls ≠ "java/lang/invoke/MethodHandle" ∧ y.cls ≠ "java/lang/invoke/VarHandle" ∧ (parseMethodDescriptor y.desc).map (fun d => d.parameters.length) = some n) (hR : rm.frames + 1 ≤ R.frames ∧ 8 + (maxL + 11) + rm.locals ≤ R.locals) :
    vx_CVW R s args own C index y bytes maxL ret hh ws rm mc ms n := by
  obtain ⟨hC, hd⟩ := hd
  subst hC
  have ok : ∀ w ∈ wsV own index y.cls y ws, w.before args s = true := fun w h => ht w (hT w h).1
  have hG : GoodIn Ts ws := fun w h => hT w (by unfold wsV; exact List.mem_append_right _ h)
  have hc : Cond.codeWith y bytes maxL ret hh ∈ ws := by rw [hw]; exact List.mem_cons_self
  refine ⟨⟨hrc, hrs, hR.1, hR.2, pay_in ht hG, hc⟩, ht _ (hG _ hc).1, ok _ (by simp [wsV]), ⟨hd.1, hd.2.1⟩, fun sig h => ?_, ok _ (by simp [wsV]), ok _ (by simp [wsV]), ok _ (by simp [wsV])⟩
  have h2 := hd.2.2
  rw [h] at h2
  exact (Option.some.inj h2).symm
theorem vx_runVW {y : MethodName} {bytes cc : ByteArray} {maxL nL mc ms n index : Nat} {ret : Option FieldType} {hh : List (Nat × Nat × Nat × Nat)} {ws : List Cond} {rm : Room} {Pc : Array Value → State → Prop} {Qc : Array Value → State → Outcome → State → Prop} {free : Addr → Prop} {Ts : List Cond} {own C : String} {b : Addr} {As rest : List Value} {g : JFrame}
    (S : CallFix p m c cc nL s args Ts own) (hM : Met l y ws rm Pc Qc mc ms free) (cw : vx_CVW R s args own C index y bytes maxL ret hh ws rm mc ms n) (hp : PreV s H C b Pc As)
    (hg : g.method = m) (hn : As.length = n) (hsize : g.locals.size = nL) (hstack : g.stack = As.reverse ++ .ref b :: rest) (hW : 2 * g.monitorRoom + (rest.map fun v => v.category).sum ≤ 8) (hdg : decode cc g.pc = .ok (.invokevirtual index, 3)) (hf : cells + mc ≤ R.cells ∧ slots + ms ≤ R.slots) :
    va_Run p l e R s m args below meth c H locs cells slots mc ms g rest (Qc (Value.ref b :: As).toArray) free := by
  obtain ⟨⟨hrc, hrs, hfr, hlo, hws, hcw⟩, hcode, hini, hy, hlen, hl, hin, hse⟩ := cw
  have hK : Back l R p e below s args y 3 8 (PreOf R mc ms Pc) (PostOf Qc mc ms free) := va_backW (hh := hh) (bytes := bytes) (maxL := maxL) (ret := ret) hM hp.1 hrc hrs hfr hlo hws hcw (fun a' U hW => word_at hW (Or.inl (by first | rfl | simp [Cond.onTables, Cond.keeps, Cond.steady])) hini)
  obtain ⟨hx, hb, hml, ho, -⟩ := S
  obtain ⟨-, ⟨cellB, hcB, hoB, hclB⟩, hPc⟩ := hp
  intro T hT X
  obtain ⟨v, vm₁, ⟨U', l2, c2, s2⟩, hW₁, X', ⟨g', mk, t, L, e1, e2, hq, h1, hL, h2, h3⟩, st⟩ := vx_callVW X hx (C := C) (hh := hh) (bytes := bytes) (maxL := maxL) (ret := ret) ho hl hin hse hcode hy hK (by rw [hT]; exact hcB) hoB hclB hg (hsize.trans hml.symm) (argsL := As) (rest := rest) (fun sig h => hn.trans (hlen sig h)) hstack hW (by rw [hb]; exact hdg)
    (fun vm₁ hW₁ => ⟨hf.1, hf.2, hPc (T.setVm vm₁) hT hW₁⟩)
  dsimp only [Pt.U, Pt.locs, Pt.cells, Pt.slots] at X' e1 e2 h1 h2 h3 st
  subst h1; subst h2; subst h3
  exact ⟨v, (T.setVm vm₁).calling g' mk (Value.ref b :: As).toArray, t, U', L, hT, X', hL, e1, e2, hq, st⟩
section
variable {y : MethodName} {bytes cc : ByteArray} {maxL nL mc ms n index : Nat} {ret : Option FieldType} {ws : List Cond} {rm : Room} {Pc : Array Value → State → Prop} {Qc : Array Value → State → Outcome → State → Prop} {XC : String → State → State → Prop} {free : Addr → Prop} {Ts : List Cond} {own C : String} {b : Addr} {As rest : List Value} {g : JFrame}
theorem vx_runVX {hh : List (Nat × Nat × Nat × Nat)} (S : CallFix p m c cc nL s args Ts own) (hM : vx_Met l y ws rm Pc Qc XC mc ms free) (cw : vx_CVW R s args own C index y bytes maxL ret hh ws rm mc ms n) (hp : PreV s H C b Pc As)
    (hg : g.method = m) (hn : As.length = n) (hsize : g.locals.size = nL) (hstack : g.stack = As.reverse ++ .ref b :: rest) (hW : 2 * g.monitorRoom + (rest.map fun v => v.category).sum ≤ 8) (hdg : decode cc g.pc = .ok (.invokevirtual index, 3)) (hf : cells + mc ≤ R.cells ∧ slots + ms ≤ R.slots) :
    vx_Run p l e R s m args below meth c H locs cells slots mc ms g rest (Qc (Value.ref b :: As).toArray) XC free := by
  obtain ⟨⟨hrc, hrs, hfr, hlo, hws, hcw⟩, hcode, hini, hy, hlen, hl, hin, hse⟩ := cw
  have hK : vx_Back l R p e below s args y 3 8 (PreOf R mc ms Pc) (PostOf Qc mc ms free) (vx_Post XC mc ms free) := vx_backW (hh := hh) (bytes := bytes) (maxL := maxL) (ret := ret) hM hp.1 hrc hrs hfr hlo hws hcw (fun a' U hW => word_at hW (Or.inl (by first | rfl | simp [Cond.onTables, Cond.keeps, Cond.steady])) hini)
  obtain ⟨hx, hb, hml, ho, -⟩ := S
  obtain ⟨-, ⟨cellB, hcB, hoB, hclB⟩, hPc⟩ := hp
  intro T hT X
  rcases vx_callVX X hx (C := C) (hh := hh) (bytes := bytes) (maxL := maxL) (ret := ret) ho hl hin hse hcode hy hK (by rw [hT]; exact hcB) hoB hclB hg (hsize.trans hml.symm) (argsL := As) (rest := rest) (fun sig h => hn.trans (hlen sig h)) hstack hW (by rw [hb]; exact hdg)
    (fun vm₁ hW₁ => ⟨hf.1, hf.2, hPc (T.setVm vm₁) hT hW₁⟩) with ⟨v, vm₁, ⟨U', l2, c2, s2⟩, hW₁, X', ⟨g', mk, t, L, e1, e2, hq, h1, hL, h2, h3⟩, st⟩ | ⟨q, vm₁, ⟨U', l2, c2, s2⟩, hW₁, X', ⟨g', mk, t, L, E, ce, e1, e2, hq, hce, hcv, hcl, h1, hL, h2, h3⟩, st⟩
  · dsimp only [Pt.U, Pt.locs, Pt.cells, Pt.slots] at X' e1 e2 h1 h2 h3 st
    subst h1; subst h2; subst h3
    exact Or.inl ⟨v, (T.setVm vm₁).calling g' mk (Value.ref b :: As).toArray, t, U', L, hT, X', hL, e1, e2, hq, st⟩
  · dsimp only [Pt.U, Pt.locs, Pt.cells, Pt.slots] at X' e1 e2 h1 h2 h3 st hcl
    subst h1; subst h2; subst h3
    exact Or.inr ⟨q, (T.setVm vm₁).calling g' mk (Value.ref b :: As).toArray, t, U', L, E, ce, hT, X', hL, e1, e2, hq, hce, hcv, vx_cls hW₁ hcl, st⟩
theorem vx_runSX {hh : List (Nat × Nat × Nat × Nat)} (S : CallFix p m c cc nL s args Ts own) (hM : vx_Met l y ws rm Pc Qc XC mc ms free) (cw : vx_CSW R s args own index y bytes maxL ret hh ws rm mc ms n) (hp : PreS s H Pc As)
    (hg : g.method = m) (hn : As.length = n) (hsize : g.locals.size = nL) (hstack : g.stack = As.reverse ++ rest) (hW : 2 * g.monitorRoom + (rest.map fun v => v.category).sum ≤ 8) (hdg : decode cc g.pc = .ok (.invokestatic index, 3)) (hf : cells + mc ≤ R.cells ∧ slots + ms ≤ R.slots) :
    vx_Run p l e R s m args below meth c H locs cells slots mc ms g rest (Qc As.toArray) XC free := by
  obtain ⟨⟨hrc, hrs, hfr, hlo, hws, hcw⟩, hcode, hini, hy, hlen, hl, hstt⟩ := cw
  have hK : vx_Back l R p e below s args y 3 8 (PreOf R mc ms Pc) (PostOf Qc mc ms free) (vx_Post XC mc ms free) := vx_backW (hh := hh) (bytes := bytes) (maxL := maxL) (ret := ret) hM hp.1 hrc hrs hfr hlo hws hcw (fun a' U hW => word_at hW (Or.inl (by first | rfl | simp [Cond.onTables, Cond.keeps, Cond.steady])) hini)
  obtain ⟨hx, hb, hml, ho, -⟩ := S
  intro T hT X
  rcases vx_callSX X hx (hh := hh) (bytes := bytes) (maxL := maxL) (ret := ret) ho hl hstt hini hcode hy hK hg (hsize.trans hml.symm) (argsL := As) (rest := rest) (fun sig h => hn.trans (hlen sig h)) hstack hW (by rw [hb]; exact hdg)
    (fun vm₁ hW₁ => ⟨hf.1, hf.2, hp.2 (T.setVm vm₁) hT hW₁⟩) with ⟨v, vm₁, ⟨U', l2, c2, s2⟩, hW₁, X', ⟨g', mk, t, L, e1, e2, hq, h1, hL, h2, h3⟩, st⟩ | ⟨q, vm₁, ⟨U', l2, c2, s2⟩, hW₁, X', ⟨g', mk, t, L, E, ce, e1, e2, hq, hce, hcv, hcl, h1, hL, h2, h3⟩, st⟩
  · dsimp only [Pt.U, Pt.locs, Pt.cells, Pt.slots] at X' e1 e2 h1 h2 h3 st
    subst h1; subst h2; subst h3
    exact Or.inl ⟨v, (T.setVm vm₁).calling g' mk As.toArray, t, U', L, hT, X', hL, e1, e2, hq, st⟩
  · dsimp only [Pt.U, Pt.locs, Pt.cells, Pt.slots] at X' e1 e2 h1 h2 h3 st hcl
    subst h1; subst h2; subst h3
    exact Or.inr ⟨q, (T.setVm vm₁).calling g' mk As.toArray, t, U', L, E, ce, hT, X', hL, e1, e2, hq, hce, hcv, vx_cls hW₁ hcl, st⟩
end
end VXH
theorem vx_ofWH {l : Launch} {y : MethodName} {ws ws' : List Cond} {rm : Room} {Pc : Array Value → State → Prop} {Qc : Array Value → State → Outcome → State → Prop} {XC : String → State → State → Prop} {mc ms : Nat} {free : Addr → Prop} {cc : ByteArray} {maxL : Nat} {ret : Option FieldType} {hh : List (Nat × Nat × Nat × Nat)}
    (hy : plainName y.cls = true) (hw : ws = Cond.codeWith y cc maxL ret hh :: ws')
    (body : ∀ p e s m args below meth c s₁, BodyLoose p l y (headSpec ws rm) cc maxL ret e s m args below meth c s₁ → c.maxLocals = maxL → Pc args s →
      W p l e (headSpec ws rm).room s m args below meth c s.heap [] 0 0 (vx_MQ below Qc XC args s mc ms free) (entryFrame m args maxL)) : vx_Met l y ws rm Pc Qc XC mc ms free := by
  refine MetFree.of_bodyS (code := cc) (maxLocals := maxL) (ret := ret) hy ?_ ?_
  · intro args s m h hn
    obtain ⟨m9, meth, c, hn9, h1, h2, h3, h4, -, h5, h6, -⟩ := Cond.codeWith_spec (atoms_spec (ws := ws) h _ (by rw [hw]; exact List.mem_cons_self))
    cases hn.symm.trans hn9
    exact ⟨meth, c, h1, h2, h3, h4, h5, h6⟩
  · intro p e s m args below meth c s₁ B hml hP _
    have hh0 : s₁.heap = s.heap := by rw [B.state]; rfl
    obtain ⟨t, a1, o, b1, b2, b3⟩ := body p e s m args below meth c s₁ B hml hP s₁ hh0 (Stand.of_body B)
    exact ⟨t, o, a1, b1, b2, b3⟩
/-! ===== END ===== -/
/-! ===== BEGIN what the machine throws by itself, no traces kept ===== -/
section VXM
set_option maxHeartbeats 1000000 in
/-- the machine throws cls with the message text, no traces kept: from its note over the frame g to 'throwing' over the same frame (follows the proofs of Stand.vmThrowsMessage, Shelf/KitTracedVmS.lean, and Stand.throwsMessageColdBareV, StandMessageColdV.lean, without the step out of the frame) -/
theorem vx_vmAt {p : Program} {l : Launch} {e : Env} {R : Room} {s : State} {m₀ : MethodId} {args : Array Value} {below : List Frame} {meth : Method} {c : Code} {W : State} {locs : List Loc} {cells slots : Nat}
    (X : Stand p l e R s m₀ args below meth c W locs cells slots) (hexec : p.tables.exec = Jvm.exec) (htr : e.platform.stackTraces = false) {cls : String} {names : List String} {text : String}
    (hcls : Bundle.fit cls = true) (hnames : ∀ n ∈ names, Bundle.fit n = true) (hsoe : (cls == "java/lang/StackOverflowError") = false) (hoom : (cls == "java/lang/OutOfMemoryError") = false)
    (h : ∀ a ∈ Bundle.messageArmAtoms cls names, a.before args s = true)
    (hlocs : ∀ x ∈ locs, ∀ cell, s.heap[x.base]? = some cell → cell.vm.isStatics = false)
    (htext : (text == notModelled) = false) (hlimit : ¬ (stringBytes (stringToUtf16 text)).size > e.platform.arrayLengthLimit) (hheap : ¬ (stringBytes (stringToUtf16 text)).size * componentBytes .byte > e.platform.maxHeapBytes)
    {g : JFrame} (hg : g.method = m₀) (hsize : g.locals.size = c.maxLocals)
    (hRframes : names.length + 4 < R.frames) (hRlocals : 2 * g.monitorRoom + (g.stack.map fun v => v.category).sum + 10240 ≤ R.locals) (hshort : 13 * names.length + 55 ≤ 10240)
    (hRcells : cells + 3 ≤ R.cells) (hRslots : slots + ((stringBytes (stringToUtf16 text)).size + 4 + 6) ≤ R.slots) (hlocks : meth.locks = false) :
    ∃ (S : State) (q : Addr) (ce : Cell), (∀ target, Steps p.tables e below ((S.setTop g).pushFrame (.throwing q)) target → Steps p.tables e below ((W.setTop g).pushFrame (.throwNew cls (some text) none)) target) ∧
      Stand p l e R s m₀ args below meth c S locs (cells + 3) (slots + ((stringBytes (stringToUtf16 text)).size + 4 + 6)) ∧ S.heap[q]? = some ce ∧ s.vm.findClass cls = some ce.cls ∧ ce.vm = .none := by
  have howns : e.platform.frameOwnsMonitors = true := by rw [X.admits.platform]
  have hfin : e.platform.finalization = false := by rw [X.admits.platform]
  have hpl : e.platform.magicAccessors = ({} : Platform).magicAccessors := by rw [X.admits.platform]
  have a : ∀ x, x ∈ Bundle.messageArmAtoms cls names → x.holds args s none s [] = true := fun x hx => h x hx
  obtain ⟨T, Z0, L, -, Y⟩ := ThrowableC.of_atoms (args := args) howns hfin hpl (fun x hx => h x (by simp [Bundle.messageArmAtoms, hx]))
  obtain ⟨Z, M, LZ, LM, hnZ⟩ := Init0T.ofS_atoms (args := args) hpl L Y (fun x hx => h x (by simp [Bundle.messageArmAtoms, hx]))
  obtain ⟨P1, Ps, hlen, L1, hL, hP1m, hlink1, hlink⟩ := Bundle.chainS (args := args) hpl hnZ names cls hcls hnames (fun x hx => h x (by simp [Bundle.messageArmAtoms, hx]))
  obtain ⟨Zs, LZs, hn4, hfitv, hfitc⟩ := StringT.of_atoms (args := args) (fun x hx => h x (by simp [Bundle.messageArmAtoms, hx]))
  have hfound : s.vm.findClass cls = some P1.m.cls := findClass_of_methodNamed hP1m
  obtain ⟨c1, kX, hc1, hk, hord, -, -, hn6⟩ := Cond.instantiable_spec (a (.instantiable cls 6) (by simp [Bundle.messageArmAtoms]))
  cases Option.some.inj (hc1.symm.trans hfound)
  have hinit := Cond.initialized_spec hfound hk (a (.initialized cls) (by simp [Bundle.messageArmAtoms]))
  have hctor : kX.findMethod "<init>" "(Ljava/lang/String;)V" = some P1.m.idx := findMethod_of_methodNamed hP1m hk
  have hsel0 : selectMethod e.platform s.vm P1.m.cls T.fill0 = .method T.fill0 := by
    obtain ⟨c2, r2, m2, q1, q2, q3, q4, -⟩ := Cond.selects_spec (a (.selects cls Bundle.tFill0 Bundle.tFill0) (by simp [Bundle.messageArmAtoms]))
    cases Option.some.inj (q1.symm.trans hfound)
    cases Option.some.inj (q2.symm.trans (State.methodFound?_of_named Y.fill0 (by decide)))
    cases Option.some.inj (q3.symm.trans Y.fill0)
    rw [Launch.admits_selectMethod X.admits]; exact q4
  have hselF : selectMethod e.platform s.vm P1.m.cls T.fill = .method T.fill := by
    obtain ⟨c2, r2, m2, q1, q2, q3, q4, -⟩ := Cond.selects_spec (a (.selects cls Bundle.tFill Bundle.tFill) (by simp [Bundle.messageArmAtoms]))
    cases Option.some.inj (q1.symm.trans hfound)
    cases Option.some.inj (q2.symm.trans (State.methodFound?_of_named Y.fill (by decide)))
    cases Option.some.inj (q3.symm.trans Y.fill)
    rw [Launch.admits_selectMethod X.admits]; exact q4
  obtain ⟨cellS0, hcS0, hiss⟩ := Y.statics
  obtain ⟨u0, hu0⟩ := Cond.staticRefV Y.unassigned L.unassignedStatic L.statics hcS0 hiss (a (.isRef (.static Bundle.tN "UNASSIGNED_STACK" Bundle.steD)) (by simp [Bundle.messageArmAtoms]))
  obtain ⟨sen, hsen⟩ := Cond.staticRefV Y.sentinel L.sentinelStatic L.statics hcS0 hiss (a (.isRef (.static Bundle.tN "SUPPRESSED_SENTINEL" Bundle.listD)) (by simp [Bundle.messageArmAtoms]))
  obtain ⟨ci198, i198, fB, hk198, hg198, ha198, hsB, -, hnB, htB, hffB⟩ := Cond.ownField (t := .object "java/lang/Object") Y.found L.cls (by decide +kernel) (a (.fieldLink Bundle.tN 198 Bundle.tN "backtrace" "Ljava/lang/Object;") (by simp [Bundle.messageArmAtoms])) (a (.lays Bundle.tN Bundle.tN "backtrace" "Ljava/lang/Object;") (by simp [Bundle.messageArmAtoms])) e.platform hpl
  obtain ⟨cellS, hcS', heS, -, hkeep⟩ := X.same.2.2.2.2.2 T.aS cellS0 hcS0
  have hcellS : W.heap[T.aS]? = some cellS := hcS'
  have hout' : ∀ i, (⟨T.aS, i⟩ : Loc) ∉ locs := fun i hmem => by
    have := hlocs _ hmem cellS0 hcS0
    rw [hiss] at this; cases this
  have hknownS : cellS.vm ≠ .unknown := by
    rw [heS]; intro hu
    rw [show cellS0.vm = .unknown from hu] at hiss
    cases hiss
  have hvU : cellS.slots[T.fUnassigned.slot]? = some u0.v := by rw [hkeep _ (hout' _)]; exact hu0
  have hvSen : cellS.slots[T.fSentinel.slot]? = some sen.v := by rw [hkeep _ (hout' _)]; exact hsen
  obtain ⟨iM, hffM⟩ := Y.msg
  obtain ⟨tyC, dC, hdC, hdnC⟩ := Cond.laysAt hfound hk Y.cause (a (.lays cls Bundle.tN "cause" "Ljava/lang/Throwable;") (by simp [Bundle.messageArmAtoms]))
  obtain ⟨tyS, dS, hdS, hdnS⟩ := Cond.laysAt hfound hk Y.stack (a (.lays cls Bundle.tN "stackTrace" Bundle.steD) (by simp [Bundle.messageArmAtoms]))
  obtain ⟨tyP, dP, hdP, hdnP⟩ := Cond.laysAt hfound hk Y.supp (a (.lays cls Bundle.tN "suppressedExceptions" Bundle.listD) (by simp [Bundle.messageArmAtoms]))
  obtain ⟨tyM, dM, hdM, hdnM⟩ := Cond.laysAt hfound hk hffM (a (.lays cls Bundle.tN "detailMessage" "Ljava/lang/String;") (by simp [Bundle.messageArmAtoms]))
  obtain ⟨tyB, dB, hdB, hdnB⟩ := Cond.laysAt hfound hk hffB (a (.lays cls Bundle.tN "backtrace" "Ljava/lang/Object;") (by simp [Bundle.messageArmAtoms]))
  have bC := Cond.laysApart hdB hdC hdnB hdnC (by rw [hnB, Y.causeName]; decide)
  have bS := Cond.laysApart hdB hdS hdnB hdnS (by rw [hnB, Y.stackName]; decide)
  have bP := Cond.laysApart hdB hdP hdnB hdnP (by rw [hnB, Y.suppName]; decide)
  have hbk : ((preparedCellV T.toThrowableT (freshCell P1.m.cls kX) (W.heap.size + 2) u0 sen).withEntry W.cur).slots[fB.slot]? = some .null := by
    have := fresh_default (c := P1.m.cls) tyB
    rw [htB] at this
    simpa [preparedCellV, Cell.setSlot, Cell.withEntry, Array.getElem?_setIfInBounds, bC, bS, bP, bC.symm, bS.symm, bP.symm, defaultValue] using this
  have tkC := Takes.of_laid (v := .ref (W.heap.size + 2)) hk hord tyC (by rw [Y.causeType]; rfl)
  have tkS := Takes.of_laid (v := u0.v) hk hord tyS (by rw [Y.stackType]; exact fits_refV_array _ u0)
  have tkP := Takes.of_laid (v := sen.v) hk hord tyP (by rw [Y.suppType]; exact fits_refV_object _ sen)
  have tkM := Takes.of_laid (v := .ref (W.heap.size + 1)) hk hord tyM (by rw [Y.msgType]; rfl)
  have hskip : SkipFacts T e.platform s (fun u => u) u0 ((preparedCellV T.toThrowableT (freshCell P1.m.cls kX) (W.heap.size + 2) u0 sen).withEntry W.cur) := ⟨{ ci198 := ci198, i198 := i198, fBack := fB }, ⟨hk198, hg198, ha198, hsB⟩, hbk, fun _ _ => rfl⟩
  have h0 : At W g.method c below := by rw [hg]; exact X.here
  obtain ⟨hbeyond, hfreeW⟩ := X.vmMayThrow hsize (.throwNew cls (some text) none) (fun f hf => by cases hf) rfl hRlocals
  have hfr' : W.frames.length + Ps.length + 4 < (e.platform.stackLimits W.me).1 := by have := X.framesAbove hRframes; omega
  have hwd' : (stackUse (.java g :: W.frames.tail)).2 + 13 * Ps.length + 55 ≤ (e.platform.stackLimits W.me).2 := by have := X.stackAbove hsize (K := 13 * Ps.length + 55) (by omega); omega
  have hslots : W.slotsUsed + (stringBytes (stringToUtf16 text)).size + Zs.kS.instanceTypes.size + kX.instanceTypes.size ≤ e.platform.maxSlots := by
    have := X.slotsAbove hRslots
    rw [hn4, hn6]
    omega
  obtain ⟨vm', hW', st⟩ := Steps.vmThrowsMessageColdByV p (s₀ := s) (S := W) (g := g) h0 hexec T L Z LZ M LM X.warmed (t := W.cur) rfl Zs LZs P1 L1 Ps hL hlink1 hlink hsoe hoom hfound hk hinit hord hctor
    (Launch.admits_hotImplicitExceptions X.admits) hbeyond hfreeW htext hlimit hheap (X.cellsAbove hRcells) hslots (hfitv _) (hfitc _)
    (Nn := fun u => u) heapOnly_id (fun _ _ => rfl) (fun _ => rfl) (fun u x y => setCell_twice _ _ _ _) (fun _ => Nat.le_refl _) (cN := ((preparedCellV T.toThrowableT (freshCell P1.m.cls kX) (W.heap.size + 2) u0 sen).withEntry W.cur))
    hsel0 hcellS hknownS hvU tkS (fun _ hu => hu) (fun _ hu => hu) rfl rfl rfl (by simp [preparedCellV, Cell.setSlot, Cell.withEntry]) hskip (fun _ _ hA hW _ hroom _ hrest => L.nativeOff p htr hA hW hroom hrest) hselF hvSen tkC tkP tkM Y.objLocals rfl hfr' hwd'
  rw [plainBareV_eq T.toThrowableT (W.heap.size + 2) u0 sen (.ref (W.heap.size + 1)) W.cur rfl rfl] at st
  obtain ⟨-, -, w3, w4, -, -, -⟩ := withThrown_facts e.platform W Zs text P1.m.cls kX
  have X3 := ((X.pushed (bytesOf Zs.cB (stringToUtf16 text))).pushed (stringAt Zs.cS Zs.kS Zs.fv Zs.fc (stringToUtf16 text) W.heap.size)).pushed (freshCell P1.m.cls kX)
  rw [← withString_eq] at X3
  have X4 := X3.noted hW'
  have ha : (W.heap.size + 2) < ((withThrown W Zs text P1.m.cls kX).setVm vm').heap.size := by show _ < (withThrown W Zs text P1.m.cls kX).heap.size; rw [w3]; omega
  have hcell : ((withThrown W Zs text P1.m.cls kX).setVm vm').heap[(W.heap.size + 2)]? = some (freshCell P1.m.cls kX) := w4
  have X5 := ((((X4.stored hcell T.fCause.slot (.ref (W.heap.size + 2))).storedAgain ha T.fStack.slot u0.v).storedAgain ha T.fSupp.slot sen.v).storedAgain ha T.fStack.slot u0.v).storedAgain ha T.fMsg.slot (.ref (W.heap.size + 1))
  obtain ⟨g₁, hfrM⟩ := X5.frames_eq
  have hU : ((((withThrown W Zs text P1.m.cls kX).setVm vm').setCell (W.heap.size + 2) (plainBareV T.toThrowableT (freshCell P1.m.cls kX) (W.heap.size + 2) u0 sen (.ref (W.heap.size + 1)))).setTop g).pushFrame (.throwing (W.heap.size + 2)) = (((withThrown W Zs text P1.m.cls kX).setVm vm').setCell (W.heap.size + 2) (plainBareV T.toThrowableT (freshCell P1.m.cls kX) (W.heap.size + 2) u0 sen (.ref (W.heap.size + 1)))).setFrames (.throwing (W.heap.size + 2) :: .java g :: below) := by
    rw [State.pushFrame, State.frames_setTop _ hfrM, State.setTop_of_frames _ hfrM, State.setFrames_setFrames]
  have b1 : (bytesOf Zs.cB (stringToUtf16 text)).slots.size = (stringBytes (stringToUtf16 text)).size := by
    rw [(Cell.writeAll_facts _ _).2.2]; simp [bytes0]
  have b2 : (stringAt Zs.cS Zs.kS Zs.fv Zs.fc (stringToUtf16 text) W.heap.size).slots.size = 4 := by simp [string0, Cell.setSlot, hn4]
  have b3 : (freshCell P1.m.cls kX).slots.size = 6 := by simp [hn6]
  rw [b1, b2, b3] at X5
  have e9 : slots + (stringBytes (stringToUtf16 text)).size + 4 + 6 = slots + ((stringBytes (stringToUtf16 text)).size + 4 + 6) := by omega
  rw [e9] at X5
  simp only [List.append_assoc, List.cons_append, List.nil_append] at X5
  refine ⟨((withThrown W Zs text P1.m.cls kX).setVm vm').setCell (W.heap.size + 2) (plainBareV T.toThrowableT (freshCell P1.m.cls kX) (W.heap.size + 2) u0 sen (.ref (W.heap.size + 1))), W.heap.size + 2, _, fun target ht => st _ (by rw [X.tail, ← hU]; exact ht),
    X5.forget (fun y hy => ?_), heapAt_setCell_self _ ha, hfound, rfl⟩
  simp only [List.mem_cons, List.not_mem_nil, or_false] at hy
  have hge : s.heap.size ≤ W.heap.size := X.same.2.1
  rcases hy with rfl | rfl | rfl | rfl | rfl <;> exact Nat.le_trans hge (Nat.le_add_right _ 2)
set_option maxHeartbeats 1000000 in
/-- the machine throws NullPointerException, no traces kept: from its note over the frame g to 'throwing' over the same frame (follows the proof of Stand.vmThrowsNpe, Shelf42/KT2.lean; throwsNpeColdBareVAt, Shelf42/NT91.lean, called) -/
theorem vx_npeAt {p : Program} {l : Launch} {e : Env} {R : Room} {s : State} {m₀ : MethodId} {args : Array Value} {below : List Frame} {meth : Method} {c : Code} {W : State} {locs : List Loc} {cells slots : Nat}
    (X : Stand p l e R s m₀ args below meth c W locs cells slots) (hexec : p.tables.exec = Jvm.exec) (htr : e.platform.stackTraces = false) {n : Nat}
    (h : ∀ a ∈ Bundle.npeArmAtoms n, a.before args s = true)
    (hlocs : ∀ x ∈ locs, ∀ cell, s.heap[x.base]? = some cell → cell.vm.isStatics = false)
    {g : JFrame} (hg : g.method = m₀) (hsize : g.locals.size = c.maxLocals)
    (hRframes : 7 < R.frames) (hRlocals : 2 * g.monitorRoom + (g.stack.map fun v => v.category).sum + 10240 ≤ R.locals)
    (hRcells : cells + 1 ≤ R.cells) (hRslots : slots + n ≤ R.slots) (hlocks : meth.locks = false) :
    ∃ (S : State) (q : Addr) (ce : Cell), (∀ target, Steps p.tables e below ((S.setTop g).pushFrame (.throwing q)) target → Steps p.tables e below ((W.setTop g).pushFrame (.throwNew "java/lang/NullPointerException" none none)) target) ∧
      Stand p l e R s m₀ args below meth c S locs (cells + 1) (slots + n) ∧ S.heap[q]? = some ce ∧ s.vm.findClass "java/lang/NullPointerException" = some ce.cls ∧ ce.vm = .none := by
  have howns : e.platform.frameOwnsMonitors = true := by rw [X.admits.platform]
  have hfin : e.platform.finalization = false := by rw [X.admits.platform]
  have hpl : e.platform.magicAccessors = ({} : Platform).magicAccessors := by rw [X.admits.platform]
  have hpl2 : e.platform.arrayCloneIsPublic = true := by rw [X.admits.platform]
  have a' : ∀ x, x ∈ Bundle.npeArmAtoms n → x.holds args s none s [] = true := fun x hx => h x hx
  obtain ⟨T, Z, L, LZ, Y⟩ := ThrowableC.of_atoms (args := args) howns hfin hpl (fun x hx => h x (by simp [Bundle.npeArmAtoms, hx]))
  obtain ⟨N, LN, hcN, hnNF, hordN, hffS⟩ := NpeC.of_atoms (args := args) hpl hpl2 L Y (fun x hx => h x (by simp [Bundle.npeArmAtoms, hx]))
  obtain ⟨P1, L1, hP1m, hP1s⟩ := PassC.of_atoms (args := args) (s := s) hpl (X := Bundle.nN) (Y := Bundle.rN) (by decide) (by decide) LibCode.NullPointerException.Init0.at_0 LibCode.NullPointerException.Init0.at_1 LibCode.NullPointerException.Init0.at_4 (fun x hx => h x (by simp [Bundle.npeArmAtoms, hx]))
  obtain ⟨PR, LR, hPRm, hPRs⟩ := PassC.of_atoms (args := args) (s := s) hpl (X := Bundle.rN) (Y := Bundle.eN) (by decide) (by decide) LibCode.RuntimeException.Init0.at_0 LibCode.RuntimeException.Init0.at_1 LibCode.RuntimeException.Init0.at_4 (fun x hx => h x (by simp [Bundle.npeArmAtoms, hx]))
  obtain ⟨PE, LEx, hPEm, hPEs⟩ := PassC.of_atoms (args := args) (s := s) hpl (X := Bundle.eN) (Y := Bundle.tN) (by decide) (by decide) LibCode.Exception.Init0.at_0 LibCode.Exception.Init0.at_1 LibCode.Exception.Init0.at_4 (fun x hx => h x (by simp [Bundle.npeArmAtoms, hx]))
  have hfound : s.vm.findClass Bundle.nN = some P1.m.cls := findClass_of_methodNamed hP1m
  have ecls : N.cN = P1.m.cls := Option.some.inj (hcN.symm.trans hfound)
  have hk : s.vm.classes[P1.m.cls]? = some N.kN := by rw [← ecls]; exact LN.cls
  have hinit := Cond.initialized_spec hfound hk (a' (.initialized Bundle.nN) (by simp [Bundle.npeArmAtoms]))
  have hctor : N.kN.findMethod "<init>" "()V" = some P1.m.idx := findMethod_of_methodNamed hP1m hk
  obtain ⟨c1, k1, hc1, hk1, -, -, -, hn⟩ := Cond.instantiable_spec (a' (.instantiable Bundle.nN n) (by simp [Bundle.npeArmAtoms]))
  cases Option.some.inj (hc1.symm.trans hfound)
  cases Option.some.inj (hk1.symm.trans hk)
  have hfsz : (freshCell P1.m.cls N.kN).slots.size = n := by simp [hn]
  have hlink1 : P1.sup = PR.m := Option.some.inj (hP1s.symm.trans hPRm)
  have hlinkR : PR.sup = PE.m := Option.some.inj (hPRs.symm.trans hPEm)
  have hlinkE : PE.sup = Z.m T.toThrowableT := Option.some.inj (hPEs.symm.trans Y.init0)
  have hLs : ∀ P, P ∈ [PR, PE] → P.Links0 e.platform s := fun P hP => by
    simp only [List.mem_cons, List.not_mem_nil, or_false] at hP
    rcases hP with rfl | rfl
    · exact LR
    · exact LEx
  have hsel0 : selectMethod e.platform s.vm P1.m.cls T.fill0 = .method T.fill0 := by
    obtain ⟨c2, r2, m2, q1, q2, q3, q4, -⟩ := Cond.selects_spec (a' (.selects Bundle.nN Bundle.tFill0 Bundle.tFill0) (by simp [Bundle.npeArmAtoms]))
    cases Option.some.inj (q1.symm.trans hfound)
    cases Option.some.inj (q2.symm.trans (State.methodFound?_of_named Y.fill0 (by decide)))
    cases Option.some.inj (q3.symm.trans Y.fill0)
    rw [Launch.admits_selectMethod X.admits]; exact q4
  have hselF : selectMethod e.platform s.vm P1.m.cls T.fill = .method N.fill := by
    obtain ⟨c2, r2, m2, q1, q2, q3, q4, -⟩ := Cond.selects_spec (a' (.selects Bundle.nN Bundle.tFill Bundle.nFill) (by simp [Bundle.npeArmAtoms]))
    cases Option.some.inj (q1.symm.trans hfound)
    cases Option.some.inj (q2.symm.trans (State.methodFound?_of_named Y.fill (by decide)))
    cases Option.some.inj (q3.symm.trans hnNF)
    rw [Launch.admits_selectMethod X.admits]; exact q4
  obtain ⟨cellS0, hcS0, hiss⟩ := Y.statics
  obtain ⟨u0, hu0⟩ := Cond.staticRefV Y.unassigned L.unassignedStatic L.statics hcS0 hiss (a' (.isRef (.static Bundle.tN "UNASSIGNED_STACK" Bundle.steD)) (by simp [Bundle.npeArmAtoms]))
  obtain ⟨sen, hsen⟩ := Cond.staticRefV Y.sentinel L.sentinelStatic L.statics hcS0 hiss (a' (.isRef (.static Bundle.tN "SUPPRESSED_SENTINEL" Bundle.listD)) (by simp [Bundle.npeArmAtoms]))
  obtain ⟨ci198, i198, fB, hk198, hg198, ha198, hsB, -, hnB, htB, hffB⟩ := Cond.ownField (t := .object "java/lang/Object") Y.found L.cls (by decide +kernel) (a' (.fieldLink Bundle.tN 198 Bundle.tN "backtrace" Bundle.objD) (by simp [Bundle.npeArmAtoms])) (a' (.lays Bundle.tN Bundle.tN "backtrace" Bundle.objD) (by simp [Bundle.npeArmAtoms])) e.platform hpl
  obtain ⟨cellS, hcS', heS, -, hkeep⟩ := X.same.2.2.2.2.2 T.aS cellS0 hcS0
  have hcellS : W.heap[T.aS]? = some cellS := hcS'
  have hout' : ∀ i, (⟨T.aS, i⟩ : Loc) ∉ locs := fun i hmem => by
    have := hlocs _ hmem cellS0 hcS0
    rw [hiss] at this; cases this
  have hknownS : cellS.vm ≠ .unknown := by
    rw [heS]; intro hu
    rw [show cellS0.vm = .unknown from hu] at hiss
    cases hiss
  have hvU : cellS.slots[T.fUnassigned.slot]? = some u0.v := by rw [hkeep _ (hout' _)]; exact hu0
  have hvSen : cellS.slots[T.fSentinel.slot]? = some sen.v := by rw [hkeep _ (hout' _)]; exact hsen
  obtain ⟨tyC, dC, hdC, hdnC⟩ := Cond.laysAt hfound hk Y.cause (a' (.lays Bundle.nN Bundle.tN "cause" "Ljava/lang/Throwable;") (by simp [Bundle.npeArmAtoms]))
  obtain ⟨tyS, dS, hdS, hdnS⟩ := Cond.laysAt hfound hk Y.stack (a' (.lays Bundle.nN Bundle.tN "stackTrace" Bundle.steD) (by simp [Bundle.npeArmAtoms]))
  obtain ⟨tyP, dP, hdP, hdnP⟩ := Cond.laysAt hfound hk Y.supp (a' (.lays Bundle.nN Bundle.tN "suppressedExceptions" Bundle.listD) (by simp [Bundle.npeArmAtoms]))
  obtain ⟨tyX, dX, hdX, hdnX⟩ := Cond.laysAt hfound hk hffS (a' (.lays Bundle.nN Bundle.nN "extendedMessageState" "I") (by simp [Bundle.npeArmAtoms, Bundle.npeAtoms]))
  obtain ⟨hnX, htX⟩ := State.fieldFound?_type hffS (t := .int) (by decide +kernel)
  have xC := Cond.laysApart hdC hdX hdnC hdnX (by rw [hnX, Y.causeName]; decide)
  have xS := Cond.laysApart hdS hdX hdnS hdnX (by rw [hnX, Y.stackName]; decide)
  have xP := Cond.laysApart hdP hdX hdnP hdnX (by rw [hnX, Y.suppName]; decide)
  have hv0 : (freshCell P1.m.cls N.kN).slots[N.fState.slot]? = some (.int 0) := by
    have := fresh_default (c := P1.m.cls) tyX
    rw [htX] at this; exact this
  obtain ⟨tyB, dB, hdB, hdnB⟩ := Cond.laysAt hfound hk hffB (a' (.lays Bundle.nN Bundle.tN "backtrace" Bundle.objD) (by simp [Bundle.npeArmAtoms]))
  have bC := Cond.laysApart hdB hdC hdnB hdnC (by rw [hnB, Y.causeName]; decide)
  have bS := Cond.laysApart hdB hdS hdnB hdnS (by rw [hnB, Y.stackName]; decide)
  have bP := Cond.laysApart hdB hdP hdnB hdnP (by rw [hnB, Y.suppName]; decide)
  have bX := Cond.laysApart hdB hdX hdnB hdnX (by rw [hnB, hnX]; decide)
  have hbk : ((npeCell N.toNpeT (preparedCellV T.toThrowableT (freshCell P1.m.cls N.kN) W.heap.size u0 sen) W.cur).withEntry W.cur).slots[fB.slot]? = some .null := by
    have := fresh_default (c := P1.m.cls) tyB
    rw [htB] at this
    simpa [npeCell, preparedCellV, Cell.setSlot, Cell.withEntry, Array.getElem?_setIfInBounds, bC, bS, bP, bX, bC.symm, bS.symm, bP.symm, bX.symm, defaultValue] using this
  have tkC := Takes.of_laid (v := .ref W.heap.size) hk hordN tyC (by rw [Y.causeType]; rfl)
  have tkS := Takes.of_laid (v := u0.v) hk hordN tyS (by rw [Y.stackType]; exact fits_refV_array _ u0)
  have tkP := Takes.of_laid (v := sen.v) hk hordN tyP (by rw [Y.suppType]; exact fits_refV_object _ sen)
  have tkX := Takes.of_laid (v := .int 1) hk hordN tyX (by rw [htX]; rfl)
  have hskip : SkipFacts T e.platform s (fun u => u) u0 ((npeCell N.toNpeT (preparedCellV T.toThrowableT (freshCell P1.m.cls N.kN) W.heap.size u0 sen) W.cur).withEntry W.cur) := ⟨{ ci198 := ci198, i198 := i198, fBack := fB }, ⟨hk198, hg198, ha198, hsB⟩, hbk, fun _ _ => rfl⟩
  obtain ⟨vm', X3, st, -⟩ := X.throwsNpeColdBareVAt hexec hg hsize T L Z LZ N LN P1 L1 [PR, PE] hLs hlink1 ⟨hlinkR, hlinkE, trivial⟩ hfound hk hinit hordN hctor hsel0 hselF hcellS hknownS hvU hvSen
    hv0 xC xS xP tkC tkS tkP tkX Y.objLocals hskip (fun _ _ hA hW _ hroom _ hrest => L.nativeOff p htr hA hW hroom hrest) (by simpa using hRframes) hRlocals (by simp) hRcells (by rw [hn]; exact hRslots)
  have hlt : W.heap.size < ((W.pushCell (freshCell P1.m.cls N.kN)).setVm vm').heap.size := by
    show W.heap.size < (W.pushCell (freshCell P1.m.cls N.kN)).heap.size
    rw [State.heap_size_pushCell]; omega
  rw [hfsz] at X3
  obtain ⟨g₁, hfrM⟩ := X3.frames_eq
  have hU : ((((W.pushCell (freshCell P1.m.cls N.kN)).setVm vm').setCell W.heap.size (npeBareV T.toThrowableT N.toNpeT (freshCell P1.m.cls N.kN) W.heap.size u0 sen)).setTop g).pushFrame (.throwing W.heap.size) = (((W.pushCell (freshCell P1.m.cls N.kN)).setVm vm').setCell W.heap.size (npeBareV T.toThrowableT N.toNpeT (freshCell P1.m.cls N.kN) W.heap.size u0 sen)).setFrames (.throwing W.heap.size :: .java g :: below) := by
    rw [State.pushFrame, State.frames_setTop _ hfrM, State.setTop_of_frames _ hfrM, State.setFrames_setFrames]
  refine ⟨_, W.heap.size, _, fun target ht => st.trans (by rw [← hU]; exact ht), X3.forget (fun y hy => ?_), heapAt_setCell_self _ hlt, hfound, rfl⟩
  simp only [List.mem_cons, List.not_mem_nil, or_false] at hy
  have hge : s.heap.size ≤ W.heap.size := X.same.2.1
  rcases hy with rfl | rfl | rfl | rfl | rfl <;> exact hge
/-- the words of a machine's NullPointerException, but the four that speak of the heap -/
def vx_atN (n : Nat) : List Cond := (Bundle.npeArmAtoms n).filter vx_no
/-- the words of a machine's throw with a message, but the four that speak of the heap -/
def vx_atM (X : String) (names : List String) : List Cond := (Bundle.messageArmAtoms X names).filter vx_no
section
variable {p : Program} {l : Launch} {e : Env} {R : Room} {s : State} {m : MethodId} {args : Array Value} {below : List Frame} {meth : Method} {c : Code} {H : Heap} {locs : List Loc} {cells slots : Nat}
/-- a frame seen from a rebased start, seen from the first start again -/
theorem vx_back9 {T S : State} {R' : Room} {k n : Nat} (X : Stand p l e R s m args below meth c T locs cells slots) (Y : Stand p l e R' ((T.setVm s.vm).setFrames (.invoking m args :: below)) m args below meth c T [] 0 0) (Z : Stand p l e R' ((T.setVm s.vm).setFrames (.invoking m args :: below)) m args below meth c S [] k n) :
    Stand p l e R s m args below meth c S locs (cells + k) (slots + n) := by
  have hW0 : s.WarmedH ((T.setVm s.vm).setFrames (.invoking m args :: below)).vm := State.WarmedH.refl s
  refine { admits := X.admits, cas := X.cas, clock := X.clock, frames := X.frames, room := X.room, hears := X.hears, method := X.method, code := X.code, here := Z.here, tail := Z.tail, warmed := State.WarmedH.trans hW0 Z.warmed, limits := Z.limits.trans (Y.limits.symm.trans X.limits), bytes := Z.bytes.trans (Y.bytes.symm.trans X.bytes), same := ?_ }
  obtain ⟨e1, e2⟩ := Z.same
  rw [State.setFrames_setFrames] at e1
  have h2 : (T.setVm s.vm).sameButNew (S.setVm s.vm) [] k n := ⟨e1, e2⟩
  have h3 := X.same.trans h2
  rw [List.append_nil] at h3
  exact h3
/-- from the machine's note that E is thrown here with this text -/
def vx_Note (p : Program) (l : Launch) (e : Env) (R : Room) (s : State) (m : MethodId) (args : Array Value) (below : List Frame) (meth : Method) (c : Code) (H : Heap) (locs : List Loc) (cells slots : Nat) (Q : State → Prop) (g : JFrame) (E text : String) : Prop :=
  ∀ T : State, T.heap = H → Stand p l e R s m args below meth c T locs cells slots → ∃ t, Steps p.tables e below ((T.setTop g).pushFrame (.throwNew E (some text) none)) t ∧ Q t
theorem vx_vm {pc : Nat} {ls : Array Slot} {rest : List Value} {Q : State → Prop} (hexec : p.tables.exec = Jvm.exec) (hl : l.stackTraces = false) {cls text : String} {names : List String} {nb : Nat} {A : Nat → Prop}
    (hcls : Bundle.fit cls = true) (hnames : ∀ n ∈ names, Bundle.fit n = true) (hsoe : (cls == "java/lang/StackOverflowError") = false) (hoom : (cls == "java/lang/OutOfMemoryError") = false)
    (hat : ∀ w ∈ vx_atM cls names, w.before args s = true) (hgood : ∀ w ∈ vx_atM cls names, vx_ot w = true)
    (hU : vx_Zq Bundle.tN "UNASSIGNED_STACK" Bundle.steD A s s.heap) (hN : vx_Zq Bundle.tN "SUPPRESSED_SENTINEL" Bundle.listD A s s.heap) (hS : va_S A s.heap H locs) (hsize : ls.size = c.maxLocals)
    (htext : (text == notModelled) = false) (hnb : (stringBytes (stringToUtf16 text)).size ≤ nb) (hnb1 : nb ≤ 1000)
    (hRframes : names.length + 4 < R.frames) (hRlocals : (rest.map fun v => v.category).sum + 10240 ≤ R.locals) (hshort : 13 * names.length + 55 ≤ 10240) (hRcells : cells + 3 ≤ R.cells) (hRslots : slots + (nb + 10) ≤ R.slots) (hlocks : meth.locks = false)
    (k : ∀ (H1 : Heap) (q9 : Addr) (ce : Cell), H.size ≤ H1.size → (∀ q : Nat, q < H.size → H1[q]? = H[q]?) → va_S A s.heap H1 locs → H1[q9]? = some ce → ce.vm = .none → s.vm.findClass cls = some ce.cls → vx_W p l e R s m args below meth c H1 locs (cells + 3) (slots + (nb + 10)) Q (F0 m pc ls rest) q9) :
    vx_Note p l e R s m args below meth c H locs cells slots Q (F0 m pc ls rest) cls text := by
  intro T hT X
  have htr : e.platform.stackTraces = false := (show e.platform.stackTraces = l.stackTraces by rw [X.admits.platform]).trans hl
  have Y := vx_rebase X (R' := { frames := R.frames, locals := R.locals, cells := 3, slots := nb + 10 }) (Nat.le_refl _) (Nat.le_refl _) hRcells hRslots
  have hhp : ((T.setVm s.vm).setFrames (.invoking m args :: below)).heap = H := hT
  have hW0 : s.WarmedH ((T.setVm s.vm).setFrames (.invoking m args :: below)).vm := State.WarmedH.refl s
  have hat' : ∀ w ∈ vx_atM cls names, w.before args ((T.setVm s.vm).setFrames (.invoking m args :: below)) = true := fun w hw => vx_ot_at hW0 rfl (hgood w hw) (hat w hw)
  have hU' : vx_Zq Bundle.tN "UNASSIGNED_STACK" Bundle.steD A ((T.setVm s.vm).setFrames (.invoking m args :: below)) ((T.setVm s.vm).setFrames (.invoking m args :: below)).heap := by rw [hhp]; exact vx_Zq.moved hW0.alike (hU.kept hS.2.1)
  have hN' : vx_Zq Bundle.tN "SUPPRESSED_SENTINEL" Bundle.listD A ((T.setVm s.vm).setFrames (.invoking m args :: below)) ((T.setVm s.vm).setFrames (.invoking m args :: below)).heap := by rw [hhp]; exact vx_Zq.moved hW0.alike (hN.kept hS.2.1)
  obtain ⟨S, q, ce, st, Z, hce, hcl', hv⟩ := vx_vmAt Y hexec htr (cls := cls) (names := names) (text := text) hcls hnames hsoe hoom (vx_own hat' (vx_isRefq hU'.1) (vx_isRefq hN'.1) hU'.2.word hN'.2.word) (fun x hx => nomatch hx) htext
    (by rw [Launch.admits_arrayLengthLimit X.admits]; omega) (by rw [Launch.admits_maxHeapBytes X.admits]; simp only [componentBytes]; omega)
    (g := F0 m pc ls rest) rfl hsize hRframes (by show 2 * 0 + (rest.map fun v => v.category).sum + 10240 ≤ R.locals; omega) hshort (by show 0 + 3 ≤ 3; omega) (by show 0 + (_ + 4 + 6) ≤ nb + 10; omega) hlocks
  obtain ⟨f1, f2⟩ := vx_frame Z.same
  have f1' : H.size ≤ S.heap.size := by rw [← hT]; exact f1
  have f2' : ∀ q : Nat, q < H.size → S.heap[q]? = H[q]? := fun q hq => by
    rw [← hT]
    exact f2 q (by rw [← hT] at hq; exact hq) (fun z hz => nomatch hz)
  have X5 := vx_back9 X Y Z
  have X6 : Stand p l e R s m args below meth c S locs (cells + 3) (slots + (nb + 10)) := { X5 with same := X5.same.mono (by omega) (by omega) }
  obtain ⟨t, a1, b1⟩ := k S.heap q ce f1' f2' ⟨Nat.le_trans hS.1 f1', fun q h1 h2 => (f2' q (Nat.lt_of_lt_of_le h1 hS.1)).trans (hS.2.1 q h1 h2), hS.2.2⟩ hce hv hcl' S rfl X6
  exact ⟨t, st t a1, b1⟩
/-- from the machine's note that NullPointerException is thrown here -/
def vx_NoteN (p : Program) (l : Launch) (e : Env) (R : Room) (s : State) (m : MethodId) (args : Array Value) (below : List Frame) (meth : Method) (c : Code) (H : Heap) (locs : List Loc) (cells slots : Nat) (Q : State → Prop) (g : JFrame) : Prop :=
  ∀ T : State, T.heap = H → Stand p l e R s m args below meth c T locs cells slots → ∃ t, Steps p.tables e below ((T.setTop g).pushFrame (.throwNew "java/lang/NullPointerException" none none)) t ∧ Q t
theorem vx_npe {pc : Nat} {ls : Array Slot} {rest : List Value} {Q : State → Prop} (hexec : p.tables.exec = Jvm.exec) (hl : l.stackTraces = false) {nb : Nat} {A : Nat → Prop}
    (hat : ∀ w ∈ vx_atN nb, w.before args s = true) (hgood : ∀ w ∈ vx_atN nb, vx_ot w = true)
    (hU : vx_Zq Bundle.tN "UNASSIGNED_STACK" Bundle.steD A s s.heap) (hN : vx_Zq Bundle.tN "SUPPRESSED_SENTINEL" Bundle.listD A s s.heap) (hS : va_S A s.heap H locs) (hsize : ls.size = c.maxLocals)
    (hRframes : 7 < R.frames) (hRlocals : (rest.map fun v => v.category).sum + 10240 ≤ R.locals) (hRcells : cells + 1 ≤ R.cells) (hRslots : slots + nb ≤ R.slots) (hlocks : meth.locks = false)
    (k : ∀ (H1 : Heap) (q9 : Addr) (ce : Cell), H.size ≤ H1.size → (∀ q : Nat, q < H.size → H1[q]? = H[q]?) → va_S A s.heap H1 locs → H1[q9]? = some ce → ce.vm = .none → s.vm.findClass "java/lang/NullPointerException" = some ce.cls → vx_W p l e R s m args below meth c H1 locs (cells + 1) (slots + nb) Q (F0 m pc ls rest) q9) :
    vx_NoteN p l e R s m args below meth c H locs cells slots Q (F0 m pc ls rest) := by
  intro T hT X
  have htr : e.platform.stackTraces = false := (show e.platform.stackTraces = l.stackTraces by rw [X.admits.platform]).trans hl
  have Y := vx_rebase X (R' := { frames := R.frames, locals := R.locals, cells := 1, slots := nb }) (Nat.le_refl _) (Nat.le_refl _) hRcells hRslots
  have hhp : ((T.setVm s.vm).setFrames (.invoking m args :: below)).heap = H := hT
  have hW0 : s.WarmedH ((T.setVm s.vm).setFrames (.invoking m args :: below)).vm := State.WarmedH.refl s
  have hat' : ∀ w ∈ vx_atN nb, w.before args ((T.setVm s.vm).setFrames (.invoking m args :: below)) = true := fun w hw => vx_ot_at hW0 rfl (hgood w hw) (hat w hw)
  have hU' : vx_Zq Bundle.tN "UNASSIGNED_STACK" Bundle.steD A ((T.setVm s.vm).setFrames (.invoking m args :: below)) ((T.setVm s.vm).setFrames (.invoking m args :: below)).heap := by rw [hhp]; exact vx_Zq.moved hW0.alike (hU.kept hS.2.1)
  have hN' : vx_Zq Bundle.tN "SUPPRESSED_SENTINEL" Bundle.listD A ((T.setVm s.vm).setFrames (.invoking m args :: below)) ((T.setVm s.vm).setFrames (.invoking m args :: below)).heap := by rw [hhp]; exact vx_Zq.moved hW0.alike (hN.kept hS.2.1)
  obtain ⟨S, q, ce, st, Z, hce, hcl', hv⟩ := vx_npeAt Y hexec htr (n := nb) (vx_own hat' (vx_isRefq hU'.1) (vx_isRefq hN'.1) hU'.2.word hN'.2.word) (fun x hx => nomatch hx)
    (g := F0 m pc ls rest) rfl hsize hRframes (by show 2 * 0 + (rest.map fun v => v.category).sum + 10240 ≤ R.locals; omega) (by show 0 + 1 ≤ 1; omega) (by show 0 + nb ≤ nb; omega) hlocks
  obtain ⟨f1, f2⟩ := vx_frame Z.same
  have f1' : H.size ≤ S.heap.size := by rw [← hT]; exact f1
  have f2' : ∀ q : Nat, q < H.size → S.heap[q]? = H[q]? := fun q hq => by
    rw [← hT]
    exact f2 q (by rw [← hT] at hq; exact hq) (fun z hz => nomatch hz)
  have X5 := vx_back9 X Y Z
  have X6 : Stand p l e R s m args below meth c S locs (cells + 1) (slots + nb) := { X5 with same := X5.same.mono (by omega) (by omega) }
  obtain ⟨t, a1, b1⟩ := k S.heap q ce f1' f2' ⟨Nat.le_trans hS.1 f1', fun q h1 h2 => (f2' q (Nat.lt_of_lt_of_le h1 hS.1)).trans (hS.2.1 q h1 h2), hS.2.2⟩ hce hv hcl' S rfl X6
  exact ⟨t, st t a1, b1⟩
variable {Q : State → Prop} {cc : ByteArray} {pc : Nat} {ls : Array Slot} {rest : List Value}
theorem vx_idivZ (hexec : p.tables.exec = Jvm.exec) (hb : c.code = cc) {a b : Int32} (h0 : b = 0) (d : decode cc pc = .ok (.idiv, 1)) (k : vx_Note p l e R s m args below meth c H locs cells slots Q (F0 m pc ls rest) "java/lang/ArithmeticException" "/ by zero") :
    W p l e R s m args below meth c H locs cells slots Q (F0 m pc ls (.int b :: .int a :: rest)) := by
  intro T hT X
  obtain ⟨t, st, q⟩ := k T hT X
  exact ⟨t, X.idivZero hexec (g := F0 m pc ls (.int b :: .int a :: rest)) rfl (a := a) (rest := rest) (by rw [h0]) (by rw [hb]; exact d) t st, q⟩
theorem vx_iremZ (hexec : p.tables.exec = Jvm.exec) (hb : c.code = cc) {a b : Int32} (h0 : b = 0) (d : decode cc pc = .ok (.irem, 1)) (k : vx_Note p l e R s m args below meth c H locs cells slots Q (F0 m pc ls rest) "java/lang/ArithmeticException" "/ by zero") :
    W p l e R s m args below meth c H locs cells slots Q (F0 m pc ls (.int b :: .int a :: rest)) := by
  intro T hT X
  obtain ⟨t, st, q⟩ := k T hT X
  exact ⟨t, X.iremZero hexec (g := F0 m pc ls (.int b :: .int a :: rest)) rfl (a := a) (rest := rest) (by rw [h0]) (by rw [hb]; exact d) t st, q⟩
theorem vx_ldivZ (hexec : p.tables.exec = Jvm.exec) (hb : c.code = cc) {a b : Int64} (h0 : b = 0) (d : decode cc pc = .ok (.ldiv, 1)) (k : vx_Note p l e R s m args below meth c H locs cells slots Q (F0 m pc ls rest) "java/lang/ArithmeticException" "/ by zero") :
    W p l e R s m args below meth c H locs cells slots Q (F0 m pc ls (.long b :: .long a :: rest)) := by
  intro T hT X
  obtain ⟨t, st, q⟩ := k T hT X
  exact ⟨t, X.ldivZero hexec (g := F0 m pc ls (.long b :: .long a :: rest)) rfl (a := a) (rest := rest) (by rw [h0]) (by rw [hb]; exact d) t st, q⟩
theorem vx_lremZ (hexec : p.tables.exec = Jvm.exec) (hb : c.code = cc) {a b : Int64} (h0 : b = 0) (d : decode cc pc = .ok (.lrem, 1)) (k : vx_Note p l e R s m args below meth c H locs cells slots Q (F0 m pc ls rest) "java/lang/ArithmeticException" "/ by zero") :
    W p l e R s m args below meth c H locs cells slots Q (F0 m pc ls (.long b :: .long a :: rest)) := by
  intro T hT X
  obtain ⟨t, st, q⟩ := k T hT X
  exact ⟨t, X.lremZero hexec (g := F0 m pc ls (.long b :: .long a :: rest)) rfl (a := a) (rest := rest) (by rw [h0]) (by rw [hb]; exact d) t st, q⟩
theorem vx_ialdZ {D : va_G} {cl : List vw_C} {ws : va_W} {tys : List (ClassId × FieldType)} {a : Nat} (hexec : p.tables.exec = Jvm.exec) (hb : c.code = cc) (hK : va_K D cl tys s) (hP : va_P D cl ws H) (q0 t0 : Nat) {cA : ClassId} {n : Nat} {f : Nat → Int32} (ha : ws[q0]? = some (a, .inl (cA, n, .inl f))) (ht : tys[t0]? = some (cA, .int)) {i : Int32} (hout : ¬ vp_in i n) (hdg : decode cc pc = .ok (.iaload, 1))
    (k : ∀ tx : String, tx = (toString "Index " ++ toString i ++ toString " out of bounds for length " ++ toString n : String) → vx_Note p l e R s m args below meth c H locs cells slots Q (F0 m pc ls rest) "java/lang/ArrayIndexOutOfBoundsException" tx) : W p l e R s m args below meth c H locs cells slots Q (F0 m pc ls (.int i :: .ref a :: rest)) := by
  intro T hT X
  obtain ⟨t, st, q⟩ := k _ rfl T hT X
  refine ⟨t, ?_, q⟩
  have h1 := X.ialoadOut hexec (by rw [hT]; exact hP q0 _ ha) ((hK.2 t0 _ ht).1 n (fun j => .int (f j))) (j := i) (by show (i < 0 ∨ (arrV _ _ _).slots.size ≤ _); rw [arrV_size]; exact Classical.byContradiction hout) (g := F0 m pc ls (.int i :: .ref a :: rest)) rfl (rest := rest) rfl (by rw [hb]; exact hdg) t
  simp only [arrV_size] at h1
  exact h1 st
theorem vx_iastZ {D : va_G} {cl : List vw_C} {ws : va_W} {tys : List (ClassId × FieldType)} {a : Nat} (hexec : p.tables.exec = Jvm.exec) (hb : c.code = cc) (hK : va_K D cl tys s) (hP : va_P D cl ws H) (q0 t0 : Nat) {cA : ClassId} {n : Nat} {f : Nat → Int32} (ha : ws[q0]? = some (a, .inl (cA, n, .inl f))) (ht : tys[t0]? = some (cA, .int)) {i : Int32} {x : Int32} (hout : ¬ vp_in i n) (hdg : decode cc pc = .ok (.iastore, 1))
    (k : ∀ tx : String, tx = (toString "Index " ++ toString i ++ toString " out of bounds for length " ++ toString n : String) → vx_Note p l e R s m args below meth c H locs cells slots Q (F0 m pc ls rest) "java/lang/ArrayIndexOutOfBoundsException" tx) : W p l e R s m args below meth c H locs cells slots Q (F0 m pc ls (.int x :: .int i :: .ref a :: rest)) := by
  intro T hT X
  obtain ⟨t, st, q⟩ := k _ rfl T hT X
  refine ⟨t, ?_, q⟩
  have h1 := X.iastoreOut hexec (by rw [hT]; exact hP q0 _ ha) ((hK.2 t0 _ ht).1 n (fun j => .int (f j))) (j := i) (by show (i < 0 ∨ (arrV _ _ _).slots.size ≤ _); rw [arrV_size]; exact Classical.byContradiction hout) (g := F0 m pc ls (.int x :: .int i :: .ref a :: rest)) rfl (rest := rest) rfl (by rw [hb]; exact hdg) t
  simp only [arrV_size] at h1
  exact h1 st
theorem vx_baldZ {D : va_G} {cl : List vw_C} {ws : va_W} {tys : List (ClassId × FieldType)} {a : Nat} (hexec : p.tables.exec = Jvm.exec) (hb : c.code = cc) (hK : va_K D cl tys s) (hP : va_P D cl ws H) (q0 t0 : Nat) {cA : ClassId} {n : Nat} {f : Nat → Int32} (ha : ws[q0]? = some (a, .inl (cA, n, .inl f))) (ht : tys[t0]? = some (cA, .byte)) {i : Int32} (hout : ¬ vp_in i n) (hdg : decode cc pc = .ok (.baload, 1))
    (k : ∀ tx : String, tx = (toString "Index " ++ toString i ++ toString " out of bounds for length " ++ toString n : String) → vx_Note p l e R s m args below meth c H locs cells slots Q (F0 m pc ls rest) "java/lang/ArrayIndexOutOfBoundsException" tx) : W p l e R s m args below meth c H locs cells slots Q (F0 m pc ls (.int i :: .ref a :: rest)) := by
  intro T hT X
  obtain ⟨t, st, q⟩ := k _ rfl T hT X
  refine ⟨t, ?_, q⟩
  have h1 := X.baloadOut hexec (by rw [hT]; exact hP q0 _ ha) ((hK.2 t0 _ ht).1 n (fun j => .int (f j))) (j := i) (by show (i < 0 ∨ (arrV _ _ _).slots.size ≤ _); rw [arrV_size]; exact Classical.byContradiction hout) (g := F0 m pc ls (.int i :: .ref a :: rest)) rfl (rest := rest) rfl (by rw [hb]; exact hdg) t
  simp only [arrV_size] at h1
  exact h1 st
theorem vx_bastZ {D : va_G} {cl : List vw_C} {ws : va_W} {tys : List (ClassId × FieldType)} {a : Nat} (hexec : p.tables.exec = Jvm.exec) (hb : c.code = cc) (hK : va_K D cl tys s) (hP : va_P D cl ws H) (q0 t0 : Nat) {cA : ClassId} {n : Nat} {f : Nat → Int32} (ha : ws[q0]? = some (a, .inl (cA, n, .inl f))) (ht : tys[t0]? = some (cA, .byte)) {i : Int32} {x : Int32} (hout : ¬ vp_in i n) (hdg : decode cc pc = .ok (.bastore, 1))
    (k : ∀ tx : String, tx = (toString "Index " ++ toString i ++ toString " out of bounds for length " ++ toString n : String) → vx_Note p l e R s m args below meth c H locs cells slots Q (F0 m pc ls rest) "java/lang/ArrayIndexOutOfBoundsException" tx) : W p l e R s m args below meth c H locs cells slots Q (F0 m pc ls (.int x :: .int i :: .ref a :: rest)) := by
  intro T hT X
  obtain ⟨t, st, q⟩ := k _ rfl T hT X
  refine ⟨t, ?_, q⟩
  have h1 := X.bastoreOut hexec (by rw [hT]; exact hP q0 _ ha) ((hK.2 t0 _ ht).1 n (fun j => .int (f j))) (j := i) (by show (i < 0 ∨ (arrV _ _ _).slots.size ≤ _); rw [arrV_size]; exact Classical.byContradiction hout) (g := F0 m pc ls (.int x :: .int i :: .ref a :: rest)) rfl (rest := rest) rfl (by rw [hb]; exact hdg) t
  simp only [arrV_size] at h1
  exact h1 st
theorem vx_zaldZ {D : va_G} {cl : List vw_C} {ws : va_W} {tys : List (ClassId × FieldType)} {a : Nat} (hexec : p.tables.exec = Jvm.exec) (hb : c.code = cc) (hK : va_K D cl tys s) (hP : va_P D cl ws H) (q0 t0 : Nat) {cA : ClassId} {n : Nat} {f : Nat → Int32} (ha : ws[q0]? = some (a, .inl (cA, n, .inl f))) (ht : tys[t0]? = some (cA, .boolean)) {i : Int32} (hout : ¬ vp_in i n) (hdg : decode cc pc = .ok (.baload, 1))
    (k : ∀ tx : String, tx = (toString "Index " ++ toString i ++ toString " out of bounds for length " ++ toString n : String) → vx_Note p l e R s m args below meth c H locs cells slots Q (F0 m pc ls rest) "java/lang/ArrayIndexOutOfBoundsException" tx) : W p l e R s m args below meth c H locs cells slots Q (F0 m pc ls (.int i :: .ref a :: rest)) := by
  intro T hT X
  obtain ⟨t, st, q⟩ := k _ rfl T hT X
  refine ⟨t, ?_, q⟩
  have h1 := X.baloadOut hexec (by rw [hT]; exact hP q0 _ ha) ((hK.2 t0 _ ht).1 n (fun j => .int (f j))) (j := i) (by show (i < 0 ∨ (arrV _ _ _).slots.size ≤ _); rw [arrV_size]; exact Classical.byContradiction hout) (g := F0 m pc ls (.int i :: .ref a :: rest)) rfl (rest := rest) rfl (by rw [hb]; exact hdg) t
  simp only [arrV_size] at h1
  exact h1 st
theorem vx_zastZ {D : va_G} {cl : List vw_C} {ws : va_W} {tys : List (ClassId × FieldType)} {a : Nat} (hexec : p.tables.exec = Jvm.exec) (hb : c.code = cc) (hK : va_K D cl tys s) (hP : va_P D cl ws H) (q0 t0 : Nat) {cA : ClassId} {n : Nat} {f : Nat → Int32} (ha : ws[q0]? = some (a, .inl (cA, n, .inl f))) (ht : tys[t0]? = some (cA, .boolean)) {i : Int32} {x : Int32} (hout : ¬ vp_in i n) (hdg : decode cc pc = .ok (.bastore, 1))
    (k : ∀ tx : String, tx = (toString "Index " ++ toString i ++ toString " out of bounds for length " ++ toString n : String) → vx_Note p l e R s m args below meth c H locs cells slots Q (F0 m pc ls rest) "java/lang/ArrayIndexOutOfBoundsException" tx) : W p l e R s m args below meth c H locs cells slots Q (F0 m pc ls (.int x :: .int i :: .ref a :: rest)) := by
  intro T hT X
  obtain ⟨t, st, q⟩ := k _ rfl T hT X
  refine ⟨t, ?_, q⟩
  have h1 := X.bastoreOut hexec (by rw [hT]; exact hP q0 _ ha) ((hK.2 t0 _ ht).1 n (fun j => .int (f j))) (j := i) (by show (i < 0 ∨ (arrV _ _ _).slots.size ≤ _); rw [arrV_size]; exact Classical.byContradiction hout) (g := F0 m pc ls (.int x :: .int i :: .ref a :: rest)) rfl (rest := rest) rfl (by rw [hb]; exact hdg) t
  simp only [arrV_size] at h1
  exact h1 st
theorem vx_caldZ {D : va_G} {cl : List vw_C} {ws : va_W} {tys : List (ClassId × FieldType)} {a : Nat} (hexec : p.tables.exec = Jvm.exec) (hb : c.code = cc) (hK : va_K D cl tys s) (hP : va_P D cl ws H) (q0 t0 : Nat) {cA : ClassId} {n : Nat} {f : Nat → Int32} (ha : ws[q0]? = some (a, .inl (cA, n, .inl f))) (ht : tys[t0]? = some (cA, .char)) {i : Int32} (hout : ¬ vp_in i n) (hdg : decode cc pc = .ok (.caload, 1))
    (k : ∀ tx : String, tx = (toString "Index " ++ toString i ++ toString " out of bounds for length " ++ toString n : String) → vx_Note p l e R s m args below meth c H locs cells slots Q (F0 m pc ls rest) "java/lang/ArrayIndexOutOfBoundsException" tx) : W p l e R s m args below meth c H locs cells slots Q (F0 m pc ls (.int i :: .ref a :: rest)) := by
  intro T hT X
  obtain ⟨t, st, q⟩ := k _ rfl T hT X
  refine ⟨t, ?_, q⟩
  have h1 := X.caloadOut hexec (by rw [hT]; exact hP q0 _ ha) ((hK.2 t0 _ ht).1 n (fun j => .int (f j))) (j := i) (by show (i < 0 ∨ (arrV _ _ _).slots.size ≤ _); rw [arrV_size]; exact Classical.byContradiction hout) (g := F0 m pc ls (.int i :: .ref a :: rest)) rfl (rest := rest) rfl (by rw [hb]; exact hdg) t
  simp only [arrV_size] at h1
  exact h1 st
theorem vx_castZ {D : va_G} {cl : List vw_C} {ws : va_W} {tys : List (ClassId × FieldType)} {a : Nat} (hexec : p.tables.exec = Jvm.exec) (hb : c.code = cc) (hK : va_K D cl tys s) (hP : va_P D cl ws H) (q0 t0 : Nat) {cA : ClassId} {n : Nat} {f : Nat → Int32} (ha : ws[q0]? = some (a, .inl (cA, n, .inl f))) (ht : tys[t0]? = some (cA, .char)) {i : Int32} {x : Int32} (hout : ¬ vp_in i n) (hdg : decode cc pc = .ok (.castore, 1))
    (k : ∀ tx : String, tx = (toString "Index " ++ toString i ++ toString " out of bounds for length " ++ toString n : String) → vx_Note p l e R s m args below meth c H locs cells slots Q (F0 m pc ls rest) "java/lang/ArrayIndexOutOfBoundsException" tx) : W p l e R s m args below meth c H locs cells slots Q (F0 m pc ls (.int x :: .int i :: .ref a :: rest)) := by
  intro T hT X
  obtain ⟨t, st, q⟩ := k _ rfl T hT X
  refine ⟨t, ?_, q⟩
  have h1 := X.castoreOut hexec (by rw [hT]; exact hP q0 _ ha) ((hK.2 t0 _ ht).1 n (fun j => .int (f j))) (j := i) (by show (i < 0 ∨ (arrV _ _ _).slots.size ≤ _); rw [arrV_size]; exact Classical.byContradiction hout) (g := F0 m pc ls (.int x :: .int i :: .ref a :: rest)) rfl (rest := rest) rfl (by rw [hb]; exact hdg) t
  simp only [arrV_size] at h1
  exact h1 st
theorem vx_saldZ {D : va_G} {cl : List vw_C} {ws : va_W} {tys : List (ClassId × FieldType)} {a : Nat} (hexec : p.tables.exec = Jvm.exec) (hb : c.code = cc) (hK : va_K D cl tys s) (hP : va_P D cl ws H) (q0 t0 : Nat) {cA : ClassId} {n : Nat} {f : Nat → Int32} (ha : ws[q0]? = some (a, .inl (cA, n, .inl f))) (ht : tys[t0]? = some (cA, .short)) {i : Int32} (hout : ¬ vp_in i n) (hdg : decode cc pc = .ok (.saload, 1))
    (k : ∀ tx : String, tx = (toString "Index " ++ toString i ++ toString " out of bounds for length " ++ toString n : String) → vx_Note p l e R s m args below meth c H locs cells slots Q (F0 m pc ls rest) "java/lang/ArrayIndexOutOfBoundsException" tx) : W p l e R s m args below meth c H locs cells slots Q (F0 m pc ls (.int i :: .ref a :: rest)) := by
  intro T hT X
  obtain ⟨t, st, q⟩ := k _ rfl T hT X
  refine ⟨t, ?_, q⟩
  have h1 := X.saloadOut hexec (by rw [hT]; exact hP q0 _ ha) ((hK.2 t0 _ ht).1 n (fun j => .int (f j))) (j := i) (by show (i < 0 ∨ (arrV _ _ _).slots.size ≤ _); rw [arrV_size]; exact Classical.byContradiction hout) (g := F0 m pc ls (.int i :: .ref a :: rest)) rfl (rest := rest) rfl (by rw [hb]; exact hdg) t
  simp only [arrV_size] at h1
  exact h1 st
theorem vx_sastZ {D : va_G} {cl : List vw_C} {ws : va_W} {tys : List (ClassId × FieldType)} {a : Nat} (hexec : p.tables.exec = Jvm.exec) (hb : c.code = cc) (hK : va_K D cl tys s) (hP : va_P D cl ws H) (q0 t0 : Nat) {cA : ClassId} {n : Nat} {f : Nat → Int32} (ha : ws[q0]? = some (a, .inl (cA, n, .inl f))) (ht : tys[t0]? = some (cA, .short)) {i : Int32} {x : Int32} (hout : ¬ vp_in i n) (hdg : decode cc pc = .ok (.sastore, 1))
    (k : ∀ tx : String, tx = (toString "Index " ++ toString i ++ toString " out of bounds for length " ++ toString n : String) → vx_Note p l e R s m args below meth c H locs cells slots Q (F0 m pc ls rest) "java/lang/ArrayIndexOutOfBoundsException" tx) : W p l e R s m args below meth c H locs cells slots Q (F0 m pc ls (.int x :: .int i :: .ref a :: rest)) := by
  intro T hT X
  obtain ⟨t, st, q⟩ := k _ rfl T hT X
  refine ⟨t, ?_, q⟩
  have h1 := X.sastoreOut hexec (by rw [hT]; exact hP q0 _ ha) ((hK.2 t0 _ ht).1 n (fun j => .int (f j))) (j := i) (by show (i < 0 ∨ (arrV _ _ _).slots.size ≤ _); rw [arrV_size]; exact Classical.byContradiction hout) (g := F0 m pc ls (.int x :: .int i :: .ref a :: rest)) rfl (rest := rest) rfl (by rw [hb]; exact hdg) t
  simp only [arrV_size] at h1
  exact h1 st
theorem vx_laldZ {D : va_G} {cl : List vw_C} {ws : va_W} {tys : List (ClassId × FieldType)} {a : Nat} (hexec : p.tables.exec = Jvm.exec) (hb : c.code = cc) (hK : va_K D cl tys s) (hP : va_P D cl ws H) (q0 t0 : Nat) {cA : ClassId} {n : Nat} {f : Nat → Int64} (ha : ws[q0]? = some (a, .inl (cA, n, .inr (.inl f)))) (ht : tys[t0]? = some (cA, .long)) {i : Int32} (hout : ¬ vp_in i n) (hdg : decode cc pc = .ok (.laload, 1))
    (k : ∀ tx : String, tx = (toString "Index " ++ toString i ++ toString " out of bounds for length " ++ toString n : String) → vx_Note p l e R s m args below meth c H locs cells slots Q (F0 m pc ls rest) "java/lang/ArrayIndexOutOfBoundsException" tx) : W p l e R s m args below meth c H locs cells slots Q (F0 m pc ls (.int i :: .ref a :: rest)) := by
  intro T hT X
  obtain ⟨t, st, q⟩ := k _ rfl T hT X
  refine ⟨t, ?_, q⟩
  have h1 := X.laloadOut hexec (by rw [hT]; exact hP q0 _ ha) ((hK.2 t0 _ ht).1 n (fun j => .long (f j))) (j := i) (by show (i < 0 ∨ (arrV _ _ _).slots.size ≤ _); rw [arrV_size]; exact Classical.byContradiction hout) (g := F0 m pc ls (.int i :: .ref a :: rest)) rfl (rest := rest) rfl (by rw [hb]; exact hdg) t
  simp only [arrV_size] at h1
  exact h1 st
theorem vx_lastZ {D : va_G} {cl : List vw_C} {ws : va_W} {tys : List (ClassId × FieldType)} {a : Nat} (hexec : p.tables.exec = Jvm.exec) (hb : c.code = cc) (hK : va_K D cl tys s) (hP : va_P D cl ws H) (q0 t0 : Nat) {cA : ClassId} {n : Nat} {f : Nat → Int64} (ha : ws[q0]? = some (a, .inl (cA, n, .inr (.inl f)))) (ht : tys[t0]? = some (cA, .long)) {i : Int32} {x : Int64} (hout : ¬ vp_in i n) (hdg : decode cc pc = .ok (.lastore, 1))
    (k : ∀ tx : String, tx = (toString "Index " ++ toString i ++ toString " out of bounds for length " ++ toString n : String) → vx_Note p l e R s m args below meth c H locs cells slots Q (F0 m pc ls rest) "java/lang/ArrayIndexOutOfBoundsException" tx) : W p l e R s m args below meth c H locs cells slots Q (F0 m pc ls (.long x :: .int i :: .ref a :: rest)) := by
  intro T hT X
  obtain ⟨t, st, q⟩ := k _ rfl T hT X
  refine ⟨t, ?_, q⟩
  have h1 := X.lastoreOut hexec (by rw [hT]; exact hP q0 _ ha) ((hK.2 t0 _ ht).1 n (fun j => .long (f j))) (j := i) (by show (i < 0 ∨ (arrV _ _ _).slots.size ≤ _); rw [arrV_size]; exact Classical.byContradiction hout) (g := F0 m pc ls (.long x :: .int i :: .ref a :: rest)) rfl (rest := rest) rfl (by rw [hb]; exact hdg) t
  simp only [arrV_size] at h1
  exact h1 st
theorem vx_faldZ {D : va_G} {cl : List vw_C} {ws : va_W} {tys : List (ClassId × FieldType)} {a : Nat} (hexec : p.tables.exec = Jvm.exec) (hb : c.code = cc) (hK : va_K D cl tys s) (hP : va_P D cl ws H) (q0 t0 : Nat) {cA : ClassId} {n : Nat} {f : Nat → UInt32} (ha : ws[q0]? = some (a, .inl (cA, n, .inr (.inr (.inl f))))) (ht : tys[t0]? = some (cA, .float)) {i : Int32} (hout : ¬ vp_in i n) (hdg : decode cc pc = .ok (.faload, 1))
    (k : ∀ tx : String, tx = (toString "Index " ++ toString i ++ toString " out of bounds for length " ++ toString n : String) → vx_Note p l e R s m args below meth c H locs cells slots Q (F0 m pc ls rest) "java/lang/ArrayIndexOutOfBoundsException" tx) : W p l e R s m args below meth c H locs cells slots Q (F0 m pc ls (.int i :: .ref a :: rest)) := by
  intro T hT X
  obtain ⟨t, st, q⟩ := k _ rfl T hT X
  refine ⟨t, ?_, q⟩
  have h1 := X.faloadOut hexec (by rw [hT]; exact hP q0 _ ha) ((hK.2 t0 _ ht).1 n (fun j => .float (f j))) (j := i) (by show (i < 0 ∨ (arrV _ _ _).slots.size ≤ _); rw [arrV_size]; exact Classical.byContradiction hout) (g := F0 m pc ls (.int i :: .ref a :: rest)) rfl (rest := rest) rfl (by rw [hb]; exact hdg) t
  simp only [arrV_size] at h1
  exact h1 st
theorem vx_fastZ {D : va_G} {cl : List vw_C} {ws : va_W} {tys : List (ClassId × FieldType)} {a : Nat} (hexec : p.tables.exec = Jvm.exec) (hb : c.code = cc) (hK : va_K D cl tys s) (hP : va_P D cl ws H) (q0 t0 : Nat) {cA : ClassId} {n : Nat} {f : Nat → UInt32} (ha : ws[q0]? = some (a, .inl (cA, n, .inr (.inr (.inl f))))) (ht : tys[t0]? = some (cA, .float)) {i : Int32} {x : UInt32} (hout : ¬ vp_in i n) (hdg : decode cc pc = .ok (.fastore, 1))
    (k : ∀ tx : String, tx = (toString "Index " ++ toString i ++ toString " out of bounds for length " ++ toString n : String) → vx_Note p l e R s m args below meth c H locs cells slots Q (F0 m pc ls rest) "java/lang/ArrayIndexOutOfBoundsException" tx) : W p l e R s m args below meth c H locs cells slots Q (F0 m pc ls (.float x :: .int i :: .ref a :: rest)) := by
  intro T hT X
  obtain ⟨t, st, q⟩ := k _ rfl T hT X
  refine ⟨t, ?_, q⟩
  have h1 := X.fastoreOut hexec (by rw [hT]; exact hP q0 _ ha) ((hK.2 t0 _ ht).1 n (fun j => .float (f j))) (j := i) (by show (i < 0 ∨ (arrV _ _ _).slots.size ≤ _); rw [arrV_size]; exact Classical.byContradiction hout) (g := F0 m pc ls (.float x :: .int i :: .ref a :: rest)) rfl (rest := rest) rfl (by rw [hb]; exact hdg) t
  simp only [arrV_size] at h1
  exact h1 st
theorem vx_daldZ {D : va_G} {cl : List vw_C} {ws : va_W} {tys : List (ClassId × FieldType)} {a : Nat} (hexec : p.tables.exec = Jvm.exec) (hb : c.code = cc) (hK : va_K D cl tys s) (hP : va_P D cl ws H) (q0 t0 : Nat) {cA : ClassId} {n : Nat} {f : Nat → UInt64} (ha : ws[q0]? = some (a, .inl (cA, n, .inr (.inr (.inr (.inl f)))))) (ht : tys[t0]? = some (cA, .double)) {i : Int32} (hout : ¬ vp_in i n) (hdg : decode cc pc = .ok (.daload, 1))
    (k : ∀ tx : String, tx = (toString "Index " ++ toString i ++ toString " out of bounds for length " ++ toString n : String) → vx_Note p l e R s m args below meth c H locs cells slots Q (F0 m pc ls rest) "java/lang/ArrayIndexOutOfBoundsException" tx) : W p l e R s m args below meth c H locs cells slots Q (F0 m pc ls (.int i :: .ref a :: rest)) := by
  intro T hT X
  obtain ⟨t, st, q⟩ := k _ rfl T hT X
  refine ⟨t, ?_, q⟩
  have h1 := X.daloadOut hexec (by rw [hT]; exact hP q0 _ ha) ((hK.2 t0 _ ht).1 n (fun j => .double (f j))) (j := i) (by show (i < 0 ∨ (arrV _ _ _).slots.size ≤ _); rw [arrV_size]; exact Classical.byContradiction hout) (g := F0 m pc ls (.int i :: .ref a :: rest)) rfl (rest := rest) rfl (by rw [hb]; exact hdg) t
  simp only [arrV_size] at h1
  exact h1 st
theorem vx_dastZ {D : va_G} {cl : List vw_C} {ws : va_W} {tys : List (ClassId × FieldType)} {a : Nat} (hexec : p.tables.exec = Jvm.exec) (hb : c.code = cc) (hK : va_K D cl tys s) (hP : va_P D cl ws H) (q0 t0 : Nat) {cA : ClassId} {n : Nat} {f : Nat → UInt64} (ha : ws[q0]? = some (a, .inl (cA, n, .inr (.inr (.inr (.inl f)))))) (ht : tys[t0]? = some (cA, .double)) {i : Int32} {x : UInt64} (hout : ¬ vp_in i n) (hdg : decode cc pc = .ok (.dastore, 1))
    (k : ∀ tx : String, tx = (toString "Index " ++ toString i ++ toString " out of bounds for length " ++ toString n : String) → vx_Note p l e R s m args below meth c H locs cells slots Q (F0 m pc ls rest) "java/lang/ArrayIndexOutOfBoundsException" tx) : W p l e R s m args below meth c H locs cells slots Q (F0 m pc ls (.double x :: .int i :: .ref a :: rest)) := by
  intro T hT X
  obtain ⟨t, st, q⟩ := k _ rfl T hT X
  refine ⟨t, ?_, q⟩
  have h1 := X.dastoreOut hexec (by rw [hT]; exact hP q0 _ ha) ((hK.2 t0 _ ht).1 n (fun j => .double (f j))) (j := i) (by show (i < 0 ∨ (arrV _ _ _).slots.size ≤ _); rw [arrV_size]; exact Classical.byContradiction hout) (g := F0 m pc ls (.double x :: .int i :: .ref a :: rest)) rfl (rest := rest) rfl (by rw [hb]; exact hdg) t
  simp only [arrV_size] at h1
  exact h1 st
theorem vx_arraylengthN (hexec : p.tables.exec = Jvm.exec) (hb : c.code = cc) (hdg : decode cc pc = .ok (.arraylength, 1)) (k : vx_NoteN p l e R s m args below meth c H locs cells slots Q (F0 m pc ls rest)) : W p l e R s m args below meth c H locs cells slots Q (F0 m pc ls (.null :: rest)) := by
  intro T hT X
  obtain ⟨t, st, q⟩ := k T hT X
  exact ⟨t, X.arraylengthNull hexec (g := F0 m pc ls (.null :: rest)) rfl (rest := rest) rfl (by rw [hb]; exact hdg) t st, q⟩
theorem vx_ialoadN (hexec : p.tables.exec = Jvm.exec) (hb : c.code = cc) {i : Int32} (hdg : decode cc pc = .ok (.iaload, 1)) (k : vx_NoteN p l e R s m args below meth c H locs cells slots Q (F0 m pc ls rest)) : W p l e R s m args below meth c H locs cells slots Q (F0 m pc ls (.int i :: .null :: rest)) := by
  intro T hT X
  obtain ⟨t, st, q⟩ := k T hT X
  exact ⟨t, X.ialoadNull hexec (g := F0 m pc ls (.int i :: .null :: rest)) rfl (rest := rest) rfl (by rw [hb]; exact hdg) t st, q⟩
theorem vx_laloadN (hexec : p.tables.exec = Jvm.exec) (hb : c.code = cc) {i : Int32} (hdg : decode cc pc = .ok (.laload, 1)) (k : vx_NoteN p l e R s m args below meth c H locs cells slots Q (F0 m pc ls rest)) : W p l e R s m args below meth c H locs cells slots Q (F0 m pc ls (.int i :: .null :: rest)) := by
  intro T hT X
  obtain ⟨t, st, q⟩ := k T hT X
  exact ⟨t, X.laloadNull hexec (g := F0 m pc ls (.int i :: .null :: rest)) rfl (rest := rest) rfl (by rw [hb]; exact hdg) t st, q⟩
theorem vx_faloadN (hexec : p.tables.exec = Jvm.exec) (hb : c.code = cc) {i : Int32} (hdg : decode cc pc = .ok (.faload, 1)) (k : vx_NoteN p l e R s m args below meth c H locs cells slots Q (F0 m pc ls rest)) : W p l e R s m args below meth c H locs cells slots Q (F0 m pc ls (.int i :: .null :: rest)) := by
  intro T hT X
  obtain ⟨t, st, q⟩ := k T hT X
  exact ⟨t, X.faloadNull hexec (g := F0 m pc ls (.int i :: .null :: rest)) rfl (rest := rest) rfl (by rw [hb]; exact hdg) t st, q⟩
theorem vx_daloadN (hexec : p.tables.exec = Jvm.exec) (hb : c.code = cc) {i : Int32} (hdg : decode cc pc = .ok (.daload, 1)) (k : vx_NoteN p l e R s m args below meth c H locs cells slots Q (F0 m pc ls rest)) : W p l e R s m args below meth c H locs cells slots Q (F0 m pc ls (.int i :: .null :: rest)) := by
  intro T hT X
  obtain ⟨t, st, q⟩ := k T hT X
  exact ⟨t, X.daloadNull hexec (g := F0 m pc ls (.int i :: .null :: rest)) rfl (rest := rest) rfl (by rw [hb]; exact hdg) t st, q⟩
theorem vx_aaloadN (hexec : p.tables.exec = Jvm.exec) (hb : c.code = cc) {i : Int32} (hdg : decode cc pc = .ok (.aaload, 1)) (k : vx_NoteN p l e R s m args below meth c H locs cells slots Q (F0 m pc ls rest)) : W p l e R s m args below meth c H locs cells slots Q (F0 m pc ls (.int i :: .null :: rest)) := by
  intro T hT X
  obtain ⟨t, st, q⟩ := k T hT X
  exact ⟨t, X.aaloadNull hexec (g := F0 m pc ls (.int i :: .null :: rest)) rfl (rest := rest) rfl (by rw [hb]; exact hdg) t st, q⟩
theorem vx_baloadN (hexec : p.tables.exec = Jvm.exec) (hb : c.code = cc) {i : Int32} (hdg : decode cc pc = .ok (.baload, 1)) (k : vx_NoteN p l e R s m args below meth c H locs cells slots Q (F0 m pc ls rest)) : W p l e R s m args below meth c H locs cells slots Q (F0 m pc ls (.int i :: .null :: rest)) := by
  intro T hT X
  obtain ⟨t, st, q⟩ := k T hT X
  exact ⟨t, X.baloadNull hexec (g := F0 m pc ls (.int i :: .null :: rest)) rfl (rest := rest) rfl (by rw [hb]; exact hdg) t st, q⟩
theorem vx_caloadN (hexec : p.tables.exec = Jvm.exec) (hb : c.code = cc) {i : Int32} (hdg : decode cc pc = .ok (.caload, 1)) (k : vx_NoteN p l e R s m args below meth c H locs cells slots Q (F0 m pc ls rest)) : W p l e R s m args below meth c H locs cells slots Q (F0 m pc ls (.int i :: .null :: rest)) := by
  intro T hT X
  obtain ⟨t, st, q⟩ := k T hT X
  exact ⟨t, X.caloadNull hexec (g := F0 m pc ls (.int i :: .null :: rest)) rfl (rest := rest) rfl (by rw [hb]; exact hdg) t st, q⟩
theorem vx_saloadN (hexec : p.tables.exec = Jvm.exec) (hb : c.code = cc) {i : Int32} (hdg : decode cc pc = .ok (.saload, 1)) (k : vx_NoteN p l e R s m args below meth c H locs cells slots Q (F0 m pc ls rest)) : W p l e R s m args below meth c H locs cells slots Q (F0 m pc ls (.int i :: .null :: rest)) := by
  intro T hT X
  obtain ⟨t, st, q⟩ := k T hT X
  exact ⟨t, X.saloadNull hexec (g := F0 m pc ls (.int i :: .null :: rest)) rfl (rest := rest) rfl (by rw [hb]; exact hdg) t st, q⟩
theorem vx_iastoreN (hexec : p.tables.exec = Jvm.exec) (hb : c.code = cc) {x : Int32} {i : Int32} (hdg : decode cc pc = .ok (.iastore, 1)) (k : vx_NoteN p l e R s m args below meth c H locs cells slots Q (F0 m pc ls rest)) : W p l e R s m args below meth c H locs cells slots Q (F0 m pc ls (.int x :: .int i :: .null :: rest)) := by
  intro T hT X
  obtain ⟨t, st, q⟩ := k T hT X
  exact ⟨t, X.iastoreNull hexec (g := F0 m pc ls (.int x :: .int i :: .null :: rest)) rfl (rest := rest) rfl (by rw [hb]; exact hdg) t st, q⟩
theorem vx_lastoreN (hexec : p.tables.exec = Jvm.exec) (hb : c.code = cc) {x : Int64} {i : Int32} (hdg : decode cc pc = .ok (.lastore, 1)) (k : vx_NoteN p l e R s m args below meth c H locs cells slots Q (F0 m pc ls rest)) : W p l e R s m args below meth c H locs cells slots Q (F0 m pc ls (.long x :: .int i :: .null :: rest)) := by
  intro T hT X
  obtain ⟨t, st, q⟩ := k T hT X
  exact ⟨t, X.lastoreNull hexec (g := F0 m pc ls (.long x :: .int i :: .null :: rest)) rfl (rest := rest) rfl (by rw [hb]; exact hdg) t st, q⟩
theorem vx_fastoreN (hexec : p.tables.exec = Jvm.exec) (hb : c.code = cc) {x : UInt32} {i : Int32} (hdg : decode cc pc = .ok (.fastore, 1)) (k : vx_NoteN p l e R s m args below meth c H locs cells slots Q (F0 m pc ls rest)) : W p l e R s m args below meth c H locs cells slots Q (F0 m pc ls (.float x :: .int i :: .null :: rest)) := by
  intro T hT X
  obtain ⟨t, st, q⟩ := k T hT X
  exact ⟨t, X.fastoreNull hexec (g := F0 m pc ls (.float x :: .int i :: .null :: rest)) rfl (rest := rest) rfl (by rw [hb]; exact hdg) t st, q⟩
theorem vx_dastoreN (hexec : p.tables.exec = Jvm.exec) (hb : c.code = cc) {x : UInt64} {i : Int32} (hdg : decode cc pc = .ok (.dastore, 1)) (k : vx_NoteN p l e R s m args below meth c H locs cells slots Q (F0 m pc ls rest)) : W p l e R s m args below meth c H locs cells slots Q (F0 m pc ls (.double x :: .int i :: .null :: rest)) := by
  intro T hT X
  obtain ⟨t, st, q⟩ := k T hT X
  exact ⟨t, X.dastoreNull hexec (g := F0 m pc ls (.double x :: .int i :: .null :: rest)) rfl (rest := rest) rfl (by rw [hb]; exact hdg) t st, q⟩
theorem vx_bastoreN (hexec : p.tables.exec = Jvm.exec) (hb : c.code = cc) {x : Int32} {i : Int32} (hdg : decode cc pc = .ok (.bastore, 1)) (k : vx_NoteN p l e R s m args below meth c H locs cells slots Q (F0 m pc ls rest)) : W p l e R s m args below meth c H locs cells slots Q (F0 m pc ls (.int x :: .int i :: .null :: rest)) := by
  intro T hT X
  obtain ⟨t, st, q⟩ := k T hT X
  exact ⟨t, X.bastoreNull hexec (g := F0 m pc ls (.int x :: .int i :: .null :: rest)) rfl (rest := rest) rfl (by rw [hb]; exact hdg) t st, q⟩
theorem vx_castoreN (hexec : p.tables.exec = Jvm.exec) (hb : c.code = cc) {x : Int32} {i : Int32} (hdg : decode cc pc = .ok (.castore, 1)) (k : vx_NoteN p l e R s m args below meth c H locs cells slots Q (F0 m pc ls rest)) : W p l e R s m args below meth c H locs cells slots Q (F0 m pc ls (.int x :: .int i :: .null :: rest)) := by
  intro T hT X
  obtain ⟨t, st, q⟩ := k T hT X
  exact ⟨t, X.castoreNull hexec (g := F0 m pc ls (.int x :: .int i :: .null :: rest)) rfl (rest := rest) rfl (by rw [hb]; exact hdg) t st, q⟩
theorem vx_sastoreN (hexec : p.tables.exec = Jvm.exec) (hb : c.code = cc) {x : Int32} {i : Int32} (hdg : decode cc pc = .ok (.sastore, 1)) (k : vx_NoteN p l e R s m args below meth c H locs cells slots Q (F0 m pc ls rest)) : W p l e R s m args below meth c H locs cells slots Q (F0 m pc ls (.int x :: .int i :: .null :: rest)) := by
  intro T hT X
  obtain ⟨t, st, q⟩ := k T hT X
  exact ⟨t, X.sastoreNull hexec (g := F0 m pc ls (.int x :: .int i :: .null :: rest)) rfl (rest := rest) rfl (by rw [hb]; exact hdg) t st, q⟩
theorem vx_invokeN {own C : String} {index maxL : Nat} {y : MethodName} {bytes : ByteArray} {ret : Option FieldType} (hexec : p.tables.exec = Jvm.exec) (hb : c.code = cc) (hown : s.vm.findClass own = some m.cls) (hlink : (Cond.methodLink own index y).before args s = true) (hinst : (Cond.instanceMethod y).before args s = true) (hcode : (Cond.code y bytes maxL ret).before args s = true) (hsel : (Cond.selects C y y).before args s = true)
    (hx : y.cls ≠ "java/lang/invoke/MethodHandle" ∧ y.cls ≠ "java/lang/invoke/VarHandle") {As : List Value} (hlen : (parseMethodDescriptor y.desc).map (fun d => d.parameters.length) = some As.length) (hdg : decode cc pc = .ok (.invokevirtual index, 3))
    (k : vx_NoteN p l e R s m args below meth c H locs cells slots Q (F0 m pc ls rest)) {st0 : List Value} (hst : st0 = As.reverse ++ .null :: rest) : W p l e R s m args below meth c H locs cells slots Q (F0 m pc ls st0) := by
  intro T hT X
  obtain ⟨r0, r, hn, hrm, hstR, hsigR⟩ := va_Decl.of hinst hcode
  obtain ⟨c2, r2, m2, q1, q2, q3, q4, kP, hkP, hkPi⟩ := Cond.selects_spec hsel
  cases hn.symm.trans q3
  have hl9 : As.length = r.sig.parameters.length := by
    rw [hsigR] at hlen
    exact (Option.some.inj hlen).symm
  obtain ⟨vm', X1, st1⟩ := X.invokevirtualNull hexec hown hlink hn hrm hstR hkP hkPi hx (g := F0 m pc ls st0) rfl (argsL := As) (rest := rest) hl9 hst (by rw [hb]; exact hdg)
  obtain ⟨t, st, q⟩ := k (T.setVm vm') hT X1
  exact ⟨t, st1 t st, q⟩
theorem vx_newarrayZ {atype : ArrayType} (hexec : p.tables.exec = Jvm.exec) (hb : c.code = cc) {n : Int32} (h0 : n < 0) (hdg : decode cc pc = .ok (.newarray atype, 2)) (k : ∀ tx : String, tx = toString n → vx_Note p l e R s m args below meth c H locs cells slots Q (F0 m pc ls rest) "java/lang/NegativeArraySizeException" tx) : W p l e R s m args below meth c H locs cells slots Q (F0 m pc ls (.int n :: rest)) := by
  intro T hT X
  obtain ⟨t, st, q⟩ := k _ rfl T hT X
  exact ⟨t, X.newarrayNegative hexec (g := F0 m pc ls (.int n :: rest)) rfl h0 (rest := rest) rfl (by rw [hb]; exact hdg) t st, q⟩
end
end VXM
/-! ===== END ===== -/
/-! ===== BEGIN an exception as an object: made, kept, thrown later (no traces kept) ===== -/
section VXK
variable {p : Program} {l : Launch} {e : Env} {R : Room} {s : State} {m₀ : MethodId} {args : Array Value} {below : List Frame} {meth : Method} {c : Code} {W : State} {locs : List Loc} {cells slots : Nat}
set_option maxHeartbeats 1000000 in
theorem vx_ctorMadeS (X : Stand p l e R s m₀ args below meth c W locs cells slots) (hexec : p.tables.exec = Jvm.exec) (htr : e.platform.stackTraces = false) {own cls : String} {names : List String} {ic : Nat}
    (hown : s.vm.findClass own = some m₀.cls) (hcls : Bundle.fit cls = true) (hnames : ∀ n ∈ names, Bundle.fit n = true)
    (h : ∀ a ∈ Bundle.ownAtoms own ic cls names, a.before args s = true)
    (hlocs : ∀ x ∈ locs, ∀ cell, s.heap[x.base]? = some cell → cell.vm.isStatics = false)
    {a : Addr} {cX : ClassId} {kX : Class} (hfoundX : s.vm.findClass cls = some cX) (hkX : s.vm.classes[cX]? = some kX) (hcell : W.heap[a]? = some (freshCell cX kX)) (hnew : s.heap.size ≤ a)
    {msg : Value} (hmsg : msg.isRef = true)
    {g : JFrame} (hg : g.method = m₀) (hsize : g.locals.size = c.maxLocals) {rest : List Value} (hstack : g.stack = msg :: .ref a :: .ref a :: rest)
    (hd6 : decode c.code g.pc = .ok (.invokespecial ic, 3))
    (hRframes : names.length + 3 < R.frames) (hRlocals : 2 * g.monitorRoom + ((Value.ref a :: rest).map fun v => v.category).sum + (13 * (names.length + 1) + 42) ≤ R.locals) :
    ∃ (V : State) (ce : Cell) (L : List Loc), Stand p l e R s m₀ args below meth c (V.setCell a ce) (locs ++ L) cells slots ∧ (∀ y ∈ L, y.base = a) ∧ a < V.heap.size ∧ ce.cls = cX ∧ ce.vm = .none ∧
      ∀ target, Steps p.tables e below ((V.setCell a ce).setTop { g with stack := .ref a :: rest, pc := g.pc + 3 }) target → Steps p.tables e below (W.setTop g) target := by
  have howns : e.platform.frameOwnsMonitors = true := by rw [X.admits.platform]
  have hfin : e.platform.finalization = false := by rw [X.admits.platform]
  have hpl : e.platform.magicAccessors = ({} : Platform).magicAccessors := by rw [X.admits.platform]
  have a' : ∀ x, x ∈ Bundle.ownAtoms own ic cls names → x.holds args s none s [] = true := fun x hx => h x hx
  obtain ⟨T, Z0, L, -, Y⟩ := ThrowableC.of_atoms (args := args) howns hfin hpl (fun x hx => h x (by simp [Bundle.ownAtoms, hx]))
  obtain ⟨Z, M, LZ, LM, hnZ⟩ := Init0T.ofS_atoms (args := args) hpl L Y (fun x hx => h x (by simp [Bundle.ownAtoms, hx]))
  obtain ⟨P1, Ps, hlen, L1, hL, hP1m, hlink1, hlink⟩ := Bundle.chainS (args := args) hpl hnZ names cls hcls hnames (fun x hx => h x (by simp [Bundle.ownAtoms, hx]))
  have hfound : s.vm.findClass cls = some P1.m.cls := findClass_of_methodNamed hP1m
  cases Option.some.inj (hfoundX.symm.trans hfound)
  obtain ⟨c1, kX', hc1, hk, hord, -, -, hn6⟩ := Cond.instantiable_spec (a' (.instantiable cls 6) (by simp [Bundle.ownAtoms]))
  cases Option.some.inj (hc1.symm.trans hfound)
  cases Option.some.inj (hkX.symm.trans hk)
  have hsel0 : selectMethod e.platform s.vm P1.m.cls T.fill0 = .method T.fill0 := by
    obtain ⟨c2, r2, m2, q1, q2, q3, q4, -⟩ := Cond.selects_spec (a' (.selects cls Bundle.tFill0 Bundle.tFill0) (by simp [Bundle.ownAtoms]))
    cases Option.some.inj (q1.symm.trans hfound)
    cases Option.some.inj (q2.symm.trans (State.methodFound?_of_named Y.fill0 (by decide)))
    cases Option.some.inj (q3.symm.trans Y.fill0)
    rw [Launch.admits_selectMethod X.admits]; exact q4
  have hselF : selectMethod e.platform s.vm P1.m.cls T.fill = .method T.fill := by
    obtain ⟨c2, r2, m2, q1, q2, q3, q4, -⟩ := Cond.selects_spec (a' (.selects cls Bundle.tFill Bundle.tFill) (by simp [Bundle.ownAtoms]))
    cases Option.some.inj (q1.symm.trans hfound)
    cases Option.some.inj (q2.symm.trans (State.methodFound?_of_named Y.fill (by decide)))
    cases Option.some.inj (q3.symm.trans Y.fill)
    rw [Launch.admits_selectMethod X.admits]; exact q4
  obtain ⟨cellS0, hcS0, hiss⟩ := Y.statics
  obtain ⟨u0, hu0⟩ := Cond.staticRefV Y.unassigned L.unassignedStatic L.statics hcS0 hiss (a' (.isRef (.static Bundle.tN "UNASSIGNED_STACK" Bundle.steD)) (by simp [Bundle.ownAtoms]))
  obtain ⟨sen, hsen⟩ := Cond.staticRefV Y.sentinel L.sentinelStatic L.statics hcS0 hiss (a' (.isRef (.static Bundle.tN "SUPPRESSED_SENTINEL" Bundle.listD)) (by simp [Bundle.ownAtoms]))
  obtain ⟨ci198, i198, fB, hk198, hg198, ha198, hsB, -, hnB, htB, hffB⟩ := Cond.ownField (t := .object "java/lang/Object") Y.found L.cls (by decide +kernel) (a' (.fieldLink Bundle.tN 198 Bundle.tN "backtrace" "Ljava/lang/Object;") (by simp [Bundle.ownAtoms])) (a' (.lays Bundle.tN Bundle.tN "backtrace" "Ljava/lang/Object;") (by simp [Bundle.ownAtoms])) e.platform hpl
  obtain ⟨cellS, hcS', heS, -, hkeep⟩ := X.same.2.2.2.2.2 T.aS cellS0 hcS0
  have hcellS : W.heap[T.aS]? = some cellS := hcS'
  have hout' : ∀ i, (⟨T.aS, i⟩ : Loc) ∉ locs := fun i hmem => by
    have := hlocs _ hmem cellS0 hcS0
    rw [hiss] at this; cases this
  have hknownS : cellS.vm ≠ .unknown := by
    rw [heS]; intro hu
    rw [show cellS0.vm = .unknown from hu] at hiss
    cases hiss
  have hneS : T.aS ≠ a := Nat.ne_of_lt (Nat.lt_of_lt_of_le (Array.getElem?_eq_some_iff.mp hcS0).1 hnew)
  obtain ⟨iM, hffM⟩ := Y.msg
  obtain ⟨tyC, dC, hdC, hdnC⟩ := Cond.laysAt hfound hk Y.cause (a' (.lays cls Bundle.tN "cause" "Ljava/lang/Throwable;") (by simp [Bundle.ownAtoms]))
  obtain ⟨tyS, dS, hdS, hdnS⟩ := Cond.laysAt hfound hk Y.stack (a' (.lays cls Bundle.tN "stackTrace" Bundle.steD) (by simp [Bundle.ownAtoms]))
  obtain ⟨tyP, dP, hdP, hdnP⟩ := Cond.laysAt hfound hk Y.supp (a' (.lays cls Bundle.tN "suppressedExceptions" Bundle.listD) (by simp [Bundle.ownAtoms]))
  obtain ⟨tyM, dM, hdM, hdnM⟩ := Cond.laysAt hfound hk hffM (a' (.lays cls Bundle.tN "detailMessage" "Ljava/lang/String;") (by simp [Bundle.ownAtoms]))
  obtain ⟨tyB, dB, hdB, hdnB⟩ := Cond.laysAt hfound hk hffB (a' (.lays cls Bundle.tN "backtrace" "Ljava/lang/Object;") (by simp [Bundle.ownAtoms]))
  have bC := Cond.laysApart hdB hdC hdnB hdnC (by rw [hnB, Y.causeName]; decide)
  have bS := Cond.laysApart hdB hdS hdnB hdnS (by rw [hnB, Y.stackName]; decide)
  have bP := Cond.laysApart hdB hdP hdnB hdnP (by rw [hnB, Y.suppName]; decide)
  have hskip : SkipFacts T e.platform s (fun u => u) u0 ((preparedCellV T.toThrowableT (freshCell P1.m.cls kX) a u0 sen).withEntry W.cur) :=
    ⟨{ ci198 := ci198, i198 := i198, fBack := fB }, ⟨hk198, hg198, ha198, hsB⟩, by
      have := fresh_default (c := P1.m.cls) tyB
      rw [htB] at this
      simpa [preparedCellV, Cell.setSlot, Cell.withEntry, Array.getElem?_setIfInBounds, bC, bS, bP, bC.symm, bS.symm, bP.symm, defaultValue] using this, fun _ _ => rfl⟩
  obtain ⟨tm, methC, cdC, kC, vm₁, hnC, -, -, -, -, -, -, -, hW₁, st1⟩ := Steps.initColdS (tb := p.tables) (e := e) (below := below) (s := s) (U := W) X.here hexec X.warmed hpl hown (t := Bundle.initS cls) rfl rfl (Bundle.fit_spec hcls).2
    (a' (.methodLink own ic (Bundle.initS cls)) (by simp [Bundle.ownAtoms])) (h (.instanceMethod (Bundle.initS cls)) (by cases names <;> simp [Bundle.ownAtoms, Bundle.chainSAtoms, Bundle.passSAtoms])) (bytes := Bundle.six) (maxL := 2) (h (.code (Bundle.initS cls) Bundle.six 2 none) (by cases names <;> simp [Bundle.ownAtoms, Bundle.chainSAtoms, Bundle.passSAtoms]))
    (f := g) hg (a := a) (msg := msg) (rest := .ref a :: rest) hstack hd6
  cases Option.some.inj (hnC.symm.trans hP1m)
  have X₁ := X.noted hW₁
  obtain ⟨vm₂, X₂, st2⟩ := X₁.ctorMessageOffV hexec (g := { g with stack := .ref a :: rest }) hg hsize T L Z LZ M LM (P1 :: Ps)
    (fun P hP => by rcases List.mem_cons.mp hP with rfl | hP; exact L1; exact hL P hP) ⟨hlink1, hlink⟩ (u0 := u0) (sen := sen) (self := a) hmsg (cell := freshCell P1.m.cls kX) (cellS := cellS)
    hcell (fun _ => by simp) (by simp) rfl rfl hsel0 hselF hcellS hneS hknownS (by rw [hkeep _ (hout' _)]; exact hu0) (by rw [hkeep _ (hout' _)]; exact hsen)
    (Takes.of_laid hk hord tyC (by rw [Y.causeType]; rfl)) (Takes.of_laid hk hord tyS (by rw [Y.stackType]; exact fits_refV_array _ u0)) (Takes.of_laid hk hord tyP (by rw [Y.suppType]; exact fits_refV_object _ sen))
    (Takes.of_laid hk hord tyM (by rw [Y.msgType]; exact fits_refV_object _ ⟨msg, hmsg⟩)) Y.objLocals hskip htr [] hd6
    (by simp only [List.length_cons, hlen]; omega) (by simp only [List.length_cons, hlen]; exact hRlocals)
  have hlt : a < ((W.setVm vm₁).setVm vm₂).heap.size := (Array.getElem?_eq_some_iff.mp hcell).1
  refine ⟨(W.setVm vm₁).setVm vm₂, _, _, X₂, fun y hy => ?_, hlt, rfl, rfl, fun target hwalk => st1 _ (fun acts => ?_)⟩
  · simp only [List.mem_cons, List.not_mem_nil, or_false] at hy
    rcases hy with rfl | rfl | rfl | rfl | rfl <;> rfl
  · rw [doInvoke_state]
    exact st2 _ hwalk
set_option maxHeartbeats 1000000 in
theorem vx_ctorMade0 (X : Stand p l e R s m₀ args below meth c W locs cells slots) (hexec : p.tables.exec = Jvm.exec) (htr : e.platform.stackTraces = false) {own cls : String} {names : List String} {ic : Nat}
    (hown : s.vm.findClass own = some m₀.cls) (hcls : Bundle.fit cls = true) (hnames : ∀ n ∈ names, Bundle.fit n = true)
    (h : ∀ a ∈ Bundle.ownAtoms0 own ic cls names, a.before args s = true)
    (hlocs : ∀ x ∈ locs, ∀ cell, s.heap[x.base]? = some cell → cell.vm.isStatics = false)
    {a : Addr} {cX : ClassId} {kX : Class} (hfoundX : s.vm.findClass cls = some cX) (hkX : s.vm.classes[cX]? = some kX) (hcell : W.heap[a]? = some (freshCell cX kX)) (hnew : s.heap.size ≤ a)
    {g : JFrame} (hg : g.method = m₀) (hsize : g.locals.size = c.maxLocals) {rest : List Value} (hstack : g.stack = .ref a :: .ref a :: rest)
    (hd6 : decode c.code g.pc = .ok (.invokespecial ic, 3))
    (hRframes : names.length + 3 < R.frames) (hRlocals : 2 * g.monitorRoom + ((Value.ref a :: rest).map fun v => v.category).sum + (13 * (names.length + 1) + 41) ≤ R.locals) :
    ∃ (V : State) (ce : Cell) (L : List Loc), Stand p l e R s m₀ args below meth c (V.setCell a ce) (locs ++ L) cells slots ∧ (∀ y ∈ L, y.base = a) ∧ a < V.heap.size ∧ ce.cls = cX ∧ ce.vm = .none ∧
      ∀ target, Steps p.tables e below ((V.setCell a ce).setTop { g with stack := .ref a :: rest, pc := g.pc + 3 }) target → Steps p.tables e below (W.setTop g) target := by
  have howns : e.platform.frameOwnsMonitors = true := by rw [X.admits.platform]
  have hfin : e.platform.finalization = false := by rw [X.admits.platform]
  have hpl : e.platform.magicAccessors = ({} : Platform).magicAccessors := by rw [X.admits.platform]
  have a' : ∀ x, x ∈ Bundle.ownAtoms0 own ic cls names → x.holds args s none s [] = true := fun x hx => h x hx
  obtain ⟨T, Z, L, LZ, Y⟩ := ThrowableC.of_atoms (args := args) howns hfin hpl (fun x hx => h x (by simp [Bundle.ownAtoms0, hx]))
  obtain ⟨P1, Ps, hlen, L1, hL, hP1m, hlink1, hlink⟩ := Bundle.chain0 (args := args) hpl Y.init0 names cls hcls hnames (fun x hx => h x (by simp [Bundle.ownAtoms0, hx]))
  have hfound : s.vm.findClass cls = some P1.m.cls := findClass_of_methodNamed hP1m
  cases Option.some.inj (hfoundX.symm.trans hfound)
  obtain ⟨c1, kX', hc1, hk, hord, -, -, hn6⟩ := Cond.instantiable_spec (a' (.instantiable cls 6) (by simp [Bundle.ownAtoms0]))
  cases Option.some.inj (hc1.symm.trans hfound)
  cases Option.some.inj (hkX.symm.trans hk)
  have hsel0 : selectMethod e.platform s.vm P1.m.cls T.fill0 = .method T.fill0 := by
    obtain ⟨c2, r2, m2, q1, q2, q3, q4, -⟩ := Cond.selects_spec (a' (.selects cls Bundle.tFill0 Bundle.tFill0) (by simp [Bundle.ownAtoms0]))
    cases Option.some.inj (q1.symm.trans hfound)
    cases Option.some.inj (q2.symm.trans (State.methodFound?_of_named Y.fill0 (by decide)))
    cases Option.some.inj (q3.symm.trans Y.fill0)
    rw [Launch.admits_selectMethod X.admits]; exact q4
  have hselF : selectMethod e.platform s.vm P1.m.cls T.fill = .method T.fill := by
    obtain ⟨c2, r2, m2, q1, q2, q3, q4, -⟩ := Cond.selects_spec (a' (.selects cls Bundle.tFill Bundle.tFill) (by simp [Bundle.ownAtoms0]))
    cases Option.some.inj (q1.symm.trans hfound)
    cases Option.some.inj (q2.symm.trans (State.methodFound?_of_named Y.fill (by decide)))
    cases Option.some.inj (q3.symm.trans Y.fill)
    rw [Launch.admits_selectMethod X.admits]; exact q4
  obtain ⟨cellS0, hcS0, hiss⟩ := Y.statics
  obtain ⟨u0, hu0⟩ := Cond.staticRefV Y.unassigned L.unassignedStatic L.statics hcS0 hiss (a' (.isRef (.static Bundle.tN "UNASSIGNED_STACK" Bundle.steD)) (by simp [Bundle.ownAtoms0]))
  obtain ⟨sen, hsen⟩ := Cond.staticRefV Y.sentinel L.sentinelStatic L.statics hcS0 hiss (a' (.isRef (.static Bundle.tN "SUPPRESSED_SENTINEL" Bundle.listD)) (by simp [Bundle.ownAtoms0]))
  obtain ⟨ci198, i198, fB, hk198, hg198, ha198, hsB, -, hnB, htB, hffB⟩ := Cond.ownField (t := .object "java/lang/Object") Y.found L.cls (by decide +kernel) (a' (.fieldLink Bundle.tN 198 Bundle.tN "backtrace" "Ljava/lang/Object;") (by simp [Bundle.ownAtoms0])) (a' (.lays Bundle.tN Bundle.tN "backtrace" "Ljava/lang/Object;") (by simp [Bundle.ownAtoms0])) e.platform hpl
  obtain ⟨cellS, hcS', heS, -, hkeep⟩ := X.same.2.2.2.2.2 T.aS cellS0 hcS0
  have hcellS : W.heap[T.aS]? = some cellS := hcS'
  have hout' : ∀ i, (⟨T.aS, i⟩ : Loc) ∉ locs := fun i hmem => by
    have := hlocs _ hmem cellS0 hcS0
    rw [hiss] at this; cases this
  have hknownS : cellS.vm ≠ .unknown := by
    rw [heS]; intro hu
    rw [show cellS0.vm = .unknown from hu] at hiss
    cases hiss
  have hneS : T.aS ≠ a := Nat.ne_of_lt (Nat.lt_of_lt_of_le (Array.getElem?_eq_some_iff.mp hcS0).1 hnew)
  obtain ⟨iM, hffM⟩ := Y.msg
  obtain ⟨tyC, dC, hdC, hdnC⟩ := Cond.laysAt hfound hk Y.cause (a' (.lays cls Bundle.tN "cause" "Ljava/lang/Throwable;") (by simp [Bundle.ownAtoms0]))
  obtain ⟨tyS, dS, hdS, hdnS⟩ := Cond.laysAt hfound hk Y.stack (a' (.lays cls Bundle.tN "stackTrace" Bundle.steD) (by simp [Bundle.ownAtoms0]))
  obtain ⟨tyP, dP, hdP, hdnP⟩ := Cond.laysAt hfound hk Y.supp (a' (.lays cls Bundle.tN "suppressedExceptions" Bundle.listD) (by simp [Bundle.ownAtoms0]))
  obtain ⟨tyM, dM, hdM, hdnM⟩ := Cond.laysAt hfound hk hffM (a' (.lays cls Bundle.tN "detailMessage" "Ljava/lang/String;") (by simp [Bundle.ownAtoms0]))
  obtain ⟨tyB, dB, hdB, hdnB⟩ := Cond.laysAt hfound hk hffB (a' (.lays cls Bundle.tN "backtrace" "Ljava/lang/Object;") (by simp [Bundle.ownAtoms0]))
  have bC := Cond.laysApart hdB hdC hdnB hdnC (by rw [hnB, Y.causeName]; decide)
  have bS := Cond.laysApart hdB hdS hdnB hdnS (by rw [hnB, Y.stackName]; decide)
  have bP := Cond.laysApart hdB hdP hdnB hdnP (by rw [hnB, Y.suppName]; decide)
  have hskip : SkipFacts T e.platform s (fun u => u) u0 ((preparedCellV T.toThrowableT (freshCell P1.m.cls kX) a u0 sen).withEntry W.cur) :=
    ⟨{ ci198 := ci198, i198 := i198, fBack := fB }, ⟨hk198, hg198, ha198, hsB⟩, by
      have := fresh_default (c := P1.m.cls) tyB
      rw [htB] at this
      simpa [preparedCellV, Cell.setSlot, Cell.withEntry, Array.getElem?_setIfInBounds, bC, bS, bP, bC.symm, bS.symm, bP.symm, defaultValue] using this, fun _ _ => rfl⟩
  obtain ⟨tm, methC, cdC, kC, vm₁, hnC, -, -, -, -, -, -, -, hW₁, st1⟩ := Steps.initCold (tb := p.tables) (e := e) (below := below) (s := s) (U := W) X.here hexec X.warmed hpl hown (t := Bundle.init0 cls) rfl rfl (Bundle.fit_spec hcls).2
    (a' (.methodLink own ic (Bundle.init0 cls)) (by simp [Bundle.ownAtoms0])) (h (.instanceMethod (Bundle.init0 cls)) (by cases names <;> simp [Bundle.ownAtoms0, Bundle.chain0Atoms, Bundle.passAtoms])) (bytes := Bundle.five) (maxL := 1) (h (.code (Bundle.init0 cls) Bundle.five 1 none) (by cases names <;> simp [Bundle.ownAtoms0, Bundle.chain0Atoms, Bundle.passAtoms]))
    (f := g) hg (a := a) (rest := .ref a :: rest) hstack hd6
  cases Option.some.inj (hnC.symm.trans hP1m)
  have X₁ := X.noted hW₁
  obtain ⟨vm₂, X₂, st2⟩ := X₁.ctorPlainOffV hexec (g := { g with stack := .ref a :: rest }) hg hsize T L Z LZ (P1 :: Ps)
    (fun P hP => by rcases List.mem_cons.mp hP with rfl | hP; exact L1; exact hL P hP) ⟨hlink1, hlink⟩ (u0 := u0) (sen := sen) (self := a) (cell := freshCell P1.m.cls kX) (cellS := cellS)
    hcell (fun _ => by simp) (by simp) rfl rfl hsel0 hselF hcellS hneS hknownS (by rw [hkeep _ (hout' _)]; exact hu0) (by rw [hkeep _ (hout' _)]; exact hsen)
    (Takes.of_laid hk hord tyC (by rw [Y.causeType]; rfl)) (Takes.of_laid hk hord tyS (by rw [Y.stackType]; exact fits_refV_array _ u0)) (Takes.of_laid hk hord tyP (by rw [Y.suppType]; exact fits_refV_object _ sen)) Y.objLocals hskip htr [] hd6
    (by simp only [List.length_cons, hlen]; omega) (by simp only [List.length_cons, hlen]; exact hRlocals)
  have hlt : a < ((W.setVm vm₁).setVm vm₂).heap.size := (Array.getElem?_eq_some_iff.mp hcell).1
  refine ⟨(W.setVm vm₁).setVm vm₂, _, _, X₂, fun y hy => ?_, hlt, rfl, rfl, fun target hwalk => st1 _ (fun acts => ?_)⟩
  · simp only [List.mem_cons, List.not_mem_nil, or_false] at hy
    rcases hy with rfl | rfl | rfl | rfl <;> rfl
  · rw [doInvoke_state]
    exact st2 _ hwalk
end VXK
section VXK2
variable {p : Program} {l : Launch} {e : Env} {R : Room} {s : State} {m : MethodId} {args : Array Value} {below : List Frame} {meth : Method} {c : Code} {H : Heap} {locs : List Loc} {cells slots : Nat} {Q : State → Prop}
variable {ls : Array Slot} {rest : List Value} {D : va_G} {cl : List vw_C} {tys : List (ClassId × FieldType)} {ws : va_W}
/-- 'new E("text")' that isn't thrown at once: the object goes on the stack -/
theorem vx_makeS {cc : ByteArray} {pc : Nat} (hexec : p.tables.exec = Jvm.exec) (hb : c.code = cc) (hl : l.stackTraces = false) {own cls text : String} {names : List String} {ik is ic sa ci : Nat} {A : Nat → Prop} {T0 : u_T}
    (hown : s.vm.findClass own = some m.cls) (hcls : Bundle.fit cls = true) (hnames : ∀ n ∈ names, Bundle.fit n = true)
    (hk : (Cond.classLink own ik cls).before args s = true) (hini : (Cond.initialized cls).before args s = true) (hstr : vk_R own is text sa s) (hat : ∀ w ∈ vx_atS own ic cls names, w.before args s = true)
    (hgood : ∀ w ∈ Cond.classLink own ik cls :: Cond.initialized cls :: vx_atS own ic cls names, vx_ot w = true)
    (hU : vx_Zq Bundle.tN "UNASSIGNED_STACK" Bundle.steD A s s.heap) (hN : vx_Zq Bundle.tN "SUPPRESSED_SENTINEL" Bundle.listD A s s.heap) (hS : va_S A s.heap H locs) (hsize : ls.size = c.maxLocals)
    (d0 : decode cc pc = .ok (.new ik, 3)) (d3 : decode cc (pc + 3) = .ok (.dup, 1)) (d4 : decode cc (pc + 4) = .ok (.ldc is, 2)) (d6 : decode cc (pc + 6) = .ok (.invokespecial ic, 3))
    (hK : va_K D cl tys s) (hP : va_P D cl ws H) (hD : va_D A ws) (hA : ∀ q, s.heap.size ≤ q → A q) (hc : cl[ci]? = some (cls, T0, 0))
    (hRframes : names.length + 3 < R.frames) (hRlocals : (rest.map fun v => v.category).sum + (13 * (names.length + 1) + 43) ≤ R.locals) (hRcells : cells + 1 ≤ R.cells) (hRslots : slots + 6 ≤ R.slots)
    (kk : ∀ (q : Nat) (H1 : Heap), va_P D cl (ws ++ [(q, .inr (ci, []))]) H1 → va_D A (ws ++ [(q, .inr (ci, []))]) → va_S A s.heap H1 locs → W p l e R s m args below meth c H1 locs (cells + 1) (slots + 6) Q (F0 m (pc + 9) ls (.ref q :: rest))) :
    W p l e R s m args below meth c H locs cells slots Q (F0 m pc ls rest) := by
  intro T hT X
  subst hT
  have htr : e.platform.stackTraces = false := (show e.platform.stackTraces = l.stackTraces by rw [X.admits.platform]).trans hl
  have Y := vx_rebase X (R' := { frames := R.frames, locals := R.locals, cells := 1, slots := 6 }) (Nat.le_refl _) (Nat.le_refl _) hRcells hRslots
  obtain ⟨s', hA'⟩ : ∃ z, z = (T.setVm s.vm).setFrames (.invoking m args :: below) := ⟨_, rfl⟩
  rw [← hA'] at Y
  have hvm : s'.vm = s.vm := by rw [hA']; rfl
  have hhp : s'.heap = T.heap := by rw [hA']; rfl
  have hW0 : s.WarmedH s'.vm := by rw [hvm]; exact State.WarmedH.refl s
  have hat' : ∀ w ∈ vx_atS own ic cls names, w.before args s' = true := fun w hw => vx_ot_at hW0 hvm.symm (hgood w (List.mem_cons_of_mem _ (List.mem_cons_of_mem _ hw))) (hat w hw)
  have hk' : (Cond.classLink own ik cls).before args s' = true := vx_ot_at hW0 hvm.symm (hgood _ List.mem_cons_self) hk
  have hini' : (Cond.initialized cls).before args s' = true := vx_ot_at hW0 hvm.symm (hgood _ (List.mem_cons_of_mem _ List.mem_cons_self)) hini
  have hU' : vx_Zq Bundle.tN "UNASSIGNED_STACK" Bundle.steD A s' s'.heap := by rw [hhp]; exact vx_Zq.moved hW0.alike (hU.kept hS.2.1)
  have hN' : vx_Zq Bundle.tN "SUPPRESSED_SENTINEL" Bundle.listD A s' s'.heap := by rw [hhp]; exact vx_Zq.moved hW0.alike (hN.kept hS.2.1)
  have h : ∀ w ∈ Bundle.ownAtoms own ic cls names, w.before args s' = true := vx_own hat' (vx_isRefq hU'.1) (vx_isRefq hN'.1) hU'.2.word hN'.2.word
  have hown' : s'.vm.findClass own = some m.cls := by rw [hvm]; exact hown
  have hins : (Cond.instantiable cls 6).before args s' = true := h _ (by simp [Bundle.ownAtoms])
  obtain ⟨vm₁, cX, kX, hfX, hkX, -, -, X₁, st1⟩ := Y.newCold hexec (own := own) (C := cls) (index := ik) (n := 6) hown' hk' hins hini'
    (g := F0 m pc ls rest) rfl (by rw [hb]; exact d0) (Nat.le_refl _) (Nat.le_refl _)
  generalize hT1 : (T.setVm vm₁).pushCell { cls := cX, slots := kX.instanceTypes.map defaultValue, vm := .none } = T1 at X₁ st1
  have hcat : (Value.ref T.heap.size).category = 1 := rfl
  have hcellA : T1.heap[T.heap.size]? = some (freshCell cX kX) := by rw [← hT1]; exact State.heap_pushCell_size _ _
  have d3' : decode c.code (pc + 3) = .ok (.dup, 1) := by rw [hb]; exact d3
  have d4' : decode c.code (pc + 4) = .ok (.ldc is, 2) := by rw [hb]; exact d4
  have hstr' : vk_R own is text sa s' := vk_R.warm hW0 hstr
  obtain ⟨V, ce, L, Z, hL, hlt, hcl9, hvm9, st⟩ := vx_ctorMadeS X₁ hexec htr (own := own) (cls := cls) (names := names) (ic := ic) hown' hcls hnames h (fun x hx => nomatch hx) hfX hkX hcellA (by rw [hhp]; exact Nat.le_refl _) (msg := .ref sa) rfl
    (g := { method := m, pc := pc + 6, locals := ls, stack := .ref sa :: .ref T.heap.size :: .ref T.heap.size :: rest, locked := none }) rfl hsize (rest := rest) rfl
    (by rw [hb]; exact d6) hRframes (by simp only [List.map_cons, List.sum_cons, hcat]; omega)
  have Z0 := Stand.forget (locs := []) Z (fun y hy => by rw [hL y hy, hhp]; exact Nat.le_refl _)
  obtain ⟨f1, f2⟩ := vx_frame Z0.same
  rw [hhp] at f1 f2
  have hcid : ce.cls = D.1 ci := by
    rw [hcl9]
    have h1 := (hK.1 ci _ hc).2.1
    rw [hvm] at hfX
    exact Option.some.inj (hfX.symm.trans h1)
  have hh : (V.setCell T.heap.size ce).heap[T.heap.size]? = some ce := heapAt_setCell_self (s := V) ce hlt
  subst hA'
  have X5 := vx_back9 X Y Z0
  have X6 : Stand p l e R s m args below meth c (V.setCell T.heap.size ce) locs (cells + 1) (slots + 6) := { X5 with same := X5.same.mono (by omega) (by omega) }
  have hk9 : ∀ (k : Nat) (x : Nat × va_E), ws[k]? = some x → (V.setCell T.heap.size ce).heap[x.1]? = T.heap[x.1]? := fun k x hx => f2 x.1 ((hP k x hx).lt) (fun z hz => nomatch hz)
  obtain ⟨t, a1, b1⟩ := kk T.heap.size (V.setCell T.heap.size ce).heap ((hP.kept hk9).app (fun k x hx => by
      have hz : k < 1 := (List.getElem?_eq_some_iff.mp hx).1
      rw [show k = 0 by omega] at hx
      cases hx
      exact ⟨_, hc, ce, hh, hcid, hvm9, fun k hk => absurd hk (Nat.not_lt_zero k)⟩)) (hD.push hP rfl (hA _ hS.1)) ⟨Nat.le_trans hS.1 f1, fun q h1 h2 => (f2 q (Nat.lt_of_lt_of_le h1 hS.1) (fun z hz => nomatch hz)).trans (hS.2.1 q h1 h2), hS.2.2⟩ _ rfl X6
  refine ⟨t, st1 _ ?_, b1⟩
  show Steps p.tables e below (T1.setTop { method := m, pc := pc + 3, locals := ls, stack := .ref T.heap.size :: rest, locked := none }) _
  jvm_step X₁.here [X₁.here.top, hexec, d3', Value.category]
  exact X₁.ldcString hexec (own := own) (text := text) (index := is) (a := sa) hown' hstr'.1 hstr'.2
    (g := { method := m, pc := pc + 4, locals := ls, stack := .ref T.heap.size :: .ref T.heap.size :: rest, locked := none }) rfl d4' _ (st _ a1)
/-- 'new E()' that isn't thrown at once: the object goes on the stack -/
theorem vx_make0 {cc : ByteArray} {pc : Nat} (hexec : p.tables.exec = Jvm.exec) (hb : c.code = cc) (hl : l.stackTraces = false) {own cls : String} {names : List String} {ik ic ci : Nat} {A : Nat → Prop} {T0 : u_T}
    (hown : s.vm.findClass own = some m.cls) (hcls : Bundle.fit cls = true) (hnames : ∀ n ∈ names, Bundle.fit n = true)
    (hk : (Cond.classLink own ik cls).before args s = true) (hini : (Cond.initialized cls).before args s = true) (hat : ∀ w ∈ vx_at0 own ic cls names, w.before args s = true)
    (hgood : ∀ w ∈ Cond.classLink own ik cls :: Cond.initialized cls :: vx_at0 own ic cls names, vx_ot w = true)
    (hU : vx_Zq Bundle.tN "UNASSIGNED_STACK" Bundle.steD A s s.heap) (hN : vx_Zq Bundle.tN "SUPPRESSED_SENTINEL" Bundle.listD A s s.heap) (hS : va_S A s.heap H locs) (hsize : ls.size = c.maxLocals)
    (d0 : decode cc pc = .ok (.new ik, 3)) (d3 : decode cc (pc + 3) = .ok (.dup, 1)) (d4 : decode cc (pc + 4) = .ok (.invokespecial ic, 3))
    (hK : va_K D cl tys s) (hP : va_P D cl ws H) (hD : va_D A ws) (hA : ∀ q, s.heap.size ≤ q → A q) (hc : cl[ci]? = some (cls, T0, 0))
    (hRframes : names.length + 3 < R.frames) (hRlocals : (rest.map fun v => v.category).sum + (13 * (names.length + 1) + 42) ≤ R.locals) (hRcells : cells + 1 ≤ R.cells) (hRslots : slots + 6 ≤ R.slots)
    (kk : ∀ (q : Nat) (H1 : Heap), va_P D cl (ws ++ [(q, .inr (ci, []))]) H1 → va_D A (ws ++ [(q, .inr (ci, []))]) → va_S A s.heap H1 locs → W p l e R s m args below meth c H1 locs (cells + 1) (slots + 6) Q (F0 m (pc + 7) ls (.ref q :: rest))) :
    W p l e R s m args below meth c H locs cells slots Q (F0 m pc ls rest) := by
  intro T hT X
  subst hT
  have htr : e.platform.stackTraces = false := (show e.platform.stackTraces = l.stackTraces by rw [X.admits.platform]).trans hl
  have Y := vx_rebase X (R' := { frames := R.frames, locals := R.locals, cells := 1, slots := 6 }) (Nat.le_refl _) (Nat.le_refl _) hRcells hRslots
  obtain ⟨s', hA'⟩ : ∃ z, z = (T.setVm s.vm).setFrames (.invoking m args :: below) := ⟨_, rfl⟩
  rw [← hA'] at Y
  have hvm : s'.vm = s.vm := by rw [hA']; rfl
  have hhp : s'.heap = T.heap := by rw [hA']; rfl
  have hW0 : s.WarmedH s'.vm := by rw [hvm]; exact State.WarmedH.refl s
  have hat' : ∀ w ∈ vx_at0 own ic cls names, w.before args s' = true := fun w hw => vx_ot_at hW0 hvm.symm (hgood w (List.mem_cons_of_mem _ (List.mem_cons_of_mem _ hw))) (hat w hw)
  have hk' : (Cond.classLink own ik cls).before args s' = true := vx_ot_at hW0 hvm.symm (hgood _ List.mem_cons_self) hk
  have hini' : (Cond.initialized cls).before args s' = true := vx_ot_at hW0 hvm.symm (hgood _ (List.mem_cons_of_mem _ List.mem_cons_self)) hini
  have hU' : vx_Zq Bundle.tN "UNASSIGNED_STACK" Bundle.steD A s' s'.heap := by rw [hhp]; exact vx_Zq.moved hW0.alike (hU.kept hS.2.1)
  have hN' : vx_Zq Bundle.tN "SUPPRESSED_SENTINEL" Bundle.listD A s' s'.heap := by rw [hhp]; exact vx_Zq.moved hW0.alike (hN.kept hS.2.1)
  have h : ∀ w ∈ Bundle.ownAtoms0 own ic cls names, w.before args s' = true := vx_own hat' (vx_isRefq hU'.1) (vx_isRefq hN'.1) hU'.2.word hN'.2.word
  have hown' : s'.vm.findClass own = some m.cls := by rw [hvm]; exact hown
  have hins : (Cond.instantiable cls 6).before args s' = true := h _ (by simp [Bundle.ownAtoms0])
  obtain ⟨vm₁, cX, kX, hfX, hkX, -, -, X₁, st1⟩ := Y.newCold hexec (own := own) (C := cls) (index := ik) (n := 6) hown' hk' hins hini'
    (g := F0 m pc ls rest) rfl (by rw [hb]; exact d0) (Nat.le_refl _) (Nat.le_refl _)
  generalize hT1 : (T.setVm vm₁).pushCell { cls := cX, slots := kX.instanceTypes.map defaultValue, vm := .none } = T1 at X₁ st1
  have hcat : (Value.ref T.heap.size).category = 1 := rfl
  have hcellA : T1.heap[T.heap.size]? = some (freshCell cX kX) := by rw [← hT1]; exact State.heap_pushCell_size _ _
  have d3' : decode c.code (pc + 3) = .ok (.dup, 1) := by rw [hb]; exact d3
  obtain ⟨V, ce, L, Z, hL, hlt, hcl9, hvm9, st⟩ := vx_ctorMade0 X₁ hexec htr (own := own) (cls := cls) (names := names) (ic := ic) hown' hcls hnames h (fun x hx => nomatch hx) hfX hkX hcellA (by rw [hhp]; exact Nat.le_refl _)
    (g := { method := m, pc := pc + 4, locals := ls, stack := .ref T.heap.size :: .ref T.heap.size :: rest, locked := none }) rfl hsize (rest := rest) rfl
    (by rw [hb]; exact d4) hRframes (by simp only [List.map_cons, List.sum_cons, hcat]; omega)
  have Z0 := Stand.forget (locs := []) Z (fun y hy => by rw [hL y hy, hhp]; exact Nat.le_refl _)
  obtain ⟨f1, f2⟩ := vx_frame Z0.same
  rw [hhp] at f1 f2
  have hcid : ce.cls = D.1 ci := by
    rw [hcl9]
    have h1 := (hK.1 ci _ hc).2.1
    rw [hvm] at hfX
    exact Option.some.inj (hfX.symm.trans h1)
  have hh : (V.setCell T.heap.size ce).heap[T.heap.size]? = some ce := heapAt_setCell_self (s := V) ce hlt
  subst hA'
  have X5 := vx_back9 X Y Z0
  have X6 : Stand p l e R s m args below meth c (V.setCell T.heap.size ce) locs (cells + 1) (slots + 6) := { X5 with same := X5.same.mono (by omega) (by omega) }
  have hk9 : ∀ (k : Nat) (x : Nat × va_E), ws[k]? = some x → (V.setCell T.heap.size ce).heap[x.1]? = T.heap[x.1]? := fun k x hx => f2 x.1 ((hP k x hx).lt) (fun z hz => nomatch hz)
  obtain ⟨t, a1, b1⟩ := kk T.heap.size (V.setCell T.heap.size ce).heap ((hP.kept hk9).app (fun k x hx => by
      have hz : k < 1 := (List.getElem?_eq_some_iff.mp hx).1
      rw [show k = 0 by omega] at hx
      cases hx
      exact ⟨_, hc, ce, hh, hcid, hvm9, fun k hk => absurd hk (Nat.not_lt_zero k)⟩)) (hD.push hP rfl (hA _ hS.1)) ⟨Nat.le_trans hS.1 f1, fun q h1 h2 => (f2 q (Nat.lt_of_lt_of_le h1 hS.1) (fun z hz => nomatch hz)).trans (hS.2.1 q h1 h2), hS.2.2⟩ _ rfl X6
  refine ⟨t, st1 _ ?_, b1⟩
  show Steps p.tables e below (T1.setTop { method := m, pc := pc + 3, locals := ls, stack := .ref T.heap.size :: rest, locked := none }) _
  jvm_step X₁.here [X₁.here.top, hexec, d3', Value.category]
  exact st _ a1
/-- 'throw x' of an object that was made before -/
theorem vx_athrow {cc : ByteArray} {pc : Nat} (hexec : p.tables.exec = Jvm.exec) (hb : c.code = cc) {q : Addr} (hdg : decode cc pc = .ok (.athrow, 1)) (k : vx_W p l e R s m args below meth c H locs cells slots Q (F0 m pc ls rest) q) : W p l e R s m args below meth c H locs cells slots Q (F0 m pc ls (.ref q :: rest)) := by
  intro T hT X
  obtain ⟨t, st, hq⟩ := k T hT X
  refine ⟨t, ?_, hq⟩
  have hdg' : decode c.code pc = .ok (.athrow, 1) := by rw [hb]; exact hdg
  jvm_step X.here [X.here.top, hexec, hdg', athrow.wp_sem]
  exact st
end VXK2
/-! ===== END ===== -/
/-! ===== BEGIN a constructor that throws (launches without stack traces) ===== -/
section VXIA
variable {p : Program} {l : Launch} {e : Env} {R : Room} {s : State} {m : MethodId} {args : Array Value} {below : List Frame} {meth : Method} {c : Code} {T : State} {locs : List Loc} {cells slots : Nat}
theorem vx_callI (X : Stand p l e R s m args below meth c T locs cells slots) (hexec : p.tables.exec = Jvm.exec) {own : String} {index : Nat} {y : MethodName} {bytes : ByteArray} {maxL : Nat}
    (hown : s.vm.findClass own = some m.cls) (hy1 : y.name = "<init>") (hlink : (Cond.methodLink own index y).before args s = true) (hinst : (Cond.instanceMethod y).before args s = true)
    (hcode : (Cond.code y bytes maxL none).before args s = true) (hy : y.cls ≠ "java/lang/invoke/MethodHandle" ∧ y.cls ≠ "java/lang/invoke/VarHandle")
    {W9 : Nat} {Pre : Pt → Array Value → Prop} {Post : Pt → Array Value → Option Value → Pt → Prop} {PostX : Pt → Array Value → Addr → Pt → Prop} (hK : vx_Back l R p e below s args y 3 W9 Pre Post PostX)
    {g : JFrame} (hg : g.method = m) (hsize : g.locals.size = c.maxLocals) {a : Addr} {argsL rest : List Value} (hlen : ∀ sig, parseMethodDescriptor y.desc = some sig → argsL.length = sig.parameters.length)
    (hstack : g.stack = argsL.reverse ++ .ref a :: rest) (hW : 2 * g.monitorRoom + (rest.map fun v => v.category).sum ≤ W9) (hdg : decode c.code g.pc = .ok (.invokespecial index, 3))
    (hpre : ∀ vm₁, s.WarmedH vm₁ → Pre ⟨T.setVm vm₁, locs, cells, slots⟩ (Value.ref a :: argsL).toArray) :
    (∃ (v : Option Value) (vm₁ : Vm) (B : Pt), s.WarmedH vm₁ ∧ Stand p l e R s m args below meth c B.U B.locs B.cells B.slots ∧ Post ⟨T.setVm vm₁, locs, cells, slots⟩ (Value.ref a :: argsL).toArray v B ∧
      ∀ target, Steps p.tables e below (B.U.setTop { g with pc := g.pc + 3, stack := v.toList ++ rest }) target → Steps p.tables e below (T.setTop g) target) ∨
    (∃ (q : Addr) (vm₁ : Vm) (B : Pt), s.WarmedH vm₁ ∧ Stand p l e R s m args below meth c B.U B.locs B.cells B.slots ∧ PostX ⟨T.setVm vm₁, locs, cells, slots⟩ (Value.ref a :: argsL).toArray q B ∧
      Steps p.tables e below (T.setTop g) ((B.U.setTop { g with stack := rest }).pushFrame (.throwing q))) := by
  subst hg
  have hpl : e.platform.magicAccessors = ({} : Platform).magicAccessors := by rw [X.admits.platform]
  obtain ⟨mk, methM, cM, kP, vm₁, hnamed, hmethM, hcodeM, -, hlocalsM, -, hkP, -, hW₁, hstep₁⟩ := Steps.initColdArgs (e := e) X.here hexec X.warmed hpl hown hy1 hy hlink hinst hcode (f := g) rfl hlen hstack hdg
  have X₁ := X.noted hW₁
  rcases hK g.method meth c ⟨T.setVm vm₁, locs, cells, slots⟩ { g with stack := rest } (.invokespecial index) mk (Value.ref a :: argsL).toArray X₁ rfl hsize hdg hW (X₁.named hnamed) (hpre vm₁ X₁.warmed) with ⟨v, B, X', hpost, hsteps⟩ | ⟨q, B, X', hpost, hsteps⟩
  · exact Or.inl ⟨v, vm₁, B, X₁.warmed, X', hpost, fun target h => hstep₁ _ fun acts => by rw [doInvoke_state]; exact hsteps.trans h⟩
  · exact Or.inr ⟨q, vm₁, B, X₁.warmed, X', hpost, hstep₁ _ fun acts => by rw [doInvoke_state]; exact hsteps⟩
end VXIA
section VXIB
variable {p : Program} {l : Launch} {e : Env} {R : Room} {s : State} {m : MethodId} {args : Array Value} {below : List Frame} {meth : Method} {c : Code} {H : Heap} {locs : List Loc} {cells slots : Nat}
variable {y : MethodName} {bytes cc : ByteArray} {maxL nL mc ms n index : Nat} {ret : Option FieldType} {ws : List Cond} {rm : Room} {Pc : Array Value → State → Prop} {Qc : Array Value → State → Outcome → State → Prop} {XC : String → State → State → Prop} {free : Addr → Prop} {Ts : List Cond} {own C : String} {b : Addr} {As rest : List Value} {g : JFrame}
theorem vx_runI (S : CallFix p m c cc nL s args Ts own) (hM : vx_Met l y ws rm Pc Qc XC mc ms free) (cw : CallB R s args own index y bytes maxL none ws rm mc ms n ∧ y.name = "<init>" ∧ (Cond.instanceMethod y).before args s = true) (hp : PreS s H Pc (.ref b :: As))
    (hg : g.method = m) (hn : As.length = n) (hsize : g.locals.size = nL) (hstack : g.stack = As.reverse ++ .ref b :: rest) (hW : 2 * g.monitorRoom + (rest.map fun v => v.category).sum ≤ 8) (hdg : decode cc g.pc = .ok (.invokespecial index, 3)) (hf : cells + mc ≤ R.cells ∧ slots + ms ≤ R.slots) :
    vx_Run p l e R s m args below meth c H locs cells slots mc ms g rest (Qc (Value.ref b :: As).toArray) XC free := by
  have hK : vx_Back l R p e below s args y 3 8 (PreOf R mc ms Pc) (PostOf Qc mc ms free) (vx_Post XC mc ms free) := vx_callBack cw.1 hM hp.1
  obtain ⟨⟨-, -, -, -, -, -, hcode, -, hy, hlen, hl⟩, hy1, hin⟩ := cw
  obtain ⟨hx, hb, hml, ho, -⟩ := S
  have hPc := hp.2
  intro T hT X
  rcases vx_callI X hx (bytes := bytes) (maxL := maxL) ho hy1 hl hin hcode hy hK hg (hsize.trans hml.symm) (a := b) (argsL := As) (rest := rest) (fun sig h => hn.trans (hlen sig h)) hstack hW (by rw [hb]; exact hdg)
    (fun vm₁ hW₁ => ⟨hf.1, hf.2, hPc (T.setVm vm₁) hT hW₁⟩) with ⟨v, vm₁, ⟨U', l2, c2, s2⟩, hW₁, X', ⟨g', mk, t, L, e1, e2, hq, h1, hL, h2, h3⟩, st⟩ | ⟨q, vm₁, ⟨U', l2, c2, s2⟩, hW₁, X', ⟨g', mk, t, L, E, ce, e1, e2, hq, hce, hcv, hcl, h1, hL, h2, h3⟩, st⟩
  · dsimp only [Pt.U, Pt.locs, Pt.cells, Pt.slots] at X' e1 e2 h1 h2 h3 st
    subst h1; subst h2; subst h3
    exact Or.inl ⟨v, (T.setVm vm₁).calling g' mk (Value.ref b :: As).toArray, t, U', L, hT, X', hL, e1, e2, hq, st⟩
  · dsimp only [Pt.U, Pt.locs, Pt.cells, Pt.slots] at X' e1 e2 h1 h2 h3 st hcl
    subst h1; subst h2; subst h3
    exact Or.inr ⟨q, (T.setVm vm₁).calling g' mk (Value.ref b :: As).toArray, t, U', L, E, ce, hT, X', hL, e1, e2, hq, hce, hcv, vx_cls hW₁ hcl, st⟩
end VXIB
/-! ===== END ===== -/
/-! ===== BEGIN a private constructor of a nest mate that throws ===== -/
section VXIC
variable {p : Program} {l : Launch} {e : Env} {R : Room} {s : State} {m : MethodId} {args : Array Value} {below : List Frame} {meth : Method} {c : Code} {T : State} {locs : List Loc} {cells slots : Nat}
theorem vx_callIN (X : Stand p l e R s m args below meth c T locs cells slots) (hexec : p.tables.exec = Jvm.exec) {own : String} {index : Nat} {host : String} {y : MethodName} {bytes : ByteArray} {maxL : Nat}
    (hown : s.vm.findClass own = some m.cls) (hy1 : y.name = "<init>") (hlink : (Cond.methodLinkNest own index y host).before args s = true) (hinst : (Cond.instanceMethod y).before args s = true)
    (hcode : (Cond.code y bytes maxL none).before args s = true) (hy : y.cls ≠ "java/lang/invoke/MethodHandle" ∧ y.cls ≠ "java/lang/invoke/VarHandle")
    {W9 : Nat} {Pre : Pt → Array Value → Prop} {Post : Pt → Array Value → Option Value → Pt → Prop} {PostX : Pt → Array Value → Addr → Pt → Prop} (hK : vx_Back l R p e below s args y 3 W9 Pre Post PostX)
    {g : JFrame} (hg : g.method = m) (hsize : g.locals.size = c.maxLocals) {a : Addr} {argsL rest : List Value} (hlen : ∀ sig, parseMethodDescriptor y.desc = some sig → argsL.length = sig.parameters.length)
    (hstack : g.stack = argsL.reverse ++ .ref a :: rest) (hW : 2 * g.monitorRoom + (rest.map fun v => v.category).sum ≤ W9) (hdg : decode c.code g.pc = .ok (.invokespecial index, 3))
    (hpre : ∀ vm₁, s.WarmedH vm₁ → Pre ⟨T.setVm vm₁, locs, cells, slots⟩ (Value.ref a :: argsL).toArray) :
    (∃ (v : Option Value) (vm₁ : Vm) (B : Pt), s.WarmedH vm₁ ∧ Stand p l e R s m args below meth c B.U B.locs B.cells B.slots ∧ Post ⟨T.setVm vm₁, locs, cells, slots⟩ (Value.ref a :: argsL).toArray v B ∧
      ∀ target, Steps p.tables e below (B.U.setTop { g with pc := g.pc + 3, stack := v.toList ++ rest }) target → Steps p.tables e below (T.setTop g) target) ∨
    (∃ (q : Addr) (vm₁ : Vm) (B : Pt), s.WarmedH vm₁ ∧ Stand p l e R s m args below meth c B.U B.locs B.cells B.slots ∧ PostX ⟨T.setVm vm₁, locs, cells, slots⟩ (Value.ref a :: argsL).toArray q B ∧
      Steps p.tables e below (T.setTop g) ((B.U.setTop { g with stack := rest }).pushFrame (.throwing q))) := by
  subst hg
  have hpl : e.platform.magicAccessors = ({} : Platform).magicAccessors := by rw [X.admits.platform]
  obtain ⟨mk, methM, cM, kP, vm₁, hnamed, hmethM, hcodeM, -, hlocalsM, -, hkP, -, hW₁, hstep₁⟩ := Steps.initColdArgsNest (e := e) X.here hexec X.warmed hpl hown hy1 hy hlink hinst hcode (f := g) rfl hlen hstack hdg
  have X₁ := X.noted hW₁
  rcases hK g.method meth c ⟨T.setVm vm₁, locs, cells, slots⟩ { g with stack := rest } (.invokespecial index) mk (Value.ref a :: argsL).toArray X₁ rfl hsize hdg hW (X₁.named hnamed) (hpre vm₁ X₁.warmed) with ⟨v, B, X', hpost, hsteps⟩ | ⟨q, B, X', hpost, hsteps⟩
  · exact Or.inl ⟨v, vm₁, B, X₁.warmed, X', hpost, fun target h => hstep₁ _ fun acts => by rw [doInvoke_state]; exact hsteps.trans h⟩
  · exact Or.inr ⟨q, vm₁, B, X₁.warmed, X', hpost, hstep₁ _ fun acts => by rw [doInvoke_state]; exact hsteps⟩
end VXIC
section VXID
variable {p : Program} {l : Launch} {e : Env} {R : Room} {s : State} {m : MethodId} {args : Array Value} {below : List Frame} {meth : Method} {c : Code} {H : Heap} {locs : List Loc} {cells slots : Nat}
theorem vx_runIN {y : MethodName} {bytes cc : ByteArray} {maxL nL mc ms n index : Nat} {ws : List Cond} {rm : Room} {Pc : Array Value → State → Prop} {Qc : Array Value → State → Outcome → State → Prop} {XC : String → State → State → Prop} {free : Addr → Prop} {Ts : List Cond} {own host : String} {b : Addr} {As rest : List Value} {g : JFrame}
    (S : CallFix p m c cc nL s args Ts own) (hM : vx_Met l y ws rm Pc Qc XC mc ms free) (cw : va_CN R s args own index y host bytes maxL none ws rm mc ms n ∧ y.name = "<init>" ∧ (Cond.instanceMethod y).before args s = true) (hp : PreS s H Pc (.ref b :: As))
    (hg : g.method = m) (hn : As.length = n) (hsize : g.locals.size = nL) (hstack : g.stack = As.reverse ++ .ref b :: rest) (hW : 2 * g.monitorRoom + (rest.map fun v => v.category).sum ≤ 8) (hdg : decode cc g.pc = .ok (.invokespecial index, 3)) (hf : cells + mc ≤ R.cells ∧ slots + ms ≤ R.slots) :
    vx_Run p l e R s m args below meth c H locs cells slots mc ms g rest (Qc (Value.ref b :: As).toArray) XC free := by
  obtain ⟨⟨⟨hrc, hrs, hfr, hlo, hws, hcw⟩, hcode, hini, hy, hlen, hl⟩, hx1, hx2⟩ := cw
  have hK : vx_Back l R p e below s args y 3 8 (PreOf R mc ms Pc) (PostOf Qc mc ms free) (vx_Post XC mc ms free) := vx_back (bytes := bytes) (maxL := maxL) (ret := none) hM hp.1 hrc hrs hfr hlo hws hcw (fun a' U hW => word_at hW (Or.inl (by first | rfl | simp [Cond.onTables, Cond.keeps, Cond.steady])) hini)
  obtain ⟨hx, hb, hml, ho, -⟩ := S
  have hPc := hp.2
  intro T hT X
  rcases vx_callIN X hx (bytes := bytes) (maxL := maxL) ho hx1 hl hx2 hcode hy hK hg (hsize.trans hml.symm) (a := b) (argsL := As) (rest := rest) (fun sig h => hn.trans (hlen sig h)) hstack hW (by rw [hb]; exact hdg)
    (fun vm₁ hW₁ => ⟨hf.1, hf.2, hPc (T.setVm vm₁) hT hW₁⟩) with ⟨v, vm₁, ⟨U', l2, c2, s2⟩, hW₁, X', ⟨g', mk, t, L, e1, e2, hq, h1, hL, h2, h3⟩, st⟩ | ⟨q, vm₁, ⟨U', l2, c2, s2⟩, hW₁, X', ⟨g', mk, t, L, E, ce, e1, e2, hq, hce, hcv, hcl, h1, hL, h2, h3⟩, st⟩
  · dsimp only [Pt.U, Pt.locs, Pt.cells, Pt.slots] at X' e1 e2 h1 h2 h3 st
    subst h1; subst h2; subst h3
    exact Or.inl ⟨v, (T.setVm vm₁).calling g' mk (Value.ref b :: As).toArray, t, U', L, hT, X', hL, e1, e2, hq, st⟩
  · dsimp only [Pt.U, Pt.locs, Pt.cells, Pt.slots] at X' e1 e2 h1 h2 h3 st hcl
    subst h1; subst h2; subst h3
    exact Or.inr ⟨q, (T.setVm vm₁).calling g' mk (Value.ref b :: As).toArray, t, U', L, E, ce, hT, X', hL, e1, e2, hq, hce, hcv, vx_cls hW₁ hcl, st⟩
end VXID
/-! ===== END ===== -/
/-! ===== BEGIN a method of a class above, found by the receiver, that may throw (follows va_callVU, va_runU of this kit) ===== -/
section
variable {p : Program} {l : Launch} {e : Env} {R : Room} {s : State} {m : MethodId} {args : Array Value} {below : List Frame} {meth : Method} {c : Code} {H : Heap} {locs : List Loc} {cells slots : Nat}
theorem vx_callVU {T : State} {locs : List Loc} {cells slots : Nat} (X : Stand p l e R s m args below meth c T locs cells slots) (hexec : p.tables.exec = Jvm.exec) {own C owner : String} {index : Nat} {x y : MethodName} {bytes : ByteArray} {maxL : Nat} {ret : Option FieldType}
    (hown : s.vm.findClass own = some m.cls) (hlink : (Cond.methodLink own index x).before args s = true) (hsame : (Cond.sameMethod x.cls owner x.name x.desc).before args s = true)
    (hd0 : va_Decl s ⟨owner, x.name, x.desc⟩) (howner : owner ≠ "java/lang/invoke/MethodHandle" ∧ owner ≠ "java/lang/invoke/VarHandle")
    (hsel : (Cond.selects C x y).before args s = true) (hinst : (Cond.instanceMethod y).before args s = true) (hcode : (Cond.code y bytes maxL ret).before args s = true)
    {W : Nat} {Pre : Pt → Array Value → Prop} {Post : Pt → Array Value → Option Value → Pt → Prop} {PostX : Pt → Array Value → Addr → Pt → Prop} (hK : vx_Back l R p e below s args y 3 W Pre Post PostX)
    {b : Addr} {cellB : Cell} (hcell : T.heap[b]? = some cellB) (hobj : cellB.vm.isStatics = false) (hcls : s.vm.findClass C = some cellB.cls)
    {g : JFrame} (hg : g.method = m) (hsize : g.locals.size = c.maxLocals) {argsL rest : List Value} (hlen : ∀ sig, parseMethodDescriptor x.desc = some sig → argsL.length = sig.parameters.length)
    (hstack : g.stack = argsL.reverse ++ .ref b :: rest) (hW : 2 * g.monitorRoom + (rest.map fun v => v.category).sum ≤ W) (hdg : decode c.code g.pc = .ok (.invokevirtual index, 3))
    (hpre : ∀ vm₁, s.WarmedH vm₁ → Pre ⟨T.setVm vm₁, locs, cells, slots⟩ (Value.ref b :: argsL).toArray) :
    (∃ (v : Option Value) (vm₁ : Vm) (B : Pt), s.WarmedH vm₁ ∧ Stand p l e R s m args below meth c B.U B.locs B.cells B.slots ∧ Post ⟨T.setVm vm₁, locs, cells, slots⟩ (Value.ref b :: argsL).toArray v B ∧
      ∀ target, Steps p.tables e below (B.U.setTop { g with pc := g.pc + 3, stack := v.toList ++ rest }) target → Steps p.tables e below (T.setTop g) target) ∨
    (∃ (q : Addr) (vm₁ : Vm) (B : Pt), s.WarmedH vm₁ ∧ Stand p l e R s m args below meth c B.U B.locs B.cells B.slots ∧ PostX ⟨T.setVm vm₁, locs, cells, slots⟩ (Value.ref b :: argsL).toArray q B ∧
      Steps p.tables e below (T.setTop g) ((B.U.setTop { g with stack := rest }).pushFrame (.throwing q))) := by
  obtain ⟨r0, r, hn, hrm, hstR, hsigR⟩ := hd0
  obtain ⟨cn, ck, r1, hcn, hck, hni, hf, hn1⟩ := Cond.sameMethod_found hsame
  cases hn.symm.trans hn1
  obtain ⟨mk, methM, hnamed, hmethM, -, habM⟩ := Cond.instanceMethod_spec hinst
  obtain ⟨c2, r2, m2, q1, q2, q3, q4, kP, hkP, hkPi⟩ := Cond.selects_spec hsel
  cases hcls.symm.trans q1
  cases hf.symm.trans q2
  cases hnamed.symm.trans q3
  have hselP : selectMethod e.platform s.vm cellB.cls r0 = .method mk := by rw [Launch.admits_selectMethod X.admits]; exact q4
  obtain ⟨vm₁, X₁, hstep₁⟩ := X.invokevirtualUp hexec hown hlink hsame howner hn hrm hstR (a := b) (cell := cellB) hcell
    (fun z h => by rw [h] at hobj; cases hobj) hselP hmethM habM hkP hkPi (g := g) hg (argsL := argsL) (rest := rest) (hlen _ hsigR) hstack hdg
  rcases hK m meth c ⟨T.setVm vm₁, locs, cells, slots⟩ { g with stack := rest } (.invokevirtual index) mk (Value.ref b :: argsL).toArray X₁ hg hsize hdg hW (X₁.named hnamed) (hpre vm₁ X₁.warmed) with ⟨v, B, X', hpost, hsteps⟩ | ⟨q, B, X', hpost, hsteps⟩
  · exact Or.inl ⟨v, vm₁, B, X₁.warmed, X', hpost, fun target h => hstep₁ _ fun acts => by rw [doInvoke_state]; exact hsteps.trans h⟩
  · exact Or.inr ⟨q, vm₁, B, X₁.warmed, X', hpost, hstep₁ _ fun acts => by rw [doInvoke_state]; exact hsteps⟩
theorem vx_runU {x y : MethodName} {bytes cc : ByteArray} {maxL nL mc ms n index : Nat} {ret : Option FieldType} {ws : List Cond} {rm : Room} {Pc : Array Value → State → Prop} {Qc : Array Value → State → Outcome → State → Prop} {XC : String → State → State → Prop} {free : Addr → Prop} {Ts : List Cond} {own C owner : String} {b : Addr} {As rest : List Value} {g : JFrame}
    (S : CallFix p m c cc nL s args Ts own) (hM : vx_Met l y ws rm Pc Qc XC mc ms free) (cw : va_CU R s args own C owner index x y bytes maxL ret ws rm mc ms n) (hp : PreV s H C b Pc As)
    (hg : g.method = m) (hn : As.length = n) (hsize : g.locals.size = nL) (hstack : g.stack = As.reverse ++ .ref b :: rest) (hW : 2 * g.monitorRoom + (rest.map fun v => v.category).sum ≤ 8) (hdg : decode cc g.pc = .ok (.invokevirtual index, 3)) (hf : cells + mc ≤ R.cells ∧ slots + ms ≤ R.slots) :
    vx_Run p l e R s m args below meth c H locs cells slots mc ms g rest (Qc (Value.ref b :: As).toArray) XC free := by
  obtain ⟨hrc, hrs, hfr, hlo, hws, hcw⟩ := cw.back
  have hini := cw.init
  have hK : vx_Back l R p e below s args y 3 8 (PreOf R mc ms Pc) (PostOf Qc mc ms free) (vx_Post XC mc ms free) := vx_back (bytes := bytes) (maxL := maxL) (ret := ret) hM hp.1 hrc hrs hfr hlo hws hcw (fun a' U hW => word_at hW (Or.inl (by first | rfl | simp [Cond.onTables, Cond.keeps, Cond.steady])) hini)
  obtain ⟨hx, hb, hml, ho, -⟩ := S
  obtain ⟨-, ⟨cellB, hcB, hoB, hclB⟩, hPc⟩ := hp
  intro T hT X
  rcases vx_callVU X hx (C := C) (owner := owner) (bytes := bytes) (maxL := maxL) (ret := ret) ho cw.link cw.same cw.decl cw.notMH cw.sel cw.inst cw.code hK (by rw [hT]; exact hcB) hoB hclB hg (hsize.trans hml.symm) (argsL := As) (rest := rest) (fun sig h => hn.trans (cw.len sig h)) hstack hW (by rw [hb]; exact hdg)
    (fun vm₁ hW₁ => ⟨hf.1, hf.2, hPc (T.setVm vm₁) hT hW₁⟩) with ⟨v, vm₁, ⟨U', l2, c2, s2⟩, hW₁, X', ⟨g', mk, t, L, e1, e2, hq, h1, hL, h2, h3⟩, st⟩ | ⟨q, vm₁, ⟨U', l2, c2, s2⟩, hW₁, X', ⟨g', mk, t, L, E, ce, e1, e2, hq, hce, hcv, hcl, h1, hL, h2, h3⟩, st⟩
  · dsimp only [Pt.U, Pt.locs, Pt.cells, Pt.slots] at X' e1 e2 h1 h2 h3 st
    subst h1; subst h2; subst h3
    exact Or.inl ⟨v, (T.setVm vm₁).calling g' mk (Value.ref b :: As).toArray, t, U', L, hT, X', hL, e1, e2, hq, st⟩
  · dsimp only [Pt.U, Pt.locs, Pt.cells, Pt.slots] at X' e1 e2 h1 h2 h3 st hcl
    subst h1; subst h2; subst h3
    exact Or.inr ⟨q, (T.setVm vm₁).calling g' mk (Value.ref b :: As).toArray, t, U', L, E, ce, hT, X', hL, e1, e2, hq, hce, hcv, vx_cls hW₁ hcl, st⟩
end
/-! ===== END ===== -/
/-! ===== BEGIN super.m(..) that may throw (follows va_callSU, va_runSU) ===== -/
section
variable {p : Program} {l : Launch} {e : Env} {R : Room} {s : State} {m : MethodId} {args : Array Value} {below : List Frame} {meth : Method} {c : Code} {H : Heap} {locs : List Loc} {cells slots : Nat}
theorem vx_callSU {T : State} {locs : List Loc} {cells slots : Nat} (X : Stand p l e R s m args below meth c T locs cells slots) (hexec : p.tables.exec = Jvm.exec) {own : String} {index : Nat} {y : MethodName} {bytes : ByteArray} {maxL : Nat} {ret : Option FieldType}
    (hown : s.vm.findClass own = some m.cls) (hlink : (Cond.methodLink own index y).before args s = true) (hsame : (Cond.sameMethod y.cls y.cls y.name y.desc).before args s = true) (hsup : (Cond.superclass own y.cls).before args s = true)
    (hinst : (Cond.instanceMethod y).before args s = true) (hcode : (Cond.code y bytes maxL ret).before args s = true) (hno : y.name ≠ "<init>")
    {W : Nat} {Pre : Pt → Array Value → Prop} {Post : Pt → Array Value → Option Value → Pt → Prop} {PostX : Pt → Array Value → Addr → Pt → Prop} (hK : vx_Back l R p e below s args y 3 W Pre Post PostX)
    {b : Addr} {cellB : Cell} {kB : Class} (hcell : T.heap[b]? = some cellB) (hobj : cellB.vm.isStatics = false) (hkB : s.vm.classes[cellB.cls]? = some kB)
    {g : JFrame} (hg : g.method = m) (hsize : g.locals.size = c.maxLocals) {argsL rest : List Value} (hlen : ∀ sig, parseMethodDescriptor y.desc = some sig → argsL.length = sig.parameters.length)
    (hstack : g.stack = argsL.reverse ++ .ref b :: rest) (hW : 2 * g.monitorRoom + (rest.map fun v => v.category).sum ≤ W) (hdg : decode c.code g.pc = .ok (.invokespecial index, 3))
    (hpre : ∀ vm₁, s.WarmedH vm₁ → Pre ⟨T.setVm vm₁, locs, cells, slots⟩ (Value.ref b :: argsL).toArray) :
    (∃ (v : Option Value) (vm₁ : Vm) (B : Pt), s.WarmedH vm₁ ∧ Stand p l e R s m args below meth c B.U B.locs B.cells B.slots ∧ Post ⟨T.setVm vm₁, locs, cells, slots⟩ (Value.ref b :: argsL).toArray v B ∧
      ∀ target, Steps p.tables e below (B.U.setTop { g with pc := g.pc + 3, stack := v.toList ++ rest }) target → Steps p.tables e below (T.setTop g) target) ∨
    (∃ (q : Addr) (vm₁ : Vm) (B : Pt), s.WarmedH vm₁ ∧ Stand p l e R s m args below meth c B.U B.locs B.cells B.slots ∧ PostX ⟨T.setVm vm₁, locs, cells, slots⟩ (Value.ref b :: argsL).toArray q B ∧
      Steps p.tables e below (T.setTop g) ((B.U.setTop { g with stack := rest }).pushFrame (.throwing q))) := by
  obtain ⟨mk, methM, hnamed, hmethM, hstM, habM⟩ := Cond.instanceMethod_spec hinst
  obtain ⟨methM', cM, hmethM', -, -, -, -, -, -, hsigM⟩ := Cond.code_spec hnamed hcode
  cases hmethM.symm.trans hmethM'
  obtain ⟨ps, dk, kp, hps, hdk, hkp, hsuper, -, -, hnid⟩ := Cond.superclass_spec hown hsup
  have hn : s.methodNamed? ⟨y.cls, y.name, y.desc⟩ = some mk := hnamed
  have hpm : ps = mk.cls := Option.some.inj (hps.symm.trans (findClass_of_methodNamed hnamed))
  have hsub : s.vm.isSubclass ps mk.cls = true := by rw [hpm]; simp [Vm.isSubclass, Vm.isSubclassAux]
  obtain ⟨vm₁, X₁, hstep₁⟩ := X.invokespecialUp hexec hown hlink hsame hn hmethM hstM habM hno hdk hnid hps hsuper hsub (a := b) (cell := cellB) hcell
    (fun z h => by rw [h] at hobj; cases hobj) hkB (g := g) hg (argsL := argsL) (rest := rest) (hlen _ hsigM) hstack hdg
  rcases hK m meth c ⟨T.setVm vm₁, locs, cells, slots⟩ { g with stack := rest } (.invokespecial index) mk (Value.ref b :: argsL).toArray X₁ hg hsize hdg hW (X₁.named hnamed) (hpre vm₁ X₁.warmed) with ⟨v, B, X', hpost, hsteps⟩ | ⟨q, B, X', hpost, hsteps⟩
  · exact Or.inl ⟨v, vm₁, B, X₁.warmed, X', hpost, fun target h => hstep₁ _ (by rw [doInvoke_state]; exact hsteps.trans h)⟩
  · exact Or.inr ⟨q, vm₁, B, X₁.warmed, X', hpost, hstep₁ _ (by rw [doInvoke_state]; exact hsteps)⟩
theorem vx_runSU {y : MethodName} {bytes cc : ByteArray} {maxL nL mc ms n index : Nat} {ret : Option FieldType} {ws : List Cond} {rm : Room} {Pc : Array Value → State → Prop} {Qc : Array Value → State → Outcome → State → Prop} {XC : String → State → State → Prop} {free : Addr → Prop} {Ts : List Cond} {own C : String} {cC : ClassId} {b : Addr} {As rest : List Value} {g : JFrame}
    (hat : ClassAt s C cC) (S : CallFix p m c cc nL s args Ts own) (hM : vx_Met l y ws rm Pc Qc XC mc ms free) (cw : va_CS R s args own index y bytes maxL ret ws rm mc ms n) (hp : PreV s H C b Pc As)
    (hg : g.method = m) (hn : As.length = n) (hsize : g.locals.size = nL) (hstack : g.stack = As.reverse ++ .ref b :: rest) (hW : 2 * g.monitorRoom + (rest.map fun v => v.category).sum ≤ 8) (hdg : decode cc g.pc = .ok (.invokespecial index, 3)) (hf : cells + mc ≤ R.cells ∧ slots + ms ≤ R.slots) :
    vx_Run p l e R s m args below meth c H locs cells slots mc ms g rest (Qc (Value.ref b :: As).toArray) XC free := by
  obtain ⟨⟨hrc, hrs, hfr, hlo, hws, hcw⟩, hl1, hl2, hl3, hl4, hini, hcode, hno, hlen⟩ := cw
  have hK : vx_Back l R p e below s args y 3 8 (PreOf R mc ms Pc) (PostOf Qc mc ms free) (vx_Post XC mc ms free) := vx_back (bytes := bytes) (maxL := maxL) (ret := ret) hM hp.1 hrc hrs hfr hlo hws hcw (fun a' U hW => word_at hW (Or.inl (by first | rfl | simp [Cond.onTables, Cond.keeps, Cond.steady])) hini)
  obtain ⟨hx, hb, hml, ho, -⟩ := S
  obtain ⟨-, ⟨cellB, hcB, hoB, hclB⟩, hPc⟩ := hp
  obtain ⟨hfc, kB, hkB, -⟩ := hat
  cases hfc.symm.trans hclB
  intro T hT X
  rcases vx_callSU X hx (bytes := bytes) (maxL := maxL) (ret := ret) ho hl1 hl2 hl3 hl4 hcode hno hK (by rw [hT]; exact hcB) hoB hkB hg (hsize.trans hml.symm) (argsL := As) (rest := rest) (fun sig h => hn.trans (hlen sig h)) hstack hW (by rw [hb]; exact hdg)
    (fun vm₁ hW₁ => ⟨hf.1, hf.2, hPc (T.setVm vm₁) hT hW₁⟩) with ⟨v, vm₁, ⟨U', l2, c2, s2⟩, hW₁, X', ⟨g', mk, t, L, e1, e2, hq, h1, hL, h2, h3⟩, st⟩ | ⟨q, vm₁, ⟨U', l2, c2, s2⟩, hW₁, X', ⟨g', mk, t, L, E, ce, e1, e2, hq, hce, hcv, hcl, h1, hL, h2, h3⟩, st⟩
  · dsimp only [Pt.U, Pt.locs, Pt.cells, Pt.slots] at X' e1 e2 h1 h2 h3 st
    subst h1; subst h2; subst h3
    exact Or.inl ⟨v, (T.setVm vm₁).calling g' mk (Value.ref b :: As).toArray, t, U', L, hT, X', hL, e1, e2, hq, st⟩
  · dsimp only [Pt.U, Pt.locs, Pt.cells, Pt.slots] at X' e1 e2 h1 h2 h3 st hcl
    subst h1; subst h2; subst h3
    exact Or.inr ⟨q, (T.setVm vm₁).calling g' mk (Value.ref b :: As).toArray, t, U', L, E, ce, hT, X', hL, e1, e2, hq, hce, hcv, vx_cls hW₁ hcl, st⟩
end
/-! ===== END ===== -/
/-! ===== BEGIN a private method of a nest mate that may throw (follows va_callVN, va_callSN, va_runVN, va_runSN) ===== -/
section
variable {p : Program} {l : Launch} {e : Env} {R : Room} {s : State} {m : MethodId} {args : Array Value} {below : List Frame} {meth : Method} {c : Code} {H : Heap} {locs : List Loc} {cells slots : Nat}
variable {T : State}
theorem vx_callVN (X : Stand p l e R s m args below meth c T locs cells slots) (hexec : p.tables.exec = Jvm.exec) {own C : String} {index : Nat} {host : String} {y : MethodName} {bytes : ByteArray} {maxL : Nat} {ret : Option FieldType}
    (hown : s.vm.findClass own = some m.cls) (hlink : (Cond.methodLinkNest own index y host).before args s = true) (hinst : (Cond.instanceMethod y).before args s = true) (hsel : (Cond.selects C y y).before args s = true)
    (hcode : (Cond.code y bytes maxL ret).before args s = true) (hy : y.cls ≠ "java/lang/invoke/MethodHandle" ∧ y.cls ≠ "java/lang/invoke/VarHandle")
    {W : Nat} {Pre : Pt → Array Value → Prop} {Post : Pt → Array Value → Option Value → Pt → Prop} {PostX : Pt → Array Value → Addr → Pt → Prop} (hK : vx_Back l R p e below s args y 3 W Pre Post PostX)
    {b : Addr} {cellB : Cell} (hcell : T.heap[b]? = some cellB) (hobj : cellB.vm.isStatics = false) (hcls : s.vm.findClass C = some cellB.cls)
    {g : JFrame} (hg : g.method = m) (hsize : g.locals.size = c.maxLocals) {argsL rest : List Value} (hlen : ∀ sig, parseMethodDescriptor y.desc = some sig → argsL.length = sig.parameters.length)
    (hstack : g.stack = argsL.reverse ++ .ref b :: rest) (hW : 2 * g.monitorRoom + (rest.map fun v => v.category).sum ≤ W) (hdg : decode c.code g.pc = .ok (.invokevirtual index, 3))
    (hpre : ∀ vm₁, s.WarmedH vm₁ → Pre ⟨T.setVm vm₁, locs, cells, slots⟩ (Value.ref b :: argsL).toArray) :
    (∃ (v : Option Value) (vm₁ : Vm) (B : Pt), s.WarmedH vm₁ ∧ Stand p l e R s m args below meth c B.U B.locs B.cells B.slots ∧ Post ⟨T.setVm vm₁, locs, cells, slots⟩ (Value.ref b :: argsL).toArray v B ∧
      ∀ target, Steps p.tables e below (B.U.setTop { g with pc := g.pc + 3, stack := v.toList ++ rest }) target → Steps p.tables e below (T.setTop g) target) ∨
    (∃ (q : Addr) (vm₁ : Vm) (B : Pt), s.WarmedH vm₁ ∧ Stand p l e R s m args below meth c B.U B.locs B.cells B.slots ∧ PostX ⟨T.setVm vm₁, locs, cells, slots⟩ (Value.ref b :: argsL).toArray q B ∧
      Steps p.tables e below (T.setTop g) ((B.U.setTop { g with stack := rest }).pushFrame (.throwing q))) := by
  obtain ⟨mk, methM, hnamed, hmethM, hstM, habM⟩ := Cond.instanceMethod_spec hinst
  obtain ⟨methM', cM, hmethM', -, -, -, -, -, -, hsigM⟩ := Cond.code_spec hnamed hcode
  cases hmethM.symm.trans hmethM'
  obtain ⟨c2, r2, m2, q1, q2, q3, q4, kP, hkP, hkPi⟩ := Cond.selects_spec hsel
  cases hcls.symm.trans q1
  cases (State.methodFound?_of_named hnamed hy).symm.trans q2
  cases hnamed.symm.trans q3
  have hselP : selectMethod e.platform s.vm cellB.cls mk = .method mk := by rw [Launch.admits_selectMethod X.admits]; exact q4
  obtain ⟨vm₁, X₁, hstep₁⟩ := X.invokevirtualNest hexec hown hlink hnamed hmethM hstM hkP hkPi hy (a := b) (cell := cellB) hcell
    (fun z h => by rw [h] at hobj; cases hobj) hselP hmethM habM hkP hkPi (g := g) hg (argsL := argsL) (rest := rest) (hlen _ hsigM) hstack hdg
  rcases hK m meth c ⟨T.setVm vm₁, locs, cells, slots⟩ { g with stack := rest } (.invokevirtual index) mk (Value.ref b :: argsL).toArray X₁ hg hsize hdg hW (X₁.named hnamed) (hpre vm₁ X₁.warmed) with ⟨v, B, X', hpost, hsteps⟩ | ⟨q, B, X', hpost, hsteps⟩
  · exact Or.inl ⟨v, vm₁, B, X₁.warmed, X', hpost, fun target h => hstep₁ _ fun acts => by rw [doInvoke_state]; exact hsteps.trans h⟩
  · exact Or.inr ⟨q, vm₁, B, X₁.warmed, X', hpost, hstep₁ _ fun acts => by rw [doInvoke_state]; exact hsteps⟩
theorem vx_callSN (X : Stand p l e R s m args below meth c T locs cells slots) (hexec : p.tables.exec = Jvm.exec) {own : String} {index : Nat} {host : String} {y : MethodName} {bytes : ByteArray} {maxL : Nat} {ret : Option FieldType}
    (hown : s.vm.findClass own = some m.cls) (hlink : (Cond.methodLinkNest own index y host).before args s = true) (hstat : (Cond.static y).before args s = true) (hinit : (Cond.initialized y.cls).before args s = true)
    (hcode : (Cond.code y bytes maxL ret).before args s = true) (hy : y.cls ≠ "java/lang/invoke/MethodHandle" ∧ y.cls ≠ "java/lang/invoke/VarHandle")
    {W : Nat} {Pre : Pt → Array Value → Prop} {Post : Pt → Array Value → Option Value → Pt → Prop} {PostX : Pt → Array Value → Addr → Pt → Prop} (hK : vx_Back l R p e below s args y 3 W Pre Post PostX)
    {g : JFrame} (hg : g.method = m) (hsize : g.locals.size = c.maxLocals) {argsL rest : List Value} (hlen : ∀ sig, parseMethodDescriptor y.desc = some sig → argsL.length = sig.parameters.length)
    (hstack : g.stack = argsL.reverse ++ rest) (hW : 2 * g.monitorRoom + (rest.map fun v => v.category).sum ≤ W) (hdg : decode c.code g.pc = .ok (.invokestatic index, 3))
    (hpre : ∀ vm₁, s.WarmedH vm₁ → Pre ⟨T.setVm vm₁, locs, cells, slots⟩ argsL.toArray) :
    (∃ (v : Option Value) (vm₁ : Vm) (B : Pt), s.WarmedH vm₁ ∧ Stand p l e R s m args below meth c B.U B.locs B.cells B.slots ∧ Post ⟨T.setVm vm₁, locs, cells, slots⟩ argsL.toArray v B ∧
      ∀ target, Steps p.tables e below (B.U.setTop { g with pc := g.pc + 3, stack := v.toList ++ rest }) target → Steps p.tables e below (T.setTop g) target) ∨
    (∃ (q : Addr) (vm₁ : Vm) (B : Pt), s.WarmedH vm₁ ∧ Stand p l e R s m args below meth c B.U B.locs B.cells B.slots ∧ PostX ⟨T.setVm vm₁, locs, cells, slots⟩ argsL.toArray q B ∧
      Steps p.tables e below (T.setTop g) ((B.U.setTop { g with stack := rest }).pushFrame (.throwing q))) := by
  obtain ⟨mk, hnamed⟩ := Cond.code_named hcode
  obtain ⟨methM, cM, hmethM, -, -, -, -, -, -, hsigM⟩ := Cond.code_spec hnamed hcode
  have hstatic : methM.isStatic = true := Cond.static_spec hnamed hmethM hstat
  obtain ⟨kP, hkP, -⟩ := className_of_methodNamed hnamed
  have hinitP : kP.init = .initialized := Cond.initialized_spec (findClass_of_methodNamed hnamed) hkP hinit
  obtain ⟨vm₁, X₁, hstep₁⟩ := X.invokestaticNest hexec hown hlink hnamed hmethM hstatic hkP hinitP hy (g := g) hg (argsL := argsL) (rest := rest) (hlen _ hsigM) hstack hdg
  rcases hK m meth c ⟨T.setVm vm₁, locs, cells, slots⟩ { g with stack := rest } (.invokestatic index) mk argsL.toArray X₁ hg hsize hdg hW (X₁.named hnamed) (hpre vm₁ X₁.warmed) with ⟨v, B, X', hpost, hsteps⟩ | ⟨q, B, X', hpost, hsteps⟩
  · exact Or.inl ⟨v, vm₁, B, X₁.warmed, X', hpost, fun target h => hstep₁ _ fun acts => by rw [doInvoke_state]; exact hsteps.trans h⟩
  · exact Or.inr ⟨q, vm₁, B, X₁.warmed, X', hpost, hstep₁ _ fun acts => by rw [doInvoke_state]; exact hsteps⟩
theorem vx_runVN {y : MethodName} {bytes cc : ByteArray} {maxL nL mc ms n index : Nat} {ret : Option FieldType} {ws : List Cond} {rm : Room} {Pc : Array Value → State → Prop} {Qc : Array Value → State → Outcome → State → Prop} {XC : String → State → State → Prop} {free : Addr → Prop} {Ts : List Cond} {own C host : String} {b : Addr} {As rest : List Value} {g : JFrame}
    (S : CallFix p m c cc nL s args Ts own) (hM : vx_Met l y ws rm Pc Qc XC mc ms free) (cw : va_CN R s args own index y host bytes maxL ret ws rm mc ms n ∧ (Cond.instanceMethod y).before args s = true ∧ (Cond.selects C y y).before args s = true) (hp : PreV s H C b Pc As)
    (hg : g.method = m) (hn : As.length = n) (hsize : g.locals.size = nL) (hstack : g.stack = As.reverse ++ .ref b :: rest) (hW : 2 * g.monitorRoom + (rest.map fun v => v.category).sum ≤ 8) (hdg : decode cc g.pc = .ok (.invokevirtual index, 3)) (hf : cells + mc ≤ R.cells ∧ slots + ms ≤ R.slots) :
    vx_Run p l e R s m args below meth c H locs cells slots mc ms g rest (Qc (Value.ref b :: As).toArray) XC free := by
  obtain ⟨⟨⟨hrc, hrs, hfr, hlo, hws, hcw⟩, hcode, hini, hy, hlen, hl⟩, hx1, hx2⟩ := cw
  have hK : vx_Back l R p e below s args y 3 8 (PreOf R mc ms Pc) (PostOf Qc mc ms free) (vx_Post XC mc ms free) := vx_back (bytes := bytes) (maxL := maxL) (ret := ret) hM hp.1 hrc hrs hfr hlo hws hcw (fun a' U hW => word_at hW (Or.inl (by first | rfl | simp [Cond.onTables, Cond.keeps, Cond.steady])) hini)
  obtain ⟨hx, hb, hml, ho, -⟩ := S
  obtain ⟨-, ⟨cellB, hcB, hoB, hclB⟩, hPc⟩ := hp
  intro T hT X
  rcases vx_callVN X hx (C := C) (bytes := bytes) (maxL := maxL) (ret := ret) ho hl hx1 hx2 hcode hy hK (by rw [hT]; exact hcB) hoB hclB hg (hsize.trans hml.symm) (argsL := As) (rest := rest) (fun sig h => hn.trans (hlen sig h)) hstack hW (by rw [hb]; exact hdg)
    (fun vm₁ hW₁ => ⟨hf.1, hf.2, hPc (T.setVm vm₁) hT hW₁⟩) with ⟨v, vm₁, ⟨U', l2, c2, s2⟩, hW₁, X', ⟨g', mk, t, L, e1, e2, hq, h1, hL, h2, h3⟩, st⟩ | ⟨q, vm₁, ⟨U', l2, c2, s2⟩, hW₁, X', ⟨g', mk, t, L, E, ce, e1, e2, hq, hce, hcv, hcl, h1, hL, h2, h3⟩, st⟩
  · dsimp only [Pt.U, Pt.locs, Pt.cells, Pt.slots] at X' e1 e2 h1 h2 h3 st
    subst h1; subst h2; subst h3
    exact Or.inl ⟨v, (T.setVm vm₁).calling g' mk (Value.ref b :: As).toArray, t, U', L, hT, X', hL, e1, e2, hq, st⟩
  · dsimp only [Pt.U, Pt.locs, Pt.cells, Pt.slots] at X' e1 e2 h1 h2 h3 st hcl
    subst h1; subst h2; subst h3
    exact Or.inr ⟨q, (T.setVm vm₁).calling g' mk (Value.ref b :: As).toArray, t, U', L, E, ce, hT, X', hL, e1, e2, hq, hce, hcv, vx_cls hW₁ hcl, st⟩
theorem vx_runSN {y : MethodName} {bytes cc : ByteArray} {maxL nL mc ms n index : Nat} {ret : Option FieldType} {ws : List Cond} {rm : Room} {Pc : Array Value → State → Prop} {Qc : Array Value → State → Outcome → State → Prop} {XC : String → State → State → Prop} {free : Addr → Prop} {Ts : List Cond} {own host : String} {As rest : List Value} {g : JFrame}
    (S : CallFix p m c cc nL s args Ts own) (hM : vx_Met l y ws rm Pc Qc XC mc ms free) (cw : va_CN R s args own index y host bytes maxL ret ws rm mc ms n ∧ (Cond.static y).before args s = true ∧ True) (hp : PreS s H Pc As)
    (hg : g.method = m) (hn : As.length = n) (hsize : g.locals.size = nL) (hstack : g.stack = As.reverse ++ rest) (hW : 2 * g.monitorRoom + (rest.map fun v => v.category).sum ≤ 8) (hdg : decode cc g.pc = .ok (.invokestatic index, 3)) (hf : cells + mc ≤ R.cells ∧ slots + ms ≤ R.slots) :
    vx_Run p l e R s m args below meth c H locs cells slots mc ms g rest (Qc As.toArray) XC free := by
  obtain ⟨⟨⟨hrc, hrs, hfr, hlo, hws, hcw⟩, hcode, hini, hy, hlen, hl⟩, hx1, hx2⟩ := cw
  have hK : vx_Back l R p e below s args y 3 8 (PreOf R mc ms Pc) (PostOf Qc mc ms free) (vx_Post XC mc ms free) := vx_back (bytes := bytes) (maxL := maxL) (ret := ret) hM hp.1 hrc hrs hfr hlo hws hcw (fun a' U hW => word_at hW (Or.inl (by first | rfl | simp [Cond.onTables, Cond.keeps, Cond.steady])) hini)
  obtain ⟨hx, hb, hml, ho, -⟩ := S
  have hPc := hp.2
  intro T hT X
  rcases vx_callSN X hx (bytes := bytes) (maxL := maxL) (ret := ret) ho hl hx1 hini hcode hy hK hg (hsize.trans hml.symm) (argsL := As) (rest := rest) (fun sig h => hn.trans (hlen sig h)) hstack hW (by rw [hb]; exact hdg)
    (fun vm₁ hW₁ => ⟨hf.1, hf.2, hPc (T.setVm vm₁) hT hW₁⟩) with ⟨v, vm₁, ⟨U', l2, c2, s2⟩, hW₁, X', ⟨g', mk, t, L, e1, e2, hq, h1, hL, h2, h3⟩, st⟩ | ⟨q, vm₁, ⟨U', l2, c2, s2⟩, hW₁, X', ⟨g', mk, t, L, E, ce, e1, e2, hq, hce, hcv, hcl, h1, hL, h2, h3⟩, st⟩
  · dsimp only [Pt.U, Pt.locs, Pt.cells, Pt.slots] at X' e1 e2 h1 h2 h3 st
    subst h1; subst h2; subst h3
    exact Or.inl ⟨v, (T.setVm vm₁).calling g' mk As.toArray, t, U', L, hT, X', hL, e1, e2, hq, st⟩
  · dsimp only [Pt.U, Pt.locs, Pt.cells, Pt.slots] at X' e1 e2 h1 h2 h3 st hcl
    subst h1; subst h2; subst h3
    exact Or.inr ⟨q, (T.setVm vm₁).calling g' mk As.toArray, t, U', L, E, ce, hT, X', hL, e1, e2, hq, hce, hcv, vx_cls hW₁ hcl, st⟩
end
/-! ===== END ===== -/
/-! ===== BEGIN calls by an interface of methods that may throw (vx_callIF, vx_runF follow va_callIF, va_runF of this kit) ===== -/
section
variable {p : Program} {l : Launch} {e : Env} {R : Room} {s : State} {m : MethodId} {args : Array Value} {below : List Frame} {meth : Method} {c : Code} {H : Heap} {locs : List Loc} {cells slots : Nat} {Q : State → Prop}
variable {mc ms : Nat} {free : Addr → Prop} {A0 A1 : Nat → Prop} {H0 : Heap} {a : Array Value} {pc : Nat} {ls : Array Slot} {st0 rest : List Value}
def vx_Run5 (p : Program) (l : Launch) (e : Env) (R : Room) (s : State) (m : MethodId) (args : Array Value) (below : List Frame) (meth : Method) (c : Code) (H : Heap) (locs : List Loc) (cells slots mc ms : Nat) (g : JFrame) (rest : List Value) (Qa : State → Outcome → State → Prop) (XC : String → State → State → Prop) (free : Addr → Prop) : Prop :=
  ∀ T : State, T.heap = H → Stand p l e R s m args below meth c T locs cells slots →
    (∃ (v : Option Value) (st₀ t T' : State) (L : List Loc), st₀.heap = H ∧ Stand p l e R s m args below meth c T' (locs ++ L) (cells + mc) (slots + ms) ∧ (∀ q ∈ L, free q.base) ∧ T'.heap = t.heap ∧ T'.vm = t.vm ∧ Qa st₀ (.returned v) t ∧
      Goes p e below T g T' { g with pc := g.pc + 5, stack := v.toList ++ rest }) ∨
    (∃ (q : Addr) (st₀ t T' : State) (L : List Loc) (E : String) (ce : Cell), st₀.heap = H ∧ Stand p l e R s m args below meth c T' (locs ++ L) (cells + mc) (slots + ms) ∧ (∀ z ∈ L, free z.base) ∧ T'.heap = t.heap ∧ T'.vm = t.vm ∧ XC E st₀ t ∧ t.heap[q]? = some ce ∧ ce.vm = .none ∧ s.vm.findClass E = some ce.cls ∧
      Steps p.tables e below (T.setTop g) ((T'.setTop { g with stack := rest }).pushFrame (.throwing q)))
theorem vx_callIF {T : State} (X : Stand p l e R s m args below meth c T locs cells slots) (hexec : p.tables.exec = Jvm.exec) {own C : String} {index count : Nat} {x y : MethodName} {bytes : ByteArray} {maxL : Nat} {ret : Option FieldType}
    (hown : s.vm.findClass own = some m.cls) (hlink : (Cond.methodLink own index x).before args s = true) (hdecl : (Cond.declares x).before args s = true) (hface : (Cond.interfaceMethod x.cls x.cls x.name x.desc).before args s = true)
    (hsel : (Cond.selects C x y).before args s = true) (hinst : (Cond.instanceMethod y).before args s = true) (hpub : (Cond.publicMethod y).before args s = true) (hunh : (Cond.unhidden C x.name x.desc).before args s = true)
    (hcast : (Cond.castable C x.cls).before args s = true) (hcode : (Cond.code y bytes maxL ret).before args s = true) (hx : x.cls ≠ "java/lang/invoke/MethodHandle" ∧ x.cls ≠ "java/lang/invoke/VarHandle")
    {W9 : Nat} {Pre : Pt → Array Value → Prop} {Post : Pt → Array Value → Option Value → Pt → Prop} {PostX : Pt → Array Value → Addr → Pt → Prop} (hK : vx_Back l R p e below s args y 5 W9 Pre Post PostX)
    {b : Addr} {cellB : Cell} {kB : Class} (hcell : T.heap[b]? = some cellB) (hobj : cellB.vm.isStatics = false) (hcls : s.vm.findClass C = some cellB.cls) (hkB : s.vm.classes[cellB.cls]? = some kB)
    {g : JFrame} (hg : g.method = m) (hsize : g.locals.size = c.maxLocals) {argsL rest : List Value} (hlen : ∀ sig, parseMethodDescriptor x.desc = some sig → argsL.length = sig.parameters.length)
    (hstack : g.stack = argsL.reverse ++ .ref b :: rest) (hW : 2 * g.monitorRoom + (rest.map fun v => v.category).sum ≤ W9) (hdg : decode c.code g.pc = .ok (.invokeinterface index count, 5))
    (hpre : ∀ vm₁, s.WarmedH vm₁ → Pre ⟨T.setVm vm₁, locs, cells, slots⟩ (Value.ref b :: argsL).toArray) :
    (∃ (v : Option Value) (vm₁ : Vm) (B : Pt), s.WarmedH vm₁ ∧ Stand p l e R s m args below meth c B.U B.locs B.cells B.slots ∧ Post ⟨T.setVm vm₁, locs, cells, slots⟩ (Value.ref b :: argsL).toArray v B ∧
      ∀ target, Steps p.tables e below (B.U.setTop { g with pc := g.pc + 5, stack := v.toList ++ rest }) target → Steps p.tables e below (T.setTop g) target) ∨
    (∃ (q : Addr) (vm₁ : Vm) (B : Pt), s.WarmedH vm₁ ∧ Stand p l e R s m args below meth c B.U B.locs B.cells B.slots ∧ PostX ⟨T.setVm vm₁, locs, cells, slots⟩ (Value.ref b :: argsL).toArray q B ∧
      Steps p.tables e below (T.setTop g) ((B.U.setTop { g with stack := rest }).pushFrame (.throwing q))) := by
  obtain ⟨r0, r, hn, hrm, hstR, hsigR⟩ := Cond.declares_spec hdecl
  obtain ⟨cL, kL, r1, hcL, hkL, hiL, hfoundL, hn1⟩ := Cond.interfaceMethod_spec hface
  cases hn.symm.trans hn1
  have hr0cls : r0.cls = cL := Option.some.inj ((findClass_of_methodNamed hn).symm.trans hcL)
  obtain ⟨hnameR, hdescR⟩ := name_of_methodNamed hn hrm
  obtain ⟨mk, methM, hnamed, hmethM, -, habM⟩ := Cond.instanceMethod_spec hinst
  obtain ⟨c2, r2, m2, q1, q2, q3, q4, -⟩ := Cond.selects_spec hsel
  cases hcls.symm.trans q1
  cases hfoundL.symm.trans q2
  cases hnamed.symm.trans q3
  have hselP : selectMethod e.platform s.vm cellB.cls r0 = .method mk := by rw [Launch.admits_selectMethod X.admits]; exact q4
  have hpubM : hasFlag methM.accessFlags Acc.public_ = true := Cond.publicMethod_spec hnamed hmethM hpub
  have hway : ((cellB.cls :: s.vm.superclasses cellB.cls).any fun k => (declaredIn s.vm r.name r.desc k).any fun (_, z) => z.isPrivate || z.isStatic) = false := by
    rw [hnameR, hdescR]; exact Cond.unhidden_spec hcls hunh
  obtain ⟨c3, t3, w1, w2, w3⟩ := Cond.castable_spec hcast
  cases hcls.symm.trans w1
  cases hcL.symm.trans w2
  obtain ⟨vm₁, X₁, hstep₁⟩ := X.invokeinterface hexec hown hlink hn hrm hstR (by rw [hr0cls]; exact hkL) hiL hx (a := b) (cell := cellB) (kcell := kB) hcell
    (fun z h => by rw [h] at hobj; cases hobj) hkB (by rw [hr0cls]; exact w3) hselP hmethM hway hpubM habM (g := g) hg (argsL := argsL) (rest := rest) (hlen _ hsigR) hstack hdg
  rcases hK m meth c ⟨T.setVm vm₁, locs, cells, slots⟩ { g with stack := rest } (.invokeinterface index count) mk (Value.ref b :: argsL).toArray X₁ hg hsize hdg hW (X₁.named hnamed) (hpre vm₁ X₁.warmed) with ⟨v, B, X', hpost, hsteps⟩ | ⟨q, B, X', hpost, hsteps⟩
  · exact Or.inl ⟨v, vm₁, B, X₁.warmed, X', hpost, fun target h => hstep₁ _ fun acts => by rw [doInvoke_state]; exact hsteps.trans h⟩
  · exact Or.inr ⟨q, vm₁, B, X₁.warmed, X', hpost, hstep₁ _ fun acts => by rw [doInvoke_state]; exact hsteps⟩
theorem vx_runF {x y : MethodName} {bytes cc : ByteArray} {maxL nL mc ms n index count : Nat} {ret : Option FieldType} {ws : List Cond} {rm : Room} {Pc : Array Value → State → Prop} {Qc : Array Value → State → Outcome → State → Prop} {XC : String → State → State → Prop} {free : Addr → Prop} {Ts : List Cond} {own C : String} {cC : ClassId} {b : Addr} {As rest : List Value} {g : JFrame}
    (hat : ClassAt s C cC) (S : CallFix p m c cc nL s args Ts own) (hM : vx_Met l y ws rm Pc Qc XC mc ms free) (cw : va_CI R s args own C index x y bytes maxL ret ws rm mc ms n) (hp : PreV s H C b Pc As)
    (hg : g.method = m) (hn : As.length = n) (hsize : g.locals.size = nL) (hstack : g.stack = As.reverse ++ .ref b :: rest) (hW : 2 * g.monitorRoom + (rest.map fun v => v.category).sum ≤ 8) (hdg : decode cc g.pc = .ok (.invokeinterface index count, 5)) (hf : cells + mc ≤ R.cells ∧ slots + ms ≤ R.slots) :
    vx_Run5 p l e R s m args below meth c H locs cells slots mc ms g rest (Qc (Value.ref b :: As).toArray) XC free := by
  obtain ⟨hrc, hrs, hfr, hlo, hws, hcw⟩ := cw.back
  have hini := cw.init
  have hK : vx_Back l R p e below s args y 5 8 (PreOf R mc ms Pc) (PostOf Qc mc ms free) (vx_Post XC mc ms free) := vx_back (bytes := bytes) (maxL := maxL) (ret := ret) hM hp.1 hrc hrs hfr hlo hws hcw (fun a' U hW => word_at hW (Or.inl (by first | rfl | simp [Cond.onTables, Cond.keeps, Cond.steady])) hini)
  obtain ⟨hx, hb, hml, ho, -⟩ := S
  obtain ⟨-, ⟨cellB, hcB, hoB, hclB⟩, hPc⟩ := hp
  obtain ⟨hfc, kB, hkB, -⟩ := hat
  cases hfc.symm.trans hclB
  intro T hT X
  rcases vx_callIF X hx (C := C) (bytes := bytes) (maxL := maxL) (ret := ret) ho cw.link cw.decl cw.face cw.sel cw.inst cw.pub cw.unh cw.cast cw.code cw.notMH hK (by rw [hT]; exact hcB) hoB hclB hkB hg (hsize.trans hml.symm) (argsL := As) (rest := rest) (fun sig h => hn.trans (cw.len sig h)) hstack hW (by rw [hb]; exact hdg)
    (fun vm₁ hW₁ => ⟨hf.1, hf.2, hPc (T.setVm vm₁) hT hW₁⟩) with ⟨v, vm₁, ⟨U', l2, c2, s2⟩, hW₁, X', ⟨g', mk, t, L, e1, e2, hq, h1, hL, h2, h3⟩, st⟩ | ⟨q, vm₁, ⟨U', l2, c2, s2⟩, hW₁, X', ⟨g', mk, t, L, E, ce, e1, e2, hq, hce, hcv, hcl, h1, hL, h2, h3⟩, st⟩
  · dsimp only [Pt.U, Pt.locs, Pt.cells, Pt.slots] at X' e1 e2 h1 h2 h3 st
    subst h1; subst h2; subst h3
    exact Or.inl ⟨v, (T.setVm vm₁).calling g' mk (Value.ref b :: As).toArray, t, U', L, hT, X', hL, e1, e2, hq, st⟩
  · dsimp only [Pt.U, Pt.locs, Pt.cells, Pt.slots] at X' e1 e2 h1 h2 h3 st hcl
    subst h1; subst h2; subst h3
    exact Or.inr ⟨q, (T.setVm vm₁).calling g' mk (Value.ref b :: As).toArray, t, U', L, E, ce, hT, X', hL, e1, e2, hq, hce, hcv, vx_cls hW₁ hcl, st⟩
theorem vx_callFv {S SX : Type} {post : S → Prop} {px : SX → Prop} {B : S → State → Prop} {BX : String → SX → State → Prop} {AX : Nat → Prop} (hr : vx_Run5 p l e R s m args below meth c H locs cells slots mc ms (F0 m pc ls st0) rest (va_Qv post B A1 a) (vx_X px BX AX) free) (hS : va_S A0 H0 H locs) (hA : ∀ q, q < H.size → A1 q → A0 q) (hf : ∀ q, free q → A0 q) (hAX : ∀ q, q < H.size → AX q → A0 q)
    (kx : ∀ (E : String) (ce : Cell) (q9 : Addr) (u : SX) (t : State) (H1 : Heap) (locs1 : List Loc), t.heap = H1 → s.vm.Alike t.vm → px u → BX E u t → H.size ≤ H1.size → (∀ q : Nat, q < H.size → ¬ AX q → H1[q]? = H[q]?) → va_S A0 H0 H1 locs1 → H1[q9]? = some ce → ce.vm = .none → s.vm.findClass E = some ce.cls → vx_W p l e R s m args below meth c H1 locs1 (cells + mc) (slots + ms) Q (F0 m pc ls rest) q9)
    (kk : ∀ (u : S) (t : State) (H1 : Heap) (locs1 : List Loc), t.heap = H1 → s.vm.Alike t.vm → post u → B u t → H.size ≤ H1.size → (∀ q : Nat, q < H.size → ¬ A1 q → H1[q]? = H[q]?) → va_S A0 H0 H1 locs1 → W p l e R s m args below meth c H1 locs1 (cells + mc) (slots + ms) Q (F0 m (pc + 5) ls (rest))) : W p l e R s m args below meth c H locs cells slots Q (F0 m pc ls st0) := by
  intro T hT X
  rcases hr T hT X with ⟨v, st₀, t, T', L, h0, X', hL, e1, e2, ⟨⟨u, hv, hp, hb⟩, hF⟩, st⟩ | ⟨q, st₀, t, T', L, E, ce, h0, X', hL, e1, e2, ⟨u, hp, hb, hF⟩, hce, hcv, hcl, st⟩
  · cases hv
    obtain ⟨k1, k2, k3⟩ := vx_keep h0 e1 hS hA hf hL hF
    obtain ⟨t2, a1, b1⟩ := kk u t T'.heap (locs ++ L) e1.symm (by rw [← e2]; exact X'.warmed.alike) hp hb k1 k2 k3 T' rfl X'
    exact ⟨t2, st t2 a1, b1⟩
  · obtain ⟨k1, k2, k3⟩ := vx_keep h0 e1 hS hAX hf hL hF
    obtain ⟨t2, a1, b1⟩ := kx E ce q u t T'.heap (locs ++ L) e1.symm (by rw [← e2]; exact X'.warmed.alike) hp hb k1 k2 k3 (by rw [e1]; exact hce) hcv hcl T' rfl X'
    exact ⟨t2, st.trans a1, b1⟩
theorem vx_callFi {S SX : Type} {post : Int32 → S → Prop} {px : SX → Prop} {B : S → State → Prop} {BX : String → SX → State → Prop} {AX : Nat → Prop} (hr : vx_Run5 p l e R s m args below meth c H locs cells slots mc ms (F0 m pc ls st0) rest (va_Qi post B A1 a) (vx_X px BX AX) free) (hS : va_S A0 H0 H locs) (hA : ∀ q, q < H.size → A1 q → A0 q) (hf : ∀ q, free q → A0 q) (hAX : ∀ q, q < H.size → AX q → A0 q)
    (kx : ∀ (E : String) (ce : Cell) (q9 : Addr) (u : SX) (t : State) (H1 : Heap) (locs1 : List Loc), t.heap = H1 → s.vm.Alike t.vm → px u → BX E u t → H.size ≤ H1.size → (∀ q : Nat, q < H.size → ¬ AX q → H1[q]? = H[q]?) → va_S A0 H0 H1 locs1 → H1[q9]? = some ce → ce.vm = .none → s.vm.findClass E = some ce.cls → vx_W p l e R s m args below meth c H1 locs1 (cells + mc) (slots + ms) Q (F0 m pc ls rest) q9)
    (kk : ∀ (r : Int32) (u : S) (t : State) (H1 : Heap) (locs1 : List Loc), t.heap = H1 → s.vm.Alike t.vm → post r u → B u t → H.size ≤ H1.size → (∀ q : Nat, q < H.size → ¬ A1 q → H1[q]? = H[q]?) → va_S A0 H0 H1 locs1 → W p l e R s m args below meth c H1 locs1 (cells + mc) (slots + ms) Q (F0 m (pc + 5) ls (.int r :: rest))) : W p l e R s m args below meth c H locs cells slots Q (F0 m pc ls st0) := by
  intro T hT X
  rcases hr T hT X with ⟨v, st₀, t, T', L, h0, X', hL, e1, e2, ⟨⟨r, u, hv, hp, hb⟩, hF⟩, st⟩ | ⟨q, st₀, t, T', L, E, ce, h0, X', hL, e1, e2, ⟨u, hp, hb, hF⟩, hce, hcv, hcl, st⟩
  · cases hv
    obtain ⟨k1, k2, k3⟩ := vx_keep h0 e1 hS hA hf hL hF
    obtain ⟨t2, a1, b1⟩ := kk r u t T'.heap (locs ++ L) e1.symm (by rw [← e2]; exact X'.warmed.alike) hp hb k1 k2 k3 T' rfl X'
    exact ⟨t2, st t2 a1, b1⟩
  · obtain ⟨k1, k2, k3⟩ := vx_keep h0 e1 hS hAX hf hL hF
    obtain ⟨t2, a1, b1⟩ := kx E ce q u t T'.heap (locs ++ L) e1.symm (by rw [← e2]; exact X'.warmed.alike) hp hb k1 k2 k3 (by rw [e1]; exact hce) hcv hcl T' rfl X'
    exact ⟨t2, st.trans a1, b1⟩
theorem vx_callFl {S SX : Type} {post : Int64 → S → Prop} {px : SX → Prop} {B : S → State → Prop} {BX : String → SX → State → Prop} {AX : Nat → Prop} (hr : vx_Run5 p l e R s m args below meth c H locs cells slots mc ms (F0 m pc ls st0) rest (va_Ql post B A1 a) (vx_X px BX AX) free) (hS : va_S A0 H0 H locs) (hA : ∀ q, q < H.size → A1 q → A0 q) (hf : ∀ q, free q → A0 q) (hAX : ∀ q, q < H.size → AX q → A0 q)
    (kx : ∀ (E : String) (ce : Cell) (q9 : Addr) (u : SX) (t : State) (H1 : Heap) (locs1 : List Loc), t.heap = H1 → s.vm.Alike t.vm → px u → BX E u t → H.size ≤ H1.size → (∀ q : Nat, q < H.size → ¬ AX q → H1[q]? = H[q]?) → va_S A0 H0 H1 locs1 → H1[q9]? = some ce → ce.vm = .none → s.vm.findClass E = some ce.cls → vx_W p l e R s m args below meth c H1 locs1 (cells + mc) (slots + ms) Q (F0 m pc ls rest) q9)
    (kk : ∀ (r : Int64) (u : S) (t : State) (H1 : Heap) (locs1 : List Loc), t.heap = H1 → s.vm.Alike t.vm → post r u → B u t → H.size ≤ H1.size → (∀ q : Nat, q < H.size → ¬ A1 q → H1[q]? = H[q]?) → va_S A0 H0 H1 locs1 → W p l e R s m args below meth c H1 locs1 (cells + mc) (slots + ms) Q (F0 m (pc + 5) ls (.long r :: rest))) : W p l e R s m args below meth c H locs cells slots Q (F0 m pc ls st0) := by
  intro T hT X
  rcases hr T hT X with ⟨v, st₀, t, T', L, h0, X', hL, e1, e2, ⟨⟨r, u, hv, hp, hb⟩, hF⟩, st⟩ | ⟨q, st₀, t, T', L, E, ce, h0, X', hL, e1, e2, ⟨u, hp, hb, hF⟩, hce, hcv, hcl, st⟩
  · cases hv
    obtain ⟨k1, k2, k3⟩ := vx_keep h0 e1 hS hA hf hL hF
    obtain ⟨t2, a1, b1⟩ := kk r u t T'.heap (locs ++ L) e1.symm (by rw [← e2]; exact X'.warmed.alike) hp hb k1 k2 k3 T' rfl X'
    exact ⟨t2, st t2 a1, b1⟩
  · obtain ⟨k1, k2, k3⟩ := vx_keep h0 e1 hS hAX hf hL hF
    obtain ⟨t2, a1, b1⟩ := kx E ce q u t T'.heap (locs ++ L) e1.symm (by rw [← e2]; exact X'.warmed.alike) hp hb k1 k2 k3 (by rw [e1]; exact hce) hcv hcl T' rfl X'
    exact ⟨t2, st.trans a1, b1⟩
theorem vx_callFf {S SX : Type} {post : UInt32 → S → Prop} {px : SX → Prop} {B : S → State → Prop} {BX : String → SX → State → Prop} {AX : Nat → Prop} (hr : vx_Run5 p l e R s m args below meth c H locs cells slots mc ms (F0 m pc ls st0) rest (va_Qf post B A1 a) (vx_X px BX AX) free) (hS : va_S A0 H0 H locs) (hA : ∀ q, q < H.size → A1 q → A0 q) (hf : ∀ q, free q → A0 q) (hAX : ∀ q, q < H.size → AX q → A0 q)
    (kx : ∀ (E : String) (ce : Cell) (q9 : Addr) (u : SX) (t : State) (H1 : Heap) (locs1 : List Loc), t.heap = H1 → s.vm.Alike t.vm → px u → BX E u t → H.size ≤ H1.size → (∀ q : Nat, q < H.size → ¬ AX q → H1[q]? = H[q]?) → va_S A0 H0 H1 locs1 → H1[q9]? = some ce → ce.vm = .none → s.vm.findClass E = some ce.cls → vx_W p l e R s m args below meth c H1 locs1 (cells + mc) (slots + ms) Q (F0 m pc ls rest) q9)
    (kk : ∀ (r : UInt32) (u : S) (t : State) (H1 : Heap) (locs1 : List Loc), t.heap = H1 → s.vm.Alike t.vm → post r u → B u t → H.size ≤ H1.size → (∀ q : Nat, q < H.size → ¬ A1 q → H1[q]? = H[q]?) → va_S A0 H0 H1 locs1 → W p l e R s m args below meth c H1 locs1 (cells + mc) (slots + ms) Q (F0 m (pc + 5) ls (.float r :: rest))) : W p l e R s m args below meth c H locs cells slots Q (F0 m pc ls st0) := by
  intro T hT X
  rcases hr T hT X with ⟨v, st₀, t, T', L, h0, X', hL, e1, e2, ⟨⟨r, u, hv, hp, hb⟩, hF⟩, st⟩ | ⟨q, st₀, t, T', L, E, ce, h0, X', hL, e1, e2, ⟨u, hp, hb, hF⟩, hce, hcv, hcl, st⟩
  · cases hv
    obtain ⟨k1, k2, k3⟩ := vx_keep h0 e1 hS hA hf hL hF
    obtain ⟨t2, a1, b1⟩ := kk r u t T'.heap (locs ++ L) e1.symm (by rw [← e2]; exact X'.warmed.alike) hp hb k1 k2 k3 T' rfl X'
    exact ⟨t2, st t2 a1, b1⟩
  · obtain ⟨k1, k2, k3⟩ := vx_keep h0 e1 hS hAX hf hL hF
    obtain ⟨t2, a1, b1⟩ := kx E ce q u t T'.heap (locs ++ L) e1.symm (by rw [← e2]; exact X'.warmed.alike) hp hb k1 k2 k3 (by rw [e1]; exact hce) hcv hcl T' rfl X'
    exact ⟨t2, st.trans a1, b1⟩
theorem vx_callFd {S SX : Type} {post : UInt64 → S → Prop} {px : SX → Prop} {B : S → State → Prop} {BX : String → SX → State → Prop} {AX : Nat → Prop} (hr : vx_Run5 p l e R s m args below meth c H locs cells slots mc ms (F0 m pc ls st0) rest (va_Qd post B A1 a) (vx_X px BX AX) free) (hS : va_S A0 H0 H locs) (hA : ∀ q, q < H.size → A1 q → A0 q) (hf : ∀ q, free q → A0 q) (hAX : ∀ q, q < H.size → AX q → A0 q)
    (kx : ∀ (E : String) (ce : Cell) (q9 : Addr) (u : SX) (t : State) (H1 : Heap) (locs1 : List Loc), t.heap = H1 → s.vm.Alike t.vm → px u → BX E u t → H.size ≤ H1.size → (∀ q : Nat, q < H.size → ¬ AX q → H1[q]? = H[q]?) → va_S A0 H0 H1 locs1 → H1[q9]? = some ce → ce.vm = .none → s.vm.findClass E = some ce.cls → vx_W p l e R s m args below meth c H1 locs1 (cells + mc) (slots + ms) Q (F0 m pc ls rest) q9)
    (kk : ∀ (r : UInt64) (u : S) (t : State) (H1 : Heap) (locs1 : List Loc), t.heap = H1 → s.vm.Alike t.vm → post r u → B u t → H.size ≤ H1.size → (∀ q : Nat, q < H.size → ¬ A1 q → H1[q]? = H[q]?) → va_S A0 H0 H1 locs1 → W p l e R s m args below meth c H1 locs1 (cells + mc) (slots + ms) Q (F0 m (pc + 5) ls (.double r :: rest))) : W p l e R s m args below meth c H locs cells slots Q (F0 m pc ls st0) := by
  intro T hT X
  rcases hr T hT X with ⟨v, st₀, t, T', L, h0, X', hL, e1, e2, ⟨⟨r, u, hv, hp, hb⟩, hF⟩, st⟩ | ⟨q, st₀, t, T', L, E, ce, h0, X', hL, e1, e2, ⟨u, hp, hb, hF⟩, hce, hcv, hcl, st⟩
  · cases hv
    obtain ⟨k1, k2, k3⟩ := vx_keep h0 e1 hS hA hf hL hF
    obtain ⟨t2, a1, b1⟩ := kk r u t T'.heap (locs ++ L) e1.symm (by rw [← e2]; exact X'.warmed.alike) hp hb k1 k2 k3 T' rfl X'
    exact ⟨t2, st t2 a1, b1⟩
  · obtain ⟨k1, k2, k3⟩ := vx_keep h0 e1 hS hAX hf hL hF
    obtain ⟨t2, a1, b1⟩ := kx E ce q u t T'.heap (locs ++ L) e1.symm (by rw [← e2]; exact X'.warmed.alike) hp hb k1 k2 k3 (by rw [e1]; exact hce) hcv hcl T' rfl X'
    exact ⟨t2, st.trans a1, b1⟩
end
/-! ===== END ===== -/
/-! ===== BEGIN by an interface, a method with a table of its own that may throw (follows va_callIFW, va_runFW) ===== -/
section
variable {p : Program} {l : Launch} {e : Env} {R : Room} {s : State} {m : MethodId} {args : Array Value} {below : List Frame} {meth : Method} {c : Code} {H : Heap} {locs : List Loc} {cells slots : Nat}
theorem vx_callIFW {T : State} (X : Stand p l e R s m args below meth c T locs cells slots) (hexec : p.tables.exec = Jvm.exec) {own C : String} {index count : Nat} {x y : MethodName} {bytes : ByteArray} {maxL : Nat} {ret : Option FieldType} {hh : List (Nat × Nat × Nat × Nat)}
    (hown : s.vm.findClass own = some m.cls) (hlink : (Cond.methodLink own index x).before args s = true) (hdecl : (Cond.declares x).before args s = true) (hface : (Cond.interfaceMethod x.cls x.cls x.name x.desc).before args s = true)
    (hsel : (Cond.selects C x y).before args s = true) (hinst : (Cond.instanceMethod y).before args s = true) (hpub : (Cond.publicMethod y).before args s = true) (hunh : (Cond.unhidden C x.name x.desc).before args s = true)
    (hcast : (Cond.castable C x.cls).before args s = true) (hcode : (Cond.codeWith y bytes maxL ret hh).before args s = true) (hx : x.cls ≠ "java/lang/invoke/MethodHandle" ∧ x.cls ≠ "java/lang/invoke/VarHandle")
    {W : Nat} {Pre : Pt → Array Value → Prop} {Post : Pt → Array Value → Option Value → Pt → Prop} {PostX : Pt → Array Value → Addr → Pt → Prop} (hK : vx_Back l R p e below s args y 5 W Pre Post PostX)
    {b : Addr} {cellB : Cell} {kB : Class} (hcell : T.heap[b]? = some cellB) (hobj : cellB.vm.isStatics = false) (hcls : s.vm.findClass C = some cellB.cls) (hkB : s.vm.classes[cellB.cls]? = some kB)
    {g : JFrame} (hg : g.method = m) (hsize : g.locals.size = c.maxLocals) {argsL rest : List Value} (hlen : ∀ sig, parseMethodDescriptor x.desc = some sig → argsL.length = sig.parameters.length)
    (hstack : g.stack = argsL.reverse ++ .ref b :: rest) (hW : 2 * g.monitorRoom + (rest.map fun v => v.category).sum ≤ W) (hdg : decode c.code g.pc = .ok (.invokeinterface index count, 5))
    (hpre : ∀ vm₁, s.WarmedH vm₁ → Pre ⟨T.setVm vm₁, locs, cells, slots⟩ (Value.ref b :: argsL).toArray) :
    (∃ (v : Option Value) (vm₁ : Vm) (B : Pt), s.WarmedH vm₁ ∧ Stand p l e R s m args below meth c B.U B.locs B.cells B.slots ∧ Post ⟨T.setVm vm₁, locs, cells, slots⟩ (Value.ref b :: argsL).toArray v B ∧
      ∀ target, Steps p.tables e below (B.U.setTop { g with pc := g.pc + 5, stack := v.toList ++ rest }) target → Steps p.tables e below (T.setTop g) target) ∨
    (∃ (q : Addr) (vm₁ : Vm) (B : Pt), s.WarmedH vm₁ ∧ Stand p l e R s m args below meth c B.U B.locs B.cells B.slots ∧ PostX ⟨T.setVm vm₁, locs, cells, slots⟩ (Value.ref b :: argsL).toArray q B ∧
      Steps p.tables e below (T.setTop g) ((B.U.setTop { g with stack := rest }).pushFrame (.throwing q))) := by
  obtain ⟨r0, r, hn, hrm, hstR, hsigR⟩ := Cond.declares_spec hdecl
  obtain ⟨cL, kL, r1, hcL, hkL, hiL, hfoundL, hn1⟩ := Cond.interfaceMethod_spec hface
  cases hn.symm.trans hn1
  have hr0cls : r0.cls = cL := Option.some.inj ((findClass_of_methodNamed hn).symm.trans hcL)
  obtain ⟨hnameR, hdescR⟩ := name_of_methodNamed hn hrm
  obtain ⟨mk, methM, hnamed, hmethM, -, habM⟩ := Cond.instanceMethod_spec hinst
  obtain ⟨c2, r2, m2, q1, q2, q3, q4, -⟩ := Cond.selects_spec hsel
  cases hcls.symm.trans q1
  cases hfoundL.symm.trans q2
  cases hnamed.symm.trans q3
  have hselP : selectMethod e.platform s.vm cellB.cls r0 = .method mk := by rw [Launch.admits_selectMethod X.admits]; exact q4
  have hpubM : hasFlag methM.accessFlags Acc.public_ = true := Cond.publicMethod_spec hnamed hmethM hpub
  have hway : ((cellB.cls :: s.vm.superclasses cellB.cls).any fun k => (declaredIn s.vm r.name r.desc k).any fun (_, z) => z.isPrivate || z.isStatic) = false := by
    rw [hnameR, hdescR]; exact Cond.unhidden_spec hcls hunh
  obtain ⟨c3, t3, w1, w2, w3⟩ := Cond.castable_spec hcast
  cases hcls.symm.trans w1
  cases hcL.symm.trans w2
  obtain ⟨vm₁, X₁, hstep₁⟩ := X.invokeinterface hexec hown hlink hn hrm hstR (by rw [hr0cls]; exact hkL) hiL hx (a := b) (cell := cellB) (kcell := kB) hcell
    (fun z h => by rw [h] at hobj; cases hobj) hkB (by rw [hr0cls]; exact w3) hselP hmethM hway hpubM habM (g := g) hg (argsL := argsL) (rest := rest) (hlen _ hsigR) hstack hdg
  rcases hK m meth c ⟨T.setVm vm₁, locs, cells, slots⟩ { g with stack := rest } (.invokeinterface index count) mk (Value.ref b :: argsL).toArray X₁ hg hsize hdg hW (X₁.named hnamed) (hpre vm₁ X₁.warmed) with ⟨v, B, X', hpost, hsteps⟩ | ⟨q, B, X', hpost, hsteps⟩
  · exact Or.inl ⟨v, vm₁, B, X₁.warmed, X', hpost, fun target h => hstep₁ _ fun acts => by rw [doInvoke_state]; exact hsteps.trans h⟩
  · exact Or.inr ⟨q, vm₁, B, X₁.warmed, X', hpost, hstep₁ _ fun acts => by rw [doInvoke_state]; exact hsteps⟩
theorem vx_runFW {x y : MethodName} {bytes cc : ByteArray} {maxL nL mc ms n index count : Nat} {ret : Option FieldType} {hh : List (Nat × Nat × Nat × Nat)} {ws : List Cond} {rm : Room} {Pc : Array Value → State → Prop} {Qc : Array Value → State → Outcome → State → Prop} {XC : String → State → State → Prop} {free : Addr → Prop} {Ts : List Cond} {own C : String} {cC : ClassId} {b : Addr} {As rest : List Value} {g : JFrame}
    (hat : ClassAt s C cC) (S : CallFix p m c cc nL s args Ts own) (hM : vx_Met l y ws rm Pc Qc XC mc ms free) (cw : va_CIW R s args own C index x y bytes maxL ret hh ws rm mc ms n) (hp : PreV s H C b Pc As)
    (hg : g.method = m) (hn : As.length = n) (hsize : g.locals.size = nL) (hstack : g.stack = As.reverse ++ .ref b :: rest) (hW : 2 * g.monitorRoom + (rest.map fun v => v.category).sum ≤ 8) (hdg : decode cc g.pc = .ok (.invokeinterface index count, 5)) (hf : cells + mc ≤ R.cells ∧ slots + ms ≤ R.slots) :
    vx_Run5 p l e R s m args below meth c H locs cells slots mc ms g rest (Qc (Value.ref b :: As).toArray) XC free := by
  obtain ⟨hrc, hrs, hfr, hlo, hws, hcw⟩ := cw.back
  have hini := cw.init
  have hK : vx_Back l R p e below s args y 5 8 (PreOf R mc ms Pc) (PostOf Qc mc ms free) (vx_Post XC mc ms free) := vx_backW (hh := hh) (bytes := bytes) (maxL := maxL) (ret := ret) hM hp.1 hrc hrs hfr hlo hws hcw (fun a' U hW => word_at hW (Or.inl (by first | rfl | simp [Cond.onTables, Cond.keeps, Cond.steady])) hini)
  obtain ⟨hx, hb, hml, ho, -⟩ := S
  obtain ⟨-, ⟨cellB, hcB, hoB, hclB⟩, hPc⟩ := hp
  obtain ⟨hfc, kB, hkB, -⟩ := hat
  cases hfc.symm.trans hclB
  intro T hT X
  rcases vx_callIFW X hx (C := C) (hh := hh) (bytes := bytes) (maxL := maxL) (ret := ret) ho cw.link cw.decl cw.face cw.sel cw.inst cw.pub cw.unh cw.cast cw.code cw.notMH hK (by rw [hT]; exact hcB) hoB hclB hkB hg (hsize.trans hml.symm) (argsL := As) (rest := rest) (fun sig h => hn.trans (cw.len sig h)) hstack hW (by rw [hb]; exact hdg)
    (fun vm₁ hW₁ => ⟨hf.1, hf.2, hPc (T.setVm vm₁) hT hW₁⟩) with ⟨v, vm₁, ⟨U', l2, c2, s2⟩, hW₁, X', ⟨g', mk, t, L, e1, e2, hq, h1, hL, h2, h3⟩, st⟩ | ⟨q, vm₁, ⟨U', l2, c2, s2⟩, hW₁, X', ⟨g', mk, t, L, E, ce, e1, e2, hq, hce, hcv, hcl, h1, hL, h2, h3⟩, st⟩
  · dsimp only [Pt.U, Pt.locs, Pt.cells, Pt.slots] at X' e1 e2 h1 h2 h3 st
    subst h1; subst h2; subst h3
    exact Or.inl ⟨v, (T.setVm vm₁).calling g' mk (Value.ref b :: As).toArray, t, U', L, hT, X', hL, e1, e2, hq, st⟩
  · dsimp only [Pt.U, Pt.locs, Pt.cells, Pt.slots] at X' e1 e2 h1 h2 h3 st hcl
    subst h1; subst h2; subst h3
    exact Or.inr ⟨q, (T.setVm vm₁).calling g' mk (Value.ref b :: As).toArray, t, U', L, E, ce, hT, X', hL, e1, e2, hq, hce, hcv, vx_cls hW₁ hcl, st⟩
end
/-! ===== END ===== -/
/-! ===== BEGIN .. of methods that hand back an object of the pool ===== -/
section
variable {p : Program} {l : Launch} {e : Env} {R : Room} {s : State} {m : MethodId} {args : Array Value} {below : List Frame} {meth : Method} {c : Code} {H : Heap} {locs : List Loc} {cells slots : Nat} {Q : State → Prop}
variable {mc ms : Nat} {free : Addr → Prop} {A0 A1 : Nat → Prop} {H0 : Heap} {a : Array Value} {pc : Nat} {ls : Array Slot} {st0 rest : List Value}
theorem vx_callq {S SX : Type} {post : Option Nat → S → Prop} {px : SX → Prop} {B : S → State → Prop} {BX : String → SX → State → Prop} {AX : Nat → Prop} (hr : vx_Run p l e R s m args below meth c H locs cells slots mc ms (F0 m pc ls st0) rest (va_Qq post B A1 a) (vx_X px BX AX) free) (hS : va_S A0 H0 H locs) (hA : ∀ q, q < H.size → A1 q → A0 q) (hf : ∀ q, free q → A0 q) (hAX : ∀ q, q < H.size → AX q → A0 q)
    (kx : ∀ (E : String) (ce : Cell) (q9 : Addr) (u : SX) (t : State) (H1 : Heap) (locs1 : List Loc), t.heap = H1 → s.vm.Alike t.vm → px u → BX E u t → H.size ≤ H1.size → (∀ q : Nat, q < H.size → ¬ AX q → H1[q]? = H[q]?) → va_S A0 H0 H1 locs1 → H1[q9]? = some ce → ce.vm = .none → s.vm.findClass E = some ce.cls → vx_W p l e R s m args below meth c H1 locs1 (cells + mc) (slots + ms) Q (F0 m pc ls rest) q9)
    (kk : ∀ (r : Option Nat) (u : S) (t : State) (H1 : Heap) (locs1 : List Loc), t.heap = H1 → s.vm.Alike t.vm → post r u → B u t → H.size ≤ H1.size → (∀ q : Nat, q < H.size → ¬ A1 q → H1[q]? = H[q]?) → va_S A0 H0 H1 locs1 → W p l e R s m args below meth c H1 locs1 (cells + mc) (slots + ms) Q (F0 m (pc + 3) ls (va_rf r :: rest))) : W p l e R s m args below meth c H locs cells slots Q (F0 m pc ls st0) := by
  intro T hT X
  rcases hr T hT X with ⟨v, st₀, t, T', L, h0, X', hL, e1, e2, ⟨⟨r, u, hv, hp, hb⟩, hF⟩, st⟩ | ⟨q, st₀, t, T', L, E, ce, h0, X', hL, e1, e2, ⟨u, hp, hb, hF⟩, hce, hcv, hcl, st⟩
  · cases hv
    obtain ⟨k1, k2, k3⟩ := vx_keep h0 e1 hS hA hf hL hF
    obtain ⟨t2, a1, b1⟩ := kk r u t T'.heap (locs ++ L) e1.symm (by rw [← e2]; exact X'.warmed.alike) hp hb k1 k2 k3 T' rfl X'
    exact ⟨t2, st t2 a1, b1⟩
  · obtain ⟨k1, k2, k3⟩ := vx_keep h0 e1 hS hAX hf hL hF
    obtain ⟨t2, a1, b1⟩ := kx E ce q u t T'.heap (locs ++ L) e1.symm (by rw [← e2]; exact X'.warmed.alike) hp hb k1 k2 k3 (by rw [e1]; exact hce) hcv hcl T' rfl X'
    exact ⟨t2, st.trans a1, b1⟩
end
/-! ===== END ===== -/
/-! ===== BEGIN .. a constant ===== -/
section
variable {p : Program} {l : Launch} {e : Env} {R : Room} {s : State} {m : MethodId} {args : Array Value} {below : List Frame} {meth : Method} {c : Code} {H : Heap} {locs : List Loc} {cells slots : Nat} {Q : State → Prop}
variable {mc ms : Nat} {free : Addr → Prop} {A0 A1 : Nat → Prop} {H0 : Heap} {a : Array Value} {pc : Nat} {ls : Array Slot} {st0 rest : List Value}
theorem vx_calle {ad : Nat → Nat} {S SX : Type} {post : Option Nat → S → Prop} {px : SX → Prop} {B : S → State → Prop} {BX : String → SX → State → Prop} {AX : Nat → Prop} (hr : vx_Run p l e R s m args below meth c H locs cells slots mc ms (F0 m pc ls st0) rest (va_Qe ad post B A1 a) (vx_X px BX AX) free) (hS : va_S A0 H0 H locs) (hA : ∀ q, q < H.size → A1 q → A0 q) (hf : ∀ q, free q → A0 q) (hAX : ∀ q, q < H.size → AX q → A0 q)
    (kx : ∀ (E : String) (ce : Cell) (q9 : Addr) (u : SX) (t : State) (H1 : Heap) (locs1 : List Loc), t.heap = H1 → s.vm.Alike t.vm → px u → BX E u t → H.size ≤ H1.size → (∀ q : Nat, q < H.size → ¬ AX q → H1[q]? = H[q]?) → va_S A0 H0 H1 locs1 → H1[q9]? = some ce → ce.vm = .none → s.vm.findClass E = some ce.cls → vx_W p l e R s m args below meth c H1 locs1 (cells + mc) (slots + ms) Q (F0 m pc ls rest) q9)
    (kk : ∀ (r : Option Nat) (u : S) (t : State) (H1 : Heap) (locs1 : List Loc), t.heap = H1 → s.vm.Alike t.vm → post r u → B u t → H.size ≤ H1.size → (∀ q : Nat, q < H.size → ¬ A1 q → H1[q]? = H[q]?) → va_S A0 H0 H1 locs1 → W p l e R s m args below meth c H1 locs1 (cells + mc) (slots + ms) Q (F0 m (pc + 3) ls (va_re ad r :: rest))) : W p l e R s m args below meth c H locs cells slots Q (F0 m pc ls st0) := by
  intro T hT X
  rcases hr T hT X with ⟨v, st₀, t, T', L, h0, X', hL, e1, e2, ⟨⟨r, u, hv, hp, hb⟩, hF⟩, st⟩ | ⟨q, st₀, t, T', L, E, ce, h0, X', hL, e1, e2, ⟨u, hp, hb, hF⟩, hce, hcv, hcl, st⟩
  · cases hv
    obtain ⟨k1, k2, k3⟩ := vx_keep h0 e1 hS hA hf hL hF
    obtain ⟨t2, a1, b1⟩ := kk r u t T'.heap (locs ++ L) e1.symm (by rw [← e2]; exact X'.warmed.alike) hp hb k1 k2 k3 T' rfl X'
    exact ⟨t2, st t2 a1, b1⟩
  · obtain ⟨k1, k2, k3⟩ := vx_keep h0 e1 hS hAX hf hL hF
    obtain ⟨t2, a1, b1⟩ := kx E ce q u t T'.heap (locs ++ L) e1.symm (by rw [← e2]; exact X'.warmed.alike) hp hb k1 k2 k3 (by rw [e1]; exact hce) hcv hcl T' rfl X'
    exact ⟨t2, st.trans a1, b1⟩
end
/-! ===== END ===== -/
/-! ===== BEGIN .. by an interface, an object ===== -/
section
variable {p : Program} {l : Launch} {e : Env} {R : Room} {s : State} {m : MethodId} {args : Array Value} {below : List Frame} {meth : Method} {c : Code} {H : Heap} {locs : List Loc} {cells slots : Nat} {Q : State → Prop}
variable {mc ms : Nat} {free : Addr → Prop} {A0 A1 : Nat → Prop} {H0 : Heap} {a : Array Value} {pc : Nat} {ls : Array Slot} {st0 rest : List Value}
theorem vx_callFq {S SX : Type} {post : Option Nat → S → Prop} {px : SX → Prop} {B : S → State → Prop} {BX : String → SX → State → Prop} {AX : Nat → Prop} (hr : vx_Run5 p l e R s m args below meth c H locs cells slots mc ms (F0 m pc ls st0) rest (va_Qq post B A1 a) (vx_X px BX AX) free) (hS : va_S A0 H0 H locs) (hA : ∀ q, q < H.size → A1 q → A0 q) (hf : ∀ q, free q → A0 q) (hAX : ∀ q, q < H.size → AX q → A0 q)
    (kx : ∀ (E : String) (ce : Cell) (q9 : Addr) (u : SX) (t : State) (H1 : Heap) (locs1 : List Loc), t.heap = H1 → s.vm.Alike t.vm → px u → BX E u t → H.size ≤ H1.size → (∀ q : Nat, q < H.size → ¬ AX q → H1[q]? = H[q]?) → va_S A0 H0 H1 locs1 → H1[q9]? = some ce → ce.vm = .none → s.vm.findClass E = some ce.cls → vx_W p l e R s m args below meth c H1 locs1 (cells + mc) (slots + ms) Q (F0 m pc ls rest) q9)
    (kk : ∀ (r : Option Nat) (u : S) (t : State) (H1 : Heap) (locs1 : List Loc), t.heap = H1 → s.vm.Alike t.vm → post r u → B u t → H.size ≤ H1.size → (∀ q : Nat, q < H.size → ¬ A1 q → H1[q]? = H[q]?) → va_S A0 H0 H1 locs1 → W p l e R s m args below meth c H1 locs1 (cells + mc) (slots + ms) Q (F0 m (pc + 5) ls (va_rf r :: rest))) : W p l e R s m args below meth c H locs cells slots Q (F0 m pc ls st0) := by
  intro T hT X
  rcases hr T hT X with ⟨v, st₀, t, T', L, h0, X', hL, e1, e2, ⟨⟨r, u, hv, hp, hb⟩, hF⟩, st⟩ | ⟨q, st₀, t, T', L, E, ce, h0, X', hL, e1, e2, ⟨u, hp, hb, hF⟩, hce, hcv, hcl, st⟩
  · cases hv
    obtain ⟨k1, k2, k3⟩ := vx_keep h0 e1 hS hA hf hL hF
    obtain ⟨t2, a1, b1⟩ := kk r u t T'.heap (locs ++ L) e1.symm (by rw [← e2]; exact X'.warmed.alike) hp hb k1 k2 k3 T' rfl X'
    exact ⟨t2, st t2 a1, b1⟩
  · obtain ⟨k1, k2, k3⟩ := vx_keep h0 e1 hS hAX hf hL hF
    obtain ⟨t2, a1, b1⟩ := kx E ce q u t T'.heap (locs ++ L) e1.symm (by rw [← e2]; exact X'.warmed.alike) hp hb k1 k2 k3 (by rw [e1]; exact hce) hcv hcl T' rfl X'
    exact ⟨t2, st.trans a1, b1⟩
end
/-! ===== END ===== -/
/-! ===== BEGIN .. by an interface, a constant ===== -/
section
variable {p : Program} {l : Launch} {e : Env} {R : Room} {s : State} {m : MethodId} {args : Array Value} {below : List Frame} {meth : Method} {c : Code} {H : Heap} {locs : List Loc} {cells slots : Nat} {Q : State → Prop}
variable {mc ms : Nat} {free : Addr → Prop} {A0 A1 : Nat → Prop} {H0 : Heap} {a : Array Value} {pc : Nat} {ls : Array Slot} {st0 rest : List Value}
theorem vx_callFe {ad : Nat → Nat} {S SX : Type} {post : Option Nat → S → Prop} {px : SX → Prop} {B : S → State → Prop} {BX : String → SX → State → Prop} {AX : Nat → Prop} (hr : vx_Run5 p l e R s m args below meth c H locs cells slots mc ms (F0 m pc ls st0) rest (va_Qe ad post B A1 a) (vx_X px BX AX) free) (hS : va_S A0 H0 H locs) (hA : ∀ q, q < H.size → A1 q → A0 q) (hf : ∀ q, free q → A0 q) (hAX : ∀ q, q < H.size → AX q → A0 q)
    (kx : ∀ (E : String) (ce : Cell) (q9 : Addr) (u : SX) (t : State) (H1 : Heap) (locs1 : List Loc), t.heap = H1 → s.vm.Alike t.vm → px u → BX E u t → H.size ≤ H1.size → (∀ q : Nat, q < H.size → ¬ AX q → H1[q]? = H[q]?) → va_S A0 H0 H1 locs1 → H1[q9]? = some ce → ce.vm = .none → s.vm.findClass E = some ce.cls → vx_W p l e R s m args below meth c H1 locs1 (cells + mc) (slots + ms) Q (F0 m pc ls rest) q9)
    (kk : ∀ (r : Option Nat) (u : S) (t : State) (H1 : Heap) (locs1 : List Loc), t.heap = H1 → s.vm.Alike t.vm → post r u → B u t → H.size ≤ H1.size → (∀ q : Nat, q < H.size → ¬ A1 q → H1[q]? = H[q]?) → va_S A0 H0 H1 locs1 → W p l e R s m args below meth c H1 locs1 (cells + mc) (slots + ms) Q (F0 m (pc + 5) ls (va_re ad r :: rest))) : W p l e R s m args below meth c H locs cells slots Q (F0 m pc ls st0) := by
  intro T hT X
  rcases hr T hT X with ⟨v, st₀, t, T', L, h0, X', hL, e1, e2, ⟨⟨r, u, hv, hp, hb⟩, hF⟩, st⟩ | ⟨q, st₀, t, T', L, E, ce, h0, X', hL, e1, e2, ⟨u, hp, hb, hF⟩, hce, hcv, hcl, st⟩
  · cases hv
    obtain ⟨k1, k2, k3⟩ := vx_keep h0 e1 hS hA hf hL hF
    obtain ⟨t2, a1, b1⟩ := kk r u t T'.heap (locs ++ L) e1.symm (by rw [← e2]; exact X'.warmed.alike) hp hb k1 k2 k3 T' rfl X'
    exact ⟨t2, st t2 a1, b1⟩
  · obtain ⟨k1, k2, k3⟩ := vx_keep h0 e1 hS hAX hf hL hF
    obtain ⟨t2, a1, b1⟩ := kx E ce q u t T'.heap (locs ++ L) e1.symm (by rw [← e2]; exact X'.warmed.alike) hp hb k1 k2 k3 (by rw [e1]; exact hce) hcv hcl T' rfl X'
    exact ⟨t2, st.trans a1, b1⟩
end
/-! ===== END ===== -/
/-! ===== BEGIN what the machine throws by itself: null at a field, at athrow ===== -/
section VXM2
variable {p : Program} {l : Launch} {e : Env} {R : Room} {s : State} {m : MethodId} {args : Array Value} {below : List Frame} {meth : Method} {c : Code} {H : Heap} {locs : List Loc} {cells slots : Nat}
variable {Q : State → Prop} {cc : ByteArray} {pc : Nat} {ls : Array Slot} {rest : List Value}
theorem vx_getfN {D cl tys} {own ref C : String} {T : u_T} {N ci index : Nat} {Ts : List Cond} (hexec : p.tables.exec = Jvm.exec) (hb : c.code = cc) (hts : ∀ w ∈ Ts, w.before args s = true) (hin : ∀ w ∈ u_ws C T N, w ∈ Ts) (hown : s.vm.findClass own = some m.cls) (hK : va_K D cl tys s) (hc : cl[ci]? = some (C, T, N)) (k : Nat) (hk : k < N) (hlink : (Cond.fieldLink own index ref (T k).2.1 (T k).2.2.1).before args s = true) (hsame : ∀ x, s.fieldFound? (T k).1 (T k).2.1 (T k).2.2.1 = some x → s.fieldFound? ref (T k).2.1 (T k).2.2.1 = some x) (hdg : decode cc pc = .ok (.getfield index, 3)) (kk : vx_NoteN p l e R s m args below meth c H locs cells slots Q (F0 m pc ls rest)) : W p l e R s m args below meth c H locs cells slots Q (F0 m pc ls (.null :: rest)) := by
  obtain ⟨hS, hfc, kC, hkC, -⟩ := hK.1 ci _ hc
  obtain ⟨cf, kf, fi, f, hi, -⟩ := hS k hk
  intro U hU X
  obtain ⟨vm', X1, st1⟩ := X.getfieldNull hexec hown hlink (hsame _ hi) (u_facts hfc hkC (u_lays hts hin hk) hi).1 (g := F0 m pc ls (.null :: rest)) rfl (rest := rest) rfl (by rw [hb]; exact hdg)
  obtain ⟨t, st, q⟩ := kk (U.setVm vm') hU X1
  exact ⟨t, st1 t st, q⟩
theorem vx_getfNN {D cl tys} {own ref C host : String} {T : u_T} {N ci index : Nat} {Ts : List Cond} (hexec : p.tables.exec = Jvm.exec) (hb : c.code = cc) (hts : ∀ w ∈ Ts, w.before args s = true) (hin : ∀ w ∈ u_ws C T N, w ∈ Ts) (hown : s.vm.findClass own = some m.cls) (hK : va_K D cl tys s) (hc : cl[ci]? = some (C, T, N)) (k : Nat) (hk : k < N) (hlink : (Cond.fieldLinkNest own index ref (T k).2.1 (T k).2.2.1 host).before args s = true) (hsame : ∀ x, s.fieldFound? (T k).1 (T k).2.1 (T k).2.2.1 = some x → s.fieldFound? ref (T k).2.1 (T k).2.2.1 = some x) (hdg : decode cc pc = .ok (.getfield index, 3)) (kk : vx_NoteN p l e R s m args below meth c H locs cells slots Q (F0 m pc ls rest)) : W p l e R s m args below meth c H locs cells slots Q (F0 m pc ls (.null :: rest)) := by
  obtain ⟨hS, hfc, kC, hkC, -⟩ := hK.1 ci _ hc
  obtain ⟨cf, kf, fi, f, hi, -⟩ := hS k hk
  intro U hU X
  obtain ⟨vm', X1, st1⟩ := X.getfieldNullNest hexec hown hlink (hsame _ hi) (u_facts hfc hkC (u_lays hts hin hk) hi).1 (g := F0 m pc ls (.null :: rest)) rfl (rest := rest) rfl (by rw [hb]; exact hdg)
  obtain ⟨t, st, q⟩ := kk (U.setVm vm') hU X1
  exact ⟨t, st1 t st, q⟩
theorem vx_putfN {D cl tys} {own ref C : String} {T : u_T} {N ci index : Nat} {Ts : List Cond} (hexec : p.tables.exec = Jvm.exec) (hb : c.code = cc) (hts : ∀ w ∈ Ts, w.before args s = true) (hin : ∀ w ∈ u_ws C T N, w ∈ Ts) (hown : s.vm.findClass own = some m.cls) (hK : va_K D cl tys s) (hc : cl[ci]? = some (C, T, N)) (k : Nat) (hk : k < N) (hlink : (Cond.fieldLink own index ref (T k).2.1 (T k).2.2.1).before args s = true) (hsame : ∀ x, s.fieldFound? (T k).1 (T k).2.1 (T k).2.2.1 = some x → s.fieldFound? ref (T k).2.1 (T k).2.2.1 = some x) (hfin : (T k).2.2.2 = false) {v : Value} (hdg : decode cc pc = .ok (.putfield index, 3)) (kk : vx_NoteN p l e R s m args below meth c H locs cells slots Q (F0 m pc ls rest)) : W p l e R s m args below meth c H locs cells slots Q (F0 m pc ls (v :: .null :: rest)) := by
  obtain ⟨hS, hfc, kC, hkC, -⟩ := hK.1 ci _ hc
  obtain ⟨cf, kf, fi, f, hi, -⟩ := hS k hk
  have hlay := hts _ (hin _ (u_in_lay hk))
  unfold u_lay at hlay
  rw [if_neg (by rw [hfin]; decide)] at hlay
  obtain ⟨c9, k9, cf9, kf9, fi9, f9, -, -, hi9, hst9, hnf9, -⟩ := Cond.lays_spec hlay
  cases hi.symm.trans hi9
  intro U hU X
  obtain ⟨vm', X1, st1⟩ := X.putfieldNull hexec hown hlink (hsame _ hi) hst9 hnf9 (g := F0 m pc ls (v :: .null :: rest)) rfl (v := v) (rest := rest) rfl (by rw [hb]; exact hdg)
  obtain ⟨t, st, q⟩ := kk (U.setVm vm') hU X1
  exact ⟨t, st1 t st, q⟩
theorem vx_putfNN {D cl tys} {own ref C host : String} {T : u_T} {N ci index : Nat} {Ts : List Cond} (hexec : p.tables.exec = Jvm.exec) (hb : c.code = cc) (hts : ∀ w ∈ Ts, w.before args s = true) (hin : ∀ w ∈ u_ws C T N, w ∈ Ts) (hown : s.vm.findClass own = some m.cls) (hK : va_K D cl tys s) (hc : cl[ci]? = some (C, T, N)) (k : Nat) (hk : k < N) (hlink : (Cond.fieldLinkNest own index ref (T k).2.1 (T k).2.2.1 host).before args s = true) (hsame : ∀ x, s.fieldFound? (T k).1 (T k).2.1 (T k).2.2.1 = some x → s.fieldFound? ref (T k).2.1 (T k).2.2.1 = some x) (hfin : (T k).2.2.2 = false) {v : Value} (hdg : decode cc pc = .ok (.putfield index, 3)) (kk : vx_NoteN p l e R s m args below meth c H locs cells slots Q (F0 m pc ls rest)) : W p l e R s m args below meth c H locs cells slots Q (F0 m pc ls (v :: .null :: rest)) := by
  obtain ⟨hS, hfc, kC, hkC, -⟩ := hK.1 ci _ hc
  obtain ⟨cf, kf, fi, f, hi, -⟩ := hS k hk
  have hlay := hts _ (hin _ (u_in_lay hk))
  unfold u_lay at hlay
  rw [if_neg (by rw [hfin]; decide)] at hlay
  obtain ⟨c9, k9, cf9, kf9, fi9, f9, -, -, hi9, hst9, hnf9, -⟩ := Cond.lays_spec hlay
  cases hi.symm.trans hi9
  intro U hU X
  obtain ⟨vm', X1, st1⟩ := X.putfieldNullNest hexec hown hlink (hsame _ hi) hst9 hnf9 (g := F0 m pc ls (v :: .null :: rest)) rfl (v := v) (rest := rest) rfl (by rw [hb]; exact hdg)
  obtain ⟨t, st, q⟩ := kk (U.setVm vm') hU X1
  exact ⟨t, st1 t st, q⟩
theorem vx_athrowN (hexec : p.tables.exec = Jvm.exec) (hb : c.code = cc) (hdg : decode cc pc = .ok (.athrow, 1)) (k : vx_NoteN p l e R s m args below meth c H locs cells slots Q (F0 m pc ls rest)) : W p l e R s m args below meth c H locs cells slots Q (F0 m pc ls (.null :: rest)) := by
  intro T hT X
  obtain ⟨t, st, q⟩ := k T hT X
  exact ⟨t, X.athrowNull hexec (g := F0 m pc ls (.null :: rest)) rfl (rest := rest) rfl (by rw [hb]; exact hdg) t st, q⟩
end VXM2
/-! ===== END ===== -/

/-! ===== BEGIN new T[n][m]: the outer array a place, the inner ones among the pooled ===== -/
/-- f, but v at every address of l -/
def vr_up {α : Type} (f : Nat → α) (l : List Nat) (v : α) : Nat → α := fun a => if a ∈ l then v else f a
theorem vr_up_in {α : Type} {f : Nat → α} {l : List Nat} {v : α} {a : Nat} (h : a ∈ l) : vr_up f l v a = v := if_pos h
theorem vr_up_ne {α : Type} {f : Nat → α} {l : List Nat} {v : α} {a : Nat} (h : a ∉ l) : vr_up f l v a = f a := if_neg h
theorem vr_rows {L l : List Nat} {f : Nat → va_E} {e : va_E} (h : ∀ a, a ∈ l → a ∉ L) : va_pl L f ++ l.map (fun a => (a, e)) = va_pl (L ++ l) (vr_up f l e) := by
  unfold va_pl
  rw [List.map_append]
  congr 1
  · apply List.map_congr_left
    intro a ha
    rw [vr_up_ne (fun q => h a q ha)]
  · apply List.map_congr_left
    intro a ha
    rw [vr_up_in ha]
theorem vr_lay {X rows : va_W} {x : Nat × va_E} {pl : va_W} {D : va_G} {cl : List vw_C} {H : Heap} (hP : va_P D cl (((X ++ pl) ++ [x]) ++ rows) H) : va_P D cl ((X ++ [x]) ++ (pl ++ rows)) H := by
  rw [List.append_assoc (X ++ pl)] at hP
  have h := va_P.swap hP
  rw [← List.append_assoc X] at h
  have h2 := va_P.swap h
  rw [List.append_assoc (X ++ [x])] at h2
  exact h2
theorem vr_layD {X rows : va_W} {x : Nat × va_E} {pl : va_W} {A : Nat → Prop} (hD : va_D A (((X ++ pl) ++ [x]) ++ rows)) : va_D A ((X ++ [x]) ++ (pl ++ rows)) := by
  rw [List.append_assoc (X ++ pl)] at hD
  have h := va_D.swap hD
  rw [← List.append_assoc X] at h
  have h2 := va_D.swap h
  rw [List.append_assoc (X ++ [x])] at h2
  exact h2
theorem vr_outer (c : ClassId) (N h0 : Nat) : ∀ i : Nat, Jvm.Free.Multi.outerC c N h0 i = arrV c N (fun j => va_rf (if j < i then some (h0 + 1 + j) else none))
  | 0 => by
    show ({ cls := c, slots := Array.replicate N .null, vm := .none } : Cell) = _
    rw [arrV_new]
    refine congrArg (arrV c N) (funext fun j => ?_)
    simp [va_rf]
  | i + 1 => by
    show (Jvm.Free.Multi.outerC c N h0 i).setSlot i (.ref (h0 + 1 + i)) = _
    rw [vr_outer c N h0 i, arrV_store]
    refine congrArg (arrV c N) (funext fun j => ?_)
    by_cases e : j = i
    · subst e
      simp [updV, va_rf]
    · by_cases h : j < i
      · simp [updV, e, h, Nat.lt_succ_of_lt h]
      · simp [updV, e, h, show ¬ j < i + 1 by omega]
end
section
def RX0 : String := "NotaryKiosk$Act"
def TX0 : u_T := fun k => match k with
  | 0 => ("NotaryKiosk$Piece", "number", "I", false)
  | 1 => ("NotaryKiosk$Piece", "kiosk", "I", false)
  | 2 => ("NotaryKiosk$Piece", "hour", "I", false)
  | 3 => ("NotaryKiosk$Piece", "cameTo", "I", false)
  | 4 => ("NotaryKiosk$Piece", "readAt", "I", false)
  | 5 => ("NotaryKiosk$Piece", "came", "[I", true)
  | 6 => ("NotaryKiosk$Act", "power", "LNotaryKiosk$Power;", true)
  | 7 => ("NotaryKiosk$Act", "deed", "LNotaryKiosk$Deed;", true)
  | 8 => ("NotaryKiosk$Act", "told", "[I", true)
  | 9 => ("NotaryKiosk$Act", "keptSeal", "I", false)
  | _ => ("NotaryKiosk$Act", "stood", "Z", false)
def tyX0 : Nat → FieldType := fun k => match k with
  | 0 => .int
  | 1 => .int
  | 2 => .int
  | 3 => .int
  | 4 => .int
  | 5 => .array .int
  | 6 => .object "NotaryKiosk$Power"
  | 7 => .object "NotaryKiosk$Deed"
  | 8 => .array .int
  | 9 => .int
  | _ => .boolean
abbrev wsX00 : List Cond := u_ws RX0 TX0 11
theorem nmX0 : ∀ a, a < 11 → ∀ b, b < 11 → a ≠ b → (TX0 a).2.1 ≠ (TX0 b).2.1 := by decide +kernel
theorem tyX0_ok : ∀ k, k < 11 → parseFieldDescriptor (TX0 k).2.2.1 = some (tyX0 k) := by decide +kernel
abbrev cX0_init : ByteArray := prog_2_method_1_code
def yX0_init : MethodName := ⟨RX0, "<init>", "(LNotaryKiosk$Power;LNotaryKiosk$Deed;)V"⟩
abbrev cX0_amountBy : ByteArray := prog_2_method_2_code
def yX0_amountBy : MethodName := ⟨RX0, "amountBy", "(LNotaryKiosk$Power;)I"⟩
def RX1 : String := "NotaryKiosk$Chain"
def TX1 : u_T := fun k => match k with
  | 0 => ("NotaryKiosk$Chain", "kiosk", "I", true)
  | _ => ("NotaryKiosk$Chain", "acts", "Ljava/util/ArrayList;", true)
def tyX1 : Nat → FieldType := fun k => match k with
  | 0 => .int
  | _ => .object "java/util/ArrayList"
abbrev wsX10 : List Cond := u_ws RX1 TX1 2
theorem nmX1 : ∀ a, a < 2 → ∀ b, b < 2 → a ≠ b → (TX1 a).2.1 ≠ (TX1 b).2.1 := by decide +kernel
theorem tyX1_ok : ∀ k, k < 2 → parseFieldDescriptor (TX1 k).2.2.1 = some (tyX1 k) := by decide +kernel
abbrev cX1_init : ByteArray := prog_3_method_1_code
def yX1_init : MethodName := ⟨RX1, "<init>", "(I)V"⟩
abbrev cX1_count : ByteArray := prog_3_method_2_code
def yX1_count : MethodName := ⟨RX1, "count", "()I"⟩
abbrev cX1_actOf : ByteArray := prog_3_method_3_code
def yX1_actOf : MethodName := ⟨RX1, "actOf", "(I)LNotaryKiosk$Act;"⟩
abbrev cX1_enter : ByteArray := prog_3_method_4_code
def yX1_enter : MethodName := ⟨RX1, "enter", "(LNotaryKiosk$Act;)I"⟩
abbrev cX1_sealAhead : ByteArray := prog_3_method_5_code
def yX1_sealAhead : MethodName := ⟨RX1, "sealAhead", "(I)I"⟩
abbrev cX1_sealNow : ByteArray := prog_3_method_6_code
def yX1_sealNow : MethodName := ⟨RX1, "sealNow", "(ILNotaryKiosk$Act;)I"⟩
abbrev cX1_firstBroken : ByteArray := prog_3_method_7_code
def yX1_firstBroken : MethodName := ⟨RX1, "firstBroken", "()I"⟩
abbrev cX1_countStanding : ByteArray := prog_3_method_8_code
def yX1_countStanding : MethodName := ⟨RX1, "countStanding", "()I"⟩
def RX2 : String := "NotaryKiosk$Copy"
def TX2 : u_T := fun k => match k with
  | 0 => ("NotaryKiosk$Copy", "kiosk", "I", true)
  | 1 => ("NotaryKiosk$Copy", "first", "I", true)
  | 2 => ("NotaryKiosk$Copy", "places", "I", true)
  | 3 => ("NotaryKiosk$Copy", "leftOut", "I", true)
  | 4 => ("NotaryKiosk$Copy", "told", "[[I", true)
  | 5 => ("NotaryKiosk$Copy", "keptSeals", "[I", true)
  | _ => ("NotaryKiosk$Copy", "sealAhead", "I", false)
def tyX2 : Nat → FieldType := fun k => match k with
  | 0 => .int
  | 1 => .int
  | 2 => .int
  | 3 => .int
  | 4 => .array (.array .int)
  | 5 => .array .int
  | _ => .int
abbrev wsX20 : List Cond := u_ws RX2 TX2 7
theorem nmX2 : ∀ a, a < 7 → ∀ b, b < 7 → a ≠ b → (TX2 a).2.1 ≠ (TX2 b).2.1 := by decide +kernel
theorem tyX2_ok : ∀ k, k < 7 → parseFieldDescriptor (TX2 k).2.2.1 = some (tyX2 k) := by decide +kernel
abbrev cX2_init : ByteArray := prog_4_method_1_code
def yX2_init : MethodName := ⟨RX2, "<init>", "(IIII)V"⟩
abbrev cX2_leavesOut : ByteArray := prog_4_method_2_code
def yX2_leavesOut : MethodName := ⟨RX2, "leavesOut", "(I)Z"⟩
abbrev cX2_takeFrom : ByteArray := prog_4_method_3_code
def yX2_takeFrom : MethodName := ⟨RX2, "takeFrom", "(LNotaryKiosk$Chain;)V"⟩
abbrev cX2_firstBroken : ByteArray := prog_4_method_4_code
def yX2_firstBroken : MethodName := ⟨RX2, "firstBroken", "()I"⟩
abbrev cX2_tellsAs : ByteArray := prog_4_method_5_code
def yX2_tellsAs : MethodName := ⟨RX2, "tellsAs", "(LNotaryKiosk$Chain;)Z"⟩
abbrev cX2_tellsRecordAs : ByteArray := prog_4_method_6_code
def yX2_tellsRecordAs : MethodName := ⟨RX2, "tellsRecordAs", "(ILNotaryKiosk$Act;)Z"⟩
def RX3 : String := "NotaryKiosk$Deed"
def TX3 : u_T := fun k => match k with
  | 0 => ("NotaryKiosk$Deed", "kiosk", "I", true)
  | 1 => ("NotaryKiosk$Deed", "hour", "I", true)
  | 2 => ("NotaryKiosk$Deed", "person", "I", true)
  | 3 => ("NotaryKiosk$Deed", "kind", "I", true)
  | 4 => ("NotaryKiosk$Deed", "amount", "I", true)
  | _ => ("NotaryKiosk$Deed", "officer", "I", true)
def tyX3 : Nat → FieldType := fun k => match k with
  | 0 => .int
  | 1 => .int
  | 2 => .int
  | 3 => .int
  | 4 => .int
  | _ => .int
abbrev wsX30 : List Cond := u_ws RX3 TX3 6
theorem nmX3 : ∀ a, a < 6 → ∀ b, b < 6 → a ≠ b → (TX3 a).2.1 ≠ (TX3 b).2.1 := by decide +kernel
theorem tyX3_ok : ∀ k, k < 6 → parseFieldDescriptor (TX3 k).2.2.1 = some (tyX3 k) := by decide +kernel
abbrev cX3_init : ByteArray := prog_5_method_1_code
def yX3_init : MethodName := ⟨RX3, "<init>", "(IIIIII)V"⟩
def RX4 : String := "NotaryKiosk$Deputation"
def TX4 : u_T := fun k => match k with
  | 0 => ("NotaryKiosk$Piece", "number", "I", false)
  | 1 => ("NotaryKiosk$Piece", "kiosk", "I", false)
  | 2 => ("NotaryKiosk$Piece", "hour", "I", false)
  | 3 => ("NotaryKiosk$Piece", "cameTo", "I", false)
  | 4 => ("NotaryKiosk$Piece", "readAt", "I", false)
  | 5 => ("NotaryKiosk$Piece", "came", "[I", true)
  | 6 => ("NotaryKiosk$Deputation", "deputed", "I", true)
  | 7 => ("NotaryKiosk$Deputation", "from", "I", true)
  | _ => ("NotaryKiosk$Deputation", "to", "I", true)
def tyX4 : Nat → FieldType := fun k => match k with
  | 0 => .int
  | 1 => .int
  | 2 => .int
  | 3 => .int
  | 4 => .int
  | 5 => .array .int
  | 6 => .int
  | 7 => .int
  | _ => .int
abbrev wsX40 : List Cond := u_ws RX4 TX4 9
theorem nmX4 : ∀ a, a < 9 → ∀ b, b < 9 → a ≠ b → (TX4 a).2.1 ≠ (TX4 b).2.1 := by decide +kernel
theorem tyX4_ok : ∀ k, k < 9 → parseFieldDescriptor (TX4 k).2.2.1 = some (tyX4 k) := by decide +kernel
abbrev cX4_init : ByteArray := prog_6_method_1_code
def yX4_init : MethodName := ⟨RX4, "<init>", "(III)V"⟩
abbrev cX4_isDeputation : ByteArray := prog_6_method_2_code
def yX4_isDeputation : MethodName := ⟨RX4, "isDeputation", "(III)Z"⟩
def RX5 : String := "NotaryKiosk$Draft"
def TX5 : u_T := fun k => match k with
  | 0 => ("NotaryKiosk$Draft", "scope", "I", true)
  | 1 => ("NotaryKiosk$Draft", "limit", "I", true)
  | 2 => ("NotaryKiosk$Draft", "total", "I", true)
  | 3 => ("NotaryKiosk$Draft", "hours", "I", true)
  | _ => ("NotaryKiosk$Draft", "depth", "I", true)
def tyX5 : Nat → FieldType := fun k => match k with
  | 0 => .int
  | 1 => .int
  | 2 => .int
  | 3 => .int
  | _ => .int
abbrev wsX50 : List Cond := u_ws RX5 TX5 5
theorem nmX5 : ∀ a, a < 5 → ∀ b, b < 5 → a ≠ b → (TX5 a).2.1 ≠ (TX5 b).2.1 := by decide +kernel
theorem tyX5_ok : ∀ k, k < 5 → parseFieldDescriptor (TX5 k).2.2.1 = some (tyX5 k) := by decide +kernel
abbrev cX5_init : ByteArray := prog_7_method_1_code
def yX5_init : MethodName := ⟨RX5, "<init>", "(IIIII)V"⟩
def RX6 : String := "NotaryKiosk$Links"
def TX6 : u_T := fun k => match k with
  | 0 => ("NotaryKiosk$Links", "joinedTo", "[I", true)
  | _ => ("NotaryKiosk$Links", "joinedIn", "[I", true)
def tyX6 : Nat → FieldType := fun k => match k with
  | 0 => .array .int
  | _ => .array .int
abbrev wsX60 : List Cond := u_ws RX6 TX6 2
theorem nmX6 : ∀ a, a < 2 → ∀ b, b < 2 → a ≠ b → (TX6 a).2.1 ≠ (TX6 b).2.1 := by decide +kernel
theorem tyX6_ok : ∀ k, k < 2 → parseFieldDescriptor (TX6 k).2.2.1 = some (tyX6 k) := by decide +kernel
abbrev cX6_init : ByteArray := prog_8_method_1_code
def yX6_init : MethodName := ⟨RX6, "<init>", "()V"⟩
abbrev cX6_areLinked : ByteArray := prog_8_method_2_code
def yX6_areLinked : MethodName := ⟨RX6, "areLinked", "(II)Z"⟩
abbrev cX6_degree : ByteArray := prog_8_method_3_code
def yX6_degree : MethodName := ⟨RX6, "degree", "(I)I"⟩
abbrev cX6_turn : ByteArray := prog_8_method_4_code
def yX6_turn : MethodName := ⟨RX6, "turn", "(II)V"⟩
abbrev cX6_keep : ByteArray := prog_8_method_5_code
def yX6_keep : MethodName := ⟨RX6, "keep", "(I)V"⟩
abbrev cX6_reach : ByteArray := prog_8_method_6_code
def yX6_reach : MethodName := ⟨RX6, "reach", "(II)I"⟩
def RX7 : String := "NotaryKiosk$News"
def TX7 : u_T := fun k => match k with
  | 0 => ("NotaryKiosk$News", "pieces", "Ljava/util/ArrayList;", true)
  | _ => ("NotaryKiosk$News", "seen", "[Z", true)
def tyX7 : Nat → FieldType := fun k => match k with
  | 0 => .object "java/util/ArrayList"
  | _ => .array .boolean
abbrev wsX70 : List Cond := u_ws RX7 TX7 2
theorem nmX7 : ∀ a, a < 2 → ∀ b, b < 2 → a ≠ b → (TX7 a).2.1 ≠ (TX7 b).2.1 := by decide +kernel
theorem tyX7_ok : ∀ k, k < 2 → parseFieldDescriptor (TX7 k).2.2.1 = some (tyX7 k) := by decide +kernel
abbrev cX7_init : ByteArray := prog_9_method_1_code
def yX7_init : MethodName := ⟨RX7, "<init>", "()V"⟩
abbrev cX7_count : ByteArray := prog_9_method_2_code
def yX7_count : MethodName := ⟨RX7, "count", "()I"⟩
abbrev cX7_pieceAt : ByteArray := prog_9_method_3_code
def yX7_pieceAt : MethodName := ⟨RX7, "pieceAt", "(I)LNotaryKiosk$Piece;"⟩
abbrev cX7_publish : ByteArray := prog_9_method_4_code
def yX7_publish : MethodName := ⟨RX7, "publish", "(LNotaryKiosk$Piece;II)I"⟩
abbrev cX7_spread : ByteArray := prog_9_method_5_code
def yX7_spread : MethodName := ⟨RX7, "spread", "(LNotaryKiosk$Links;I)I"⟩
abbrev cX7_unread : ByteArray := prog_9_method_6_code
def yX7_unread : MethodName := ⟨RX7, "unread", "(I)I"⟩
abbrev cX7_readMail : ByteArray := prog_9_method_7_code
def yX7_readMail : MethodName := ⟨RX7, "readMail", "(I)I"⟩
abbrev cX7_lookAtRead : ByteArray := prog_9_method_8_code
def yX7_lookAtRead : MethodName := ⟨RX7, "lookAtRead", "(I)V"⟩
abbrev cX7_lookAtReadable : ByteArray := prog_9_method_9_code
def yX7_lookAtReadable : MethodName := ⟨RX7, "lookAtReadable", "(LNotaryKiosk$Piece;)V"⟩
abbrev cX7_lookAtAll : ByteArray := prog_9_method_10_code
def yX7_lookAtAll : MethodName := ⟨RX7, "lookAtAll", "()V"⟩
abbrev cX7_sees : ByteArray := prog_9_method_11_code
def yX7_sees : MethodName := ⟨RX7, "sees", "(I)Z"⟩
abbrev cX7_knows : ByteArray := prog_9_method_12_code
def yX7_knows : MethodName := ⟨RX7, "knows", "(LNotaryKiosk$Power;)Z"⟩
abbrev cX7_revokes : ByteArray := prog_9_method_13_code
def yX7_revokes : MethodName := ⟨RX7, "revokes", "(LNotaryKiosk$Power;)Z"⟩
abbrev cX7_revokesAlone : ByteArray := prog_9_method_14_code
def yX7_revokesAlone : MethodName := ⟨RX7, "revokesAlone", "(LNotaryKiosk$Power;)Z"⟩
abbrev cX7_doneWith : ByteArray := prog_9_method_15_code
def yX7_doneWith : MethodName := ⟨RX7, "doneWith", "(LNotaryKiosk$Power;)I"⟩
abbrev cX7_wouldPassTotal : ByteArray := prog_9_method_16_code
def yX7_wouldPassTotal : MethodName := ⟨RX7, "wouldPassTotal", "(LNotaryKiosk$Power;I)Z"⟩
abbrev cX7_deputes : ByteArray := prog_9_method_17_code
def yX7_deputes : MethodName := ⟨RX7, "deputes", "(III)Z"⟩
abbrev cX7_officerAt : ByteArray := prog_9_method_18_code
def yX7_officerAt : MethodName := ⟨RX7, "officerAt", "(II)I"⟩
abbrev cX7_reasonAgainst : ByteArray := prog_9_method_19_code
def yX7_reasonAgainst : MethodName := ⟨RX7, "reasonAgainst", "(LNotaryKiosk$Power;LNotaryKiosk$Deed;)I"⟩
def RX8 : String := "NotaryKiosk$Piece"
def TX8 : u_T := fun k => match k with
  | _ => ("", "", "", false)
def tyX8 : Nat → FieldType := fun k => match k with
  | _ => .int
abbrev wsX80 : List Cond := u_ws RX8 TX8 0
theorem nmX8 : ∀ a, a < 0 → ∀ b, b < 0 → a ≠ b → (TX8 a).2.1 ≠ (TX8 b).2.1 := by decide +kernel
theorem tyX8_ok : ∀ k, k < 0 → parseFieldDescriptor (TX8 k).2.2.1 = some (tyX8 k) := by decide +kernel
abbrev cX8_init : ByteArray := prog_10_method_1_code
def yX8_init : MethodName := ⟨RX8, "<init>", "()V"⟩
abbrev cX8_comeTo : ByteArray := prog_10_method_2_code
def yX8_comeTo : MethodName := ⟨RX8, "comeTo", "(II)V"⟩
abbrev cX8_isInMail : ByteArray := prog_10_method_3_code
def yX8_isInMail : MethodName := ⟨RX8, "isInMail", "(I)Z"⟩
abbrev cX8_couldBeReadFor : ByteArray := prog_10_method_4_code
def yX8_couldBeReadFor : MethodName := ⟨RX8, "couldBeReadFor", "(LNotaryKiosk$Piece;)Z"⟩
abbrev cX8_isRevocationOf : ByteArray := prog_10_method_5_code
def yX8_isRevocationOf : MethodName := ⟨RX8, "isRevocationOf", "(LNotaryKiosk$Power;)Z"⟩
abbrev cX8_isDeputation : ByteArray := prog_10_method_6_code
def yX8_isDeputation : MethodName := ⟨RX8, "isDeputation", "(III)Z"⟩
abbrev cX8_amountBy : ByteArray := prog_10_method_7_code
def yX8_amountBy : MethodName := ⟨RX8, "amountBy", "(LNotaryKiosk$Power;)I"⟩
def RX9 : String := "NotaryKiosk$Power"
def TX9 : u_T := fun k => match k with
  | 0 => ("NotaryKiosk$Piece", "number", "I", false)
  | 1 => ("NotaryKiosk$Piece", "kiosk", "I", false)
  | 2 => ("NotaryKiosk$Piece", "hour", "I", false)
  | 3 => ("NotaryKiosk$Piece", "cameTo", "I", false)
  | 4 => ("NotaryKiosk$Piece", "readAt", "I", false)
  | 5 => ("NotaryKiosk$Piece", "came", "[I", true)
  | 6 => ("NotaryKiosk$Power", "powerNumber", "I", true)
  | 7 => ("NotaryKiosk$Power", "source", "LNotaryKiosk$Power;", true)
  | 8 => ("NotaryKiosk$Power", "giver", "I", true)
  | 9 => ("NotaryKiosk$Power", "holder", "I", true)
  | 10 => ("NotaryKiosk$Power", "scope", "I", true)
  | 11 => ("NotaryKiosk$Power", "limit", "I", true)
  | 12 => ("NotaryKiosk$Power", "total", "I", true)
  | 13 => ("NotaryKiosk$Power", "lastHour", "I", true)
  | _ => ("NotaryKiosk$Power", "depth", "I", true)
def tyX9 : Nat → FieldType := fun k => match k with
  | 0 => .int
  | 1 => .int
  | 2 => .int
  | 3 => .int
  | 4 => .int
  | 5 => .array .int
  | 6 => .int
  | 7 => .object "NotaryKiosk$Power"
  | 8 => .int
  | 9 => .int
  | 10 => .int
  | 11 => .int
  | 12 => .int
  | 13 => .int
  | _ => .int
abbrev wsX90 : List Cond := u_ws RX9 TX9 15
theorem nmX9 : ∀ a, a < 15 → ∀ b, b < 15 → a ≠ b → (TX9 a).2.1 ≠ (TX9 b).2.1 := by decide +kernel
theorem tyX9_ok : ∀ k, k < 15 → parseFieldDescriptor (TX9 k).2.2.1 = some (tyX9 k) := by decide +kernel
abbrev cX9_init : ByteArray := prog_11_method_1_code
def yX9_init : MethodName := ⟨RX9, "<init>", "(ILNotaryKiosk$Power;IILNotaryKiosk$Draft;I)V"⟩
abbrev cX9_covers : ByteArray := prog_11_method_2_code
def yX9_covers : MethodName := ⟨RX9, "covers", "(LNotaryKiosk$Draft;I)Z"⟩
abbrev cX9_hasInLine : ByteArray := prog_11_method_3_code
def yX9_hasInLine : MethodName := ⟨RX9, "hasInLine", "(LNotaryKiosk$Power;)Z"⟩
abbrev cX9_hasGiver : ByteArray := prog_11_method_4_code
def yX9_hasGiver : MethodName := ⟨RX9, "hasGiver", "(I)Z"⟩
abbrev cX9_isOver : ByteArray := prog_11_method_5_code
def yX9_isOver : MethodName := ⟨RX9, "isOver", "(I)Z"⟩
abbrev cX9_limitsBelow : ByteArray := prog_11_method_6_code
def yX9_limitsBelow : MethodName := ⟨RX9, "limitsBelow", "(I)Z"⟩
def RX10 : String := "NotaryKiosk$Revocation"
def TX10 : u_T := fun k => match k with
  | 0 => ("NotaryKiosk$Piece", "number", "I", false)
  | 1 => ("NotaryKiosk$Piece", "kiosk", "I", false)
  | 2 => ("NotaryKiosk$Piece", "hour", "I", false)
  | 3 => ("NotaryKiosk$Piece", "cameTo", "I", false)
  | 4 => ("NotaryKiosk$Piece", "readAt", "I", false)
  | 5 => ("NotaryKiosk$Piece", "came", "[I", true)
  | _ => ("NotaryKiosk$Revocation", "revoked", "LNotaryKiosk$Power;", true)
def tyX10 : Nat → FieldType := fun k => match k with
  | 0 => .int
  | 1 => .int
  | 2 => .int
  | 3 => .int
  | 4 => .int
  | 5 => .array .int
  | _ => .object "NotaryKiosk$Power"
abbrev wsX100 : List Cond := u_ws RX10 TX10 7
theorem nmX10 : ∀ a, a < 7 → ∀ b, b < 7 → a ≠ b → (TX10 a).2.1 ≠ (TX10 b).2.1 := by decide +kernel
theorem tyX10_ok : ∀ k, k < 7 → parseFieldDescriptor (TX10 k).2.2.1 = some (tyX10 k) := by decide +kernel
abbrev cX10_init : ByteArray := prog_12_method_1_code
def yX10_init : MethodName := ⟨RX10, "<init>", "(LNotaryKiosk$Power;)V"⟩
abbrev cX10_isRevocationOf : ByteArray := prog_12_method_2_code
def yX10_isRevocationOf : MethodName := ⟨RX10, "isRevocationOf", "(LNotaryKiosk$Power;)Z"⟩
def RX11 : String := "NotaryKiosk"
def TX11 : u_T := fun k => match k with
  | 0 => ("NotaryKiosk", "links", "LNotaryKiosk$Links;", true)
  | 1 => ("NotaryKiosk", "news", "LNotaryKiosk$News;", true)
  | 2 => ("NotaryKiosk", "powers", "Ljava/util/ArrayList;", true)
  | 3 => ("NotaryKiosk", "chains", "[LNotaryKiosk$Chain;", true)
  | 4 => ("NotaryKiosk", "copies", "Ljava/util/ArrayList;", true)
  | 5 => ("NotaryKiosk", "hour", "I", false)
  | 6 => ("NotaryKiosk", "draft", "LNotaryKiosk$Draft;", false)
  | 7 => ("NotaryKiosk", "officer", "I", false)
  | _ => ("NotaryKiosk", "kind", "I", false)
def tyX11 : Nat → FieldType := fun k => match k with
  | 0 => .object "NotaryKiosk$Links"
  | 1 => .object "NotaryKiosk$News"
  | 2 => .object "java/util/ArrayList"
  | 3 => .array (.object "NotaryKiosk$Chain")
  | 4 => .object "java/util/ArrayList"
  | 5 => .int
  | 6 => .object "NotaryKiosk$Draft"
  | 7 => .int
  | _ => .int
abbrev wsX110 : List Cond := u_ws RX11 TX11 9
theorem nmX11 : ∀ a, a < 9 → ∀ b, b < 9 → a ≠ b → (TX11 a).2.1 ≠ (TX11 b).2.1 := by decide +kernel
theorem tyX11_ok : ∀ k, k < 9 → parseFieldDescriptor (TX11 k).2.2.1 = some (tyX11 k) := by decide +kernel
abbrev cX11_init : ByteArray := prog_1_method_1_code
def yX11_init : MethodName := ⟨RX11, "<init>", "()V"⟩
abbrev cX11_join : ByteArray := prog_1_method_2_code
def yX11_join : MethodName := ⟨RX11, "join", "(II)I"⟩
abbrev cX11_cut : ByteArray := prog_1_method_3_code
def yX11_cut : MethodName := ⟨RX11, "cut", "(II)I"⟩
abbrev cX11_pass : ByteArray := prog_1_method_4_code
def yX11_pass : MethodName := ⟨RX11, "pass", "(I)I"⟩
abbrev cX11_read : ByteArray := prog_1_method_5_code
def yX11_read : MethodName := ⟨RX11, "read", "(I)I"⟩
abbrev cX11_draft : ByteArray := prog_1_method_6_code
def yX11_draft : MethodName := ⟨RX11, "draft", "(IIIII)V"⟩
abbrev cX11_grant : ByteArray := prog_1_method_7_code
def yX11_grant : MethodName := ⟨RX11, "grant", "(III)I"⟩
abbrev cX11_passOn : ByteArray := prog_1_method_8_code
def yX11_passOn : MethodName := ⟨RX11, "passOn", "(III)I"⟩
abbrev cX11_revoke : ByteArray := prog_1_method_9_code
def yX11_revoke : MethodName := ⟨RX11, "revoke", "(III)I"⟩
abbrev cX11_depute : ByteArray := prog_1_method_10_code
def yX11_depute : MethodName := ⟨RX11, "depute", "(III)I"⟩
abbrev cX11_prepare : ByteArray := prog_1_method_11_code
def yX11_prepare : MethodName := ⟨RX11, "prepare", "(II)V"⟩
abbrev cX11_act : ByteArray := prog_1_method_12_code
def yX11_act : MethodName := ⟨RX11, "act", "(IIII)I"⟩
abbrev cX11_tamper : ByteArray := prog_1_method_13_code
def yX11_tamper : MethodName := ⟨RX11, "tamper", "(III)I"⟩
abbrev cX11_copy : ByteArray := prog_1_method_14_code
def yX11_copy : MethodName := ⟨RX11, "copy", "(IIII)I"⟩
abbrev cX11_forge : ByteArray := prog_1_method_15_code
def yX11_forge : MethodName := ⟨RX11, "forge", "(IIII)I"⟩
abbrev cX11_hour : ByteArray := prog_1_method_16_code
def yX11_hour : MethodName := ⟨RX11, "hour", "()I"⟩
abbrev cX11_news : ByteArray := prog_1_method_17_code
def yX11_news : MethodName := ⟨RX11, "news", "()I"⟩
abbrev cX11_powers : ByteArray := prog_1_method_18_code
def yX11_powers : MethodName := ⟨RX11, "powers", "()I"⟩
abbrev cX11_records : ByteArray := prog_1_method_19_code
def yX11_records : MethodName := ⟨RX11, "records", "(I)I"⟩
abbrev cX11_areJoined : ByteArray := prog_1_method_20_code
def yX11_areJoined : MethodName := ⟨RX11, "areJoined", "(II)Z"⟩
abbrev cX11_came : ByteArray := prog_1_method_21_code
def yX11_came : MethodName := ⟨RX11, "came", "(II)I"⟩
abbrev cX11_cameByLinks : ByteArray := prog_1_method_22_code
def yX11_cameByLinks : MethodName := ⟨RX11, "cameByLinks", "(II)I"⟩
abbrev cX11_isRead : ByteArray := prog_1_method_23_code
def yX11_isRead : MethodName := ⟨RX11, "isRead", "(II)Z"⟩
abbrev cX11_mail : ByteArray := prog_1_method_24_code
def yX11_mail : MethodName := ⟨RX11, "mail", "(I)I"⟩
abbrev cX11_source : ByteArray := prog_1_method_25_code
def yX11_source : MethodName := ⟨RX11, "source", "(I)I"⟩
abbrev cX11_holder : ByteArray := prog_1_method_26_code
def yX11_holder : MethodName := ⟨RX11, "holder", "(I)I"⟩
abbrev cX11_isGood : ByteArray := prog_1_method_27_code
def yX11_isGood : MethodName := ⟨RX11, "isGood", "(II)Z"⟩
abbrev cX11_done : ByteArray := prog_1_method_28_code
def yX11_done : MethodName := ⟨RX11, "done", "(II)I"⟩
abbrev cX11_against : ByteArray := prog_1_method_30_code
def yX11_against : MethodName := ⟨RX11, "against", "(IIII)I"⟩
abbrev cX11_choices : ByteArray := prog_1_method_31_code
def yX11_choices : MethodName := ⟨RX11, "choices", "(III)I"⟩
abbrev cX11_stands : ByteArray := prog_1_method_32_code
def yX11_stands : MethodName := ⟨RX11, "stands", "(II)Z"⟩
abbrev cX11_fault : ByteArray := prog_1_method_33_code
def yX11_fault : MethodName := ⟨RX11, "fault", "(II)I"⟩
abbrev cX11_standing : ByteArray := prog_1_method_34_code
def yX11_standing : MethodName := ⟨RX11, "standing", "()I"⟩
abbrev cX11_pieceOf : ByteArray := prog_1_method_35_code
def yX11_pieceOf : MethodName := ⟨RX11, "pieceOf", "(II)I"⟩
abbrev cX11_part : ByteArray := prog_1_method_36_code
def yX11_part : MethodName := ⟨RX11, "part", "(III)I"⟩
abbrev cX11_seal : ByteArray := prog_1_method_37_code
def yX11_seal : MethodName := ⟨RX11, "seal", "(II)I"⟩
abbrev cX11_broken : ByteArray := prog_1_method_38_code
def yX11_broken : MethodName := ⟨RX11, "broken", "(I)I"⟩
abbrev cX11_size : ByteArray := prog_1_method_39_code
def yX11_size : MethodName := ⟨RX11, "size", "(I)I"⟩
abbrev cX11_copied : ByteArray := prog_1_method_40_code
def yX11_copied : MethodName := ⟨RX11, "copied", "(III)I"⟩
abbrev cX11_brokenCopy : ByteArray := prog_1_method_41_code
def yX11_brokenCopy : MethodName := ⟨RX11, "brokenCopy", "(I)I"⟩
abbrev cX11_isTrue : ByteArray := prog_1_method_42_code
def yX11_isTrue : MethodName := ⟨RX11, "isTrue", "(I)Z"⟩
abbrev cX11_makePower : ByteArray := prog_1_method_43_code
def yX11_makePower : MethodName := ⟨RX11, "makePower", "(ILNotaryKiosk$Power;II)I"⟩
abbrev cX11_deedNow : ByteArray := prog_1_method_44_code
def yX11_deedNow : MethodName := ⟨RX11, "deedNow", "(III)LNotaryKiosk$Deed;"⟩
abbrev cX11_isGoodAt : ByteArray := prog_1_method_45_code
def yX11_isGoodAt : MethodName := ⟨RX11, "isGoodAt", "(ILNotaryKiosk$Power;)Z"⟩
abbrev cX11_reasonByMail : ByteArray := prog_1_method_46_code
def yX11_reasonByMail : MethodName := ⟨RX11, "reasonByMail", "(LNotaryKiosk$Act;)I"⟩
abbrev cX11_mustBeKiosk : ByteArray := prog_1_method_47_code
def yX11_mustBeKiosk : MethodName := ⟨RX11, "mustBeKiosk", "(I)V"⟩
abbrev cX11_mustBeTwoKiosks : ByteArray := prog_1_method_48_code
def yX11_mustBeTwoKiosks : MethodName := ⟨RX11, "mustBeTwoKiosks", "(II)V"⟩
abbrev cX11_mustBePerson : ByteArray := prog_1_method_49_code
def yX11_mustBePerson : MethodName := ⟨RX11, "mustBePerson", "(I)V"⟩
abbrev cX11_mustBeOtherPerson : ByteArray := prog_1_method_50_code
def yX11_mustBeOtherPerson : MethodName := ⟨RX11, "mustBeOtherPerson", "(II)V"⟩
abbrev cX11_mustBePart : ByteArray := prog_1_method_51_code
def yX11_mustBePart : MethodName := ⟨RX11, "mustBePart", "(I)V"⟩
abbrev cX11_mustBeWithin : ByteArray := prog_1_method_52_code
def yX11_mustBeWithin : MethodName := ⟨RX11, "mustBeWithin", "(III)V"⟩
abbrev cX11_mustBePower : ByteArray := prog_1_method_53_code
def yX11_mustBePower : MethodName := ⟨RX11, "mustBePower", "(I)V"⟩
abbrev cX11_mustBePiece : ByteArray := prog_1_method_54_code
def yX11_mustBePiece : MethodName := ⟨RX11, "mustBePiece", "(I)V"⟩
abbrev cX11_mustBeRecord : ByteArray := prog_1_method_55_code
def yX11_mustBeRecord : MethodName := ⟨RX11, "mustBeRecord", "(II)V"⟩
abbrev cX11_mustBeCopy : ByteArray := prog_1_method_56_code
def yX11_mustBeCopy : MethodName := ⟨RX11, "mustBeCopy", "(I)V"⟩
abbrev cX11_mustBePlace : ByteArray := prog_1_method_57_code
def yX11_mustBePlace : MethodName := ⟨RX11, "mustBePlace", "(II)V"⟩
abbrev cX11_mustHaveRoomForNews : ByteArray := prog_1_method_58_code
def yX11_mustHaveRoomForNews : MethodName := ⟨RX11, "mustHaveRoomForNews", "()V"⟩
abbrev cX11_mustHaveRoomForPower : ByteArray := prog_1_method_59_code
def yX11_mustHaveRoomForPower : MethodName := ⟨RX11, "mustHaveRoomForPower", "()V"⟩
abbrev cX11_bit : ByteArray := prog_1_method_60_code
def yX11_bit : MethodName := ⟨RX11, "bit", "(I)I"⟩
abbrev cX11_hasBit : ByteArray := prog_1_method_61_code
def yX11_hasBit : MethodName := ⟨RX11, "hasBit", "(II)Z"⟩
abbrev cX11_sealOf : ByteArray := prog_1_method_62_code
def yX11_sealOf : MethodName := ⟨RX11, "sealOf", "(II)I"⟩
abbrev cX11_saltOf : ByteArray := prog_1_method_63_code
def yX11_saltOf : MethodName := ⟨RX11, "saltOf", "(III)I"⟩
abbrev cX11_markOf : ByteArray := prog_1_method_64_code
def yX11_markOf : MethodName := ⟨RX11, "markOf", "(IIII)I"⟩
abbrev cX11_sealFrom : ByteArray := prog_1_method_65_code
def yX11_sealFrom : MethodName := ⟨RX11, "sealFrom", "(III[II)I"⟩
def RX12 : String := "NotaryKioskModel"
def TX12 : u_T := fun k => match k with
  | _ => ("", "", "", false)
def tyX12 : Nat → FieldType := fun k => match k with
  | _ => .int
abbrev wsX120 : List Cond := u_ws RX12 TX12 0
theorem nmX12 : ∀ a, a < 0 → ∀ b, b < 0 → a ≠ b → (TX12 a).2.1 ≠ (TX12 b).2.1 := by decide +kernel
theorem tyX12_ok : ∀ k, k < 0 → parseFieldDescriptor (TX12 k).2.2.1 = some (tyX12 k) := by decide +kernel
def RJx145de : String := "java/io/Serializable"
def TJx145de : u_T := fun k => match k with
  | _ => ("", "", "", false)
def tyJx145de : Nat → FieldType := fun k => match k with
  | _ => .int
abbrev wsJx145de0 : List Cond := u_ws RJx145de TJx145de 0
theorem nmJx145de : ∀ a, a < 0 → ∀ b, b < 0 → a ≠ b → (TJx145de a).2.1 ≠ (TJx145de b).2.1 := by decide +kernel
theorem tyJx145de_ok : ∀ k, k < 0 → parseFieldDescriptor (TJx145de k).2.2.1 = some (tyJx145de k) := by decide +kernel
def RJx8e188 : String := "java/lang/Cloneable"
def TJx8e188 : u_T := fun k => match k with
  | _ => ("", "", "", false)
def tyJx8e188 : Nat → FieldType := fun k => match k with
  | _ => .int
abbrev wsJx8e1880 : List Cond := u_ws RJx8e188 TJx8e188 0
theorem nmJx8e188 : ∀ a, a < 0 → ∀ b, b < 0 → a ≠ b → (TJx8e188 a).2.1 ≠ (TJx8e188 b).2.1 := by decide +kernel
theorem tyJx8e188_ok : ∀ k, k < 0 → parseFieldDescriptor (TJx8e188 k).2.2.1 = some (tyJx8e188 k) := by decide +kernel
def RJ6 : String := "java/lang/Integer"
def TJ6 : u_T := fun k => match k with
  | _ => ("", "", "", false)
def tyJ6 : Nat → FieldType := fun k => match k with
  | _ => .int
abbrev wsJ60 : List Cond := u_ws RJ6 TJ6 0
theorem nmJ6 : ∀ a, a < 0 → ∀ b, b < 0 → a ≠ b → (TJ6 a).2.1 ≠ (TJ6 b).2.1 := by decide +kernel
theorem tyJ6_ok : ∀ k, k < 0 → parseFieldDescriptor (TJ6 k).2.2.1 = some (tyJ6 k) := by decide +kernel
abbrev cJ6_bitCount_0f7a4 : ByteArray := prog_21_method_49_code
def yJ6_bitCount_0f7a4 : MethodName := ⟨RJ6, "bitCount", "(I)I"⟩
def RJxab1ab : String := "java/lang/Iterable"
def TJxab1ab : u_T := fun k => match k with
  | _ => ("", "", "", false)
def tyJxab1ab : Nat → FieldType := fun k => match k with
  | _ => .int
abbrev wsJxab1ab0 : List Cond := u_ws RJxab1ab TJxab1ab 0
theorem nmJxab1ab : ∀ a, a < 0 → ∀ b, b < 0 → a ≠ b → (TJxab1ab a).2.1 ≠ (TJxab1ab b).2.1 := by decide +kernel
theorem tyJxab1ab_ok : ∀ k, k < 0 → parseFieldDescriptor (TJxab1ab k).2.2.1 = some (tyJxab1ab k) := by decide +kernel
def RJ9 : String := "java/lang/Math"
def TJ9 : u_T := fun k => match k with
  | _ => ("", "", "", false)
def tyJ9 : Nat → FieldType := fun k => match k with
  | _ => .int
abbrev wsJ90 : List Cond := u_ws RJ9 TJ9 0
theorem nmJ9 : ∀ a, a < 0 → ∀ b, b < 0 → a ≠ b → (TJ9 a).2.1 ≠ (TJ9 b).2.1 := by decide +kernel
theorem tyJ9_ok : ∀ k, k < 0 → parseFieldDescriptor (TJ9 k).2.2.1 = some (tyJ9 k) := by decide +kernel
abbrev cJ9_max_7cf53 : ByteArray := prog_23_method_65_code
def yJ9_max_7cf53 : MethodName := ⟨RJ9, "max", "(II)I"⟩
abbrev cJ9_min_7cf53 : ByteArray := prog_23_method_69_code
def yJ9_min_7cf53 : MethodName := ⟨RJ9, "min", "(II)I"⟩
def RJ0 : String := "java/lang/String"
def TJ0 : u_T := fun k => match k with
  | _ => ("", "", "", false)
def tyJ0 : Nat → FieldType := fun k => match k with
  | _ => .int
abbrev wsJ00 : List Cond := u_ws RJ0 TJ0 0
theorem nmJ0 : ∀ a, a < 0 → ∀ b, b < 0 → a ≠ b → (TJ0 a).2.1 ≠ (TJ0 b).2.1 := by decide +kernel
theorem tyJ0_ok : ∀ k, k < 0 → parseFieldDescriptor (TJ0 k).2.2.1 = some (tyJ0 k) := by decide +kernel
def RJ10 : String := "java/lang/System"
def TJ10 : u_T := fun k => match k with
  | _ => ("", "", "", false)
def tyJ10 : Nat → FieldType := fun k => match k with
  | _ => .int
abbrev wsJ100 : List Cond := u_ws RJ10 TJ10 0
theorem nmJ10 : ∀ a, a < 0 → ∀ b, b < 0 → a ≠ b → (TJ10 a).2.1 ≠ (TJ10 b).2.1 := by decide +kernel
theorem tyJ10_ok : ∀ k, k < 0 → parseFieldDescriptor (TJ10 k).2.2.1 = some (tyJ10 k) := by decide +kernel
def RJxa1e45 : String := "java/util/AbstractCollection"
def TJxa1e45 : u_T := fun k => match k with
  | _ => ("", "", "", false)
def tyJxa1e45 : Nat → FieldType := fun k => match k with
  | _ => .int
abbrev wsJxa1e450 : List Cond := u_ws RJxa1e45 TJxa1e45 0
theorem nmJxa1e45 : ∀ a, a < 0 → ∀ b, b < 0 → a ≠ b → (TJxa1e45 a).2.1 ≠ (TJxa1e45 b).2.1 := by decide +kernel
theorem tyJxa1e45_ok : ∀ k, k < 0 → parseFieldDescriptor (TJxa1e45 k).2.2.1 = some (tyJxa1e45 k) := by decide +kernel
abbrev cJxa1e45_init_da8c8 : ByteArray := prog_28_method_1_code
def yJxa1e45_init_da8c8 : MethodName := ⟨RJxa1e45, "<init>", "()V"⟩
def RJxc12de : String := "java/util/AbstractList"
def TJxc12de : u_T := fun k => match k with
  | _ => ("", "", "", false)
def tyJxc12de : Nat → FieldType := fun k => match k with
  | _ => .int
abbrev wsJxc12de0 : List Cond := u_ws RJxc12de TJxc12de 0
theorem nmJxc12de : ∀ a, a < 0 → ∀ b, b < 0 → a ≠ b → (TJxc12de a).2.1 ≠ (TJxc12de b).2.1 := by decide +kernel
theorem tyJxc12de_ok : ∀ k, k < 0 → parseFieldDescriptor (TJxc12de k).2.2.1 = some (tyJxc12de k) := by decide +kernel
abbrev cJxc12de_init_da8c8 : ByteArray := prog_29_method_1_code
def yJxc12de_init_da8c8 : MethodName := ⟨RJxc12de, "<init>", "()V"⟩
def RJx4a65c : String := "java/util/ArrayList"
def TJx4a65c : u_T := fun k => match k with
  | 0 => ("java/util/AbstractList", "modCount", "I", false)
  | 1 => ("java/util/ArrayList", "elementData", "[Ljava/lang/Object;", false)
  | _ => ("java/util/ArrayList", "size", "I", false)
def tyJx4a65c : Nat → FieldType := fun k => match k with
  | 0 => .int
  | 1 => .array (.object "java/lang/Object")
  | _ => .int
abbrev wsJx4a65c0 : List Cond := u_ws RJx4a65c TJx4a65c 3
theorem nmJx4a65c : ∀ a, a < 3 → ∀ b, b < 3 → a ≠ b → (TJx4a65c a).2.1 ≠ (TJx4a65c b).2.1 := by decide +kernel
theorem tyJx4a65c_ok : ∀ k, k < 3 → parseFieldDescriptor (TJx4a65c k).2.2.1 = some (tyJx4a65c k) := by decide +kernel
abbrev cJx4a65c_init_da8c8 : ByteArray := prog_30_method_2_code
def yJx4a65c_init_da8c8 : MethodName := ⟨RJx4a65c, "<init>", "()V"⟩
abbrev cJx4a65c_grow_92f84 : ByteArray := prog_30_method_6_code
def yJx4a65c_grow_92f84 : MethodName := ⟨RJx4a65c, "grow", "(I)[Ljava/lang/Object;"⟩
abbrev cJx4a65c_grow_d5877 : ByteArray := prog_30_method_7_code
def yJx4a65c_grow_d5877 : MethodName := ⟨RJx4a65c, "grow", "()[Ljava/lang/Object;"⟩
abbrev cJx4a65c_size_8abf5 : ByteArray := prog_30_method_8_code
def yJx4a65c_size_8abf5 : MethodName := ⟨RJx4a65c, "size", "()I"⟩
abbrev cJx4a65c_elementData_915e3 : ByteArray := prog_30_method_18_code
def yJx4a65c_elementData_915e3 : MethodName := ⟨RJx4a65c, "elementData", "(I)Ljava/lang/Object;"⟩
abbrev cJx4a65c_get_915e3 : ByteArray := prog_30_method_20_code
def yJx4a65c_get_915e3 : MethodName := ⟨RJx4a65c, "get", "(I)Ljava/lang/Object;"⟩
abbrev cJx4a65c_add_72be8 : ByteArray := prog_30_method_24_code
def yJx4a65c_add_72be8 : MethodName := ⟨RJx4a65c, "add", "(Ljava/lang/Object;[Ljava/lang/Object;I)V"⟩
abbrev cJx4a65c_add_9ea2d : ByteArray := prog_30_method_25_code
def yJx4a65c_add_9ea2d : MethodName := ⟨RJx4a65c, "add", "(Ljava/lang/Object;)Z"⟩
def RJ7 : String := "java/util/Arrays"
def TJ7 : u_T := fun k => match k with
  | _ => ("", "", "", false)
def tyJ7 : Nat → FieldType := fun k => match k with
  | _ => .int
abbrev wsJ70 : List Cond := u_ws RJ7 TJ7 0
theorem nmJ7 : ∀ a, a < 0 → ∀ b, b < 0 → a ≠ b → (TJ7 a).2.1 ≠ (TJ7 b).2.1 := by decide +kernel
theorem tyJ7_ok : ∀ k, k < 0 → parseFieldDescriptor (TJ7 k).2.2.1 = some (tyJ7 k) := by decide +kernel
abbrev cJ7_fill_53178 : ByteArray := prog_31_method_103_code
def yJ7_fill_53178 : MethodName := ⟨RJ7, "fill", "([II)V"⟩
abbrev cJ7_copyOf_1904c : ByteArray := prog_31_method_119_code
def yJ7_copyOf_1904c : MethodName := ⟨RJ7, "copyOf", "([Ljava/lang/Object;I)[Ljava/lang/Object;"⟩
abbrev cJ7_copyOf_6403c : ByteArray := prog_31_method_120_code
def yJ7_copyOf_6403c : MethodName := ⟨RJ7, "copyOf", "([Ljava/lang/Object;ILjava/lang/Class;)[Ljava/lang/Object;"⟩
def RJx5ef63 : String := "java/util/Collection"
def TJx5ef63 : u_T := fun k => match k with
  | _ => ("", "", "", false)
def tyJx5ef63 : Nat → FieldType := fun k => match k with
  | _ => .int
abbrev wsJx5ef630 : List Cond := u_ws RJx5ef63 TJx5ef63 0
theorem nmJx5ef63 : ∀ a, a < 0 → ∀ b, b < 0 → a ≠ b → (TJx5ef63 a).2.1 ≠ (TJx5ef63 b).2.1 := by decide +kernel
theorem tyJx5ef63_ok : ∀ k, k < 0 → parseFieldDescriptor (TJx5ef63 k).2.2.1 = some (tyJx5ef63 k) := by decide +kernel
def RJxbd725 : String := "java/util/List"
def TJxbd725 : u_T := fun k => match k with
  | _ => ("", "", "", false)
def tyJxbd725 : Nat → FieldType := fun k => match k with
  | _ => .int
abbrev wsJxbd7250 : List Cond := u_ws RJxbd725 TJxbd725 0
theorem nmJxbd725 : ∀ a, a < 0 → ∀ b, b < 0 → a ≠ b → (TJxbd725 a).2.1 ≠ (TJxbd725 b).2.1 := by decide +kernel
theorem tyJxbd725_ok : ∀ k, k < 0 → parseFieldDescriptor (TJxbd725 k).2.2.1 = some (tyJxbd725 k) := by decide +kernel
def RJ15 : String := "java/util/Objects"
def TJ15 : u_T := fun k => match k with
  | _ => ("", "", "", false)
def tyJ15 : Nat → FieldType := fun k => match k with
  | _ => .int
abbrev wsJ150 : List Cond := u_ws RJ15 TJ15 0
theorem nmJ15 : ∀ a, a < 0 → ∀ b, b < 0 → a ≠ b → (TJ15 a).2.1 ≠ (TJ15 b).2.1 := by decide +kernel
theorem tyJ15_ok : ∀ k, k < 0 → parseFieldDescriptor (TJ15 k).2.2.1 = some (tyJ15 k) := by decide +kernel
abbrev cJ15_checkIndex_7cf53 : ByteArray := prog_34_method_17_code
def yJ15_checkIndex_7cf53 : MethodName := ⟨RJ15, "checkIndex", "(II)I"⟩
def RJxf0a74 : String := "java/util/RandomAccess"
def TJxf0a74 : u_T := fun k => match k with
  | _ => ("", "", "", false)
def tyJxf0a74 : Nat → FieldType := fun k => match k with
  | _ => .int
abbrev wsJxf0a740 : List Cond := u_ws RJxf0a74 TJxf0a74 0
theorem nmJxf0a74 : ∀ a, a < 0 → ∀ b, b < 0 → a ≠ b → (TJxf0a74 a).2.1 ≠ (TJxf0a74 b).2.1 := by decide +kernel
theorem tyJxf0a74_ok : ∀ k, k < 0 → parseFieldDescriptor (TJxf0a74 k).2.2.1 = some (tyJxf0a74 k) := by decide +kernel
def RJxa66e6 : String := "java/util/SequencedCollection"
def TJxa66e6 : u_T := fun k => match k with
  | _ => ("", "", "", false)
def tyJxa66e6 : Nat → FieldType := fun k => match k with
  | _ => .int
abbrev wsJxa66e60 : List Cond := u_ws RJxa66e6 TJxa66e6 0
theorem nmJxa66e6 : ∀ a, a < 0 → ∀ b, b < 0 → a ≠ b → (TJxa66e6 a).2.1 ≠ (TJxa66e6 b).2.1 := by decide +kernel
theorem tyJxa66e6_ok : ∀ k, k < 0 → parseFieldDescriptor (TJxa66e6 k).2.2.1 = some (tyJxa66e6 k) := by decide +kernel
def RJ8 : String := "jdk/internal/util/ArraysSupport"
def TJ8 : u_T := fun k => match k with
  | _ => ("", "", "", false)
def tyJ8 : Nat → FieldType := fun k => match k with
  | _ => .int
abbrev wsJ80 : List Cond := u_ws RJ8 TJ8 0
theorem nmJ8 : ∀ a, a < 0 → ∀ b, b < 0 → a ≠ b → (TJ8 a).2.1 ≠ (TJ8 b).2.1 := by decide +kernel
theorem tyJ8_ok : ∀ k, k < 0 → parseFieldDescriptor (TJ8 k).2.2.1 = some (tyJ8 k) := by decide +kernel
abbrev cJ8_newLength_cabcc : ByteArray := prog_37_method_27_code
def yJ8_newLength_cabcc : MethodName := ⟨RJ8, "newLength", "(III)I"⟩
abbrev cJ8_hugeLength_7cf53 : ByteArray := prog_37_method_28_code
def yJ8_hugeLength_7cf53 : MethodName := ⟨RJ8, "hugeLength", "(II)I"⟩
def RJ3 : String := "jdk/internal/util/Preconditions"
def TJ3 : u_T := fun k => match k with
  | _ => ("", "", "", false)
def tyJ3 : Nat → FieldType := fun k => match k with
  | _ => .int
abbrev wsJ30 : List Cond := u_ws RJ3 TJ3 0
theorem nmJ3 : ∀ a, a < 0 → ∀ b, b < 0 → a ≠ b → (TJ3 a).2.1 ≠ (TJ3 b).2.1 := by decide +kernel
theorem tyJ3_ok : ∀ k, k < 0 → parseFieldDescriptor (TJ3 k).2.2.1 = some (tyJ3 k) := by decide +kernel
abbrev cJ3_checkIndex_8e157 : ByteArray := prog_38_method_11_code
def yJ3_checkIndex_8e157 : MethodName := ⟨RJ3, "checkIndex", "(IILjava/util/function/BiFunction;)I"⟩
def RL : String := "NotaryKioskLaw"
abbrev cL_cell : ByteArray := method_2_code
def yL_cell : MethodName := ⟨RL, "cell", "([II)I"⟩
abbrev cL_low : ByteArray := method_3_code
def yL_low : MethodName := ⟨RL, "low", "(II)I"⟩
abbrev cL_does : ByteArray := method_4_code
def yL_does : MethodName := ⟨RL, "does", "(LNotaryKiosk;IIIII)I"⟩
abbrev cL_tell : ByteArray := method_5_code
def yL_tell : MethodName := ⟨RL, "tell", "(LNotaryKiosk;ZIIIII)I"⟩
abbrev cL_tells : ByteArray := method_6_code
def yL_tells : MethodName := ⟨RL, "tells", "(LNotaryKiosk;ZIIIII)I"⟩
abbrev cL_looks : ByteArray := method_7_code
def yL_looks : MethodName := ⟨RL, "looks", "(LNotaryKiosk;III)I"⟩
abbrev cL_act : ByteArray := method_8_code
def yL_act : MethodName := ⟨RL, "act", "(LNotaryKiosk;I)I"⟩
abbrev cL_areAlike : ByteArray := method_9_code
def yL_areAlike : MethodName := ⟨RL, "areAlike", "(LNotaryKiosk;LNotaryKiosk;)Z"⟩
abbrev cL_isNewsSo : ByteArray := method_10_code
def yL_isNewsSo : MethodName := ⟨RL, "isNewsSo", "(LNotaryKiosk;I)Z"⟩
abbrev cL_isActSo : ByteArray := method_11_code
def yL_isActSo : MethodName := ⟨RL, "isActSo", "(LNotaryKiosk;LNotaryKiosk;III)Z"⟩
abbrev cL_isTamperedSo : ByteArray := method_12_code
def yL_isTamperedSo : MethodName := ⟨RL, "isTamperedSo", "(LNotaryKiosk;LNotaryKiosk;III)Z"⟩
abbrev cL_isCopySo : ByteArray := method_13_code
def yL_isCopySo : MethodName := ⟨RL, "isCopySo", "(LNotaryKiosk;LNotaryKiosk;II)Z"⟩
abbrev cL_law : ByteArray := code
def yL_law : MethodName := ⟨RL, "law", "([I)Z"⟩
end
section
/-! ===== an abstract machine for these classes: its heap (kind, ints, references, length of each address; how many cells, slots), and how it lies in the machine's heap ===== -/
abbrev nk_H : Type := (Nat → Nat) × (Nat → Nat → Int32) × (Nat → Nat → Option Nat) × (Nat → Nat) × Nat × Nat × Nat × Nat
def nk_K (h : nk_H) : Nat → Nat := h.1
def nk_I (h : nk_H) : Nat → Nat → Int32 := h.2.1
def nk_P (h : nk_H) : Nat → Nat → Option Nat := h.2.2.1
def nk_L (h : nk_H) : Nat → Nat := h.2.2.2.1
def nk_N (h : nk_H) : Nat := h.2.2.2.2.1
def nk_S (h : nk_H) : Nat := h.2.2.2.2.2.1
/-- the address of the lists' empty row; of the class object of Object[] -/
def nk_E (h : nk_H) : Nat := h.2.2.2.2.2.2.1
def nk_M (h : nk_H) : Nat := h.2.2.2.2.2.2.2
def nk_u2 {α : Type} (f : Nat → Nat → α) (a k : Nat) (v : α) : Nat → Nat → α := fun x y => if x = a ∧ y = k then v else f x y
def nk_u1 {α : Type} (f : Nat → α) (a : Nat) (v : α) : Nat → α := fun x => if x = a then v else f x
/-- a store of an int, of a reference -/
def nk_sI (h : nk_H) (a k : Nat) (v : Int32) : nk_H := (h.1, nk_u2 h.2.1 a k v, h.2.2)
def nk_sP (h : nk_H) (a k : Nat) (v : Option Nat) : nk_H := (h.1, h.2.1, nk_u2 h.2.2.1 a k v, h.2.2.2)
/-- a new cell of kind c, length n, of w slots -/
def nk_al (h : nk_H) (c n w : Nat) : nk_H := (nk_u1 (nk_K h) (nk_N h) c, nk_u1 (nk_I h) (nk_N h) (fun _ => 0), nk_u1 (nk_P h) (nk_N h) (fun _ => none), nk_u1 (nk_L h) (nk_N h) n, nk_N h + 1, nk_S h + w, nk_E h, nk_M h)
theorem nk_E_sI (h : nk_H) (a k : Nat) (v : Int32) : nk_E (nk_sI h a k v) = nk_E h := rfl
theorem nk_M_sI (h : nk_H) (a k : Nat) (v : Int32) : nk_M (nk_sI h a k v) = nk_M h := rfl
theorem nk_K_sI (h : nk_H) (a k : Nat) (v : Int32) : nk_K (nk_sI h a k v) = nk_K h := rfl
theorem nk_I_sI (h : nk_H) (a k : Nat) (v : Int32) : nk_I (nk_sI h a k v) = nk_u2 (nk_I h) a k v := rfl
theorem nk_P_sI (h : nk_H) (a k : Nat) (v : Int32) : nk_P (nk_sI h a k v) = nk_P h := rfl
theorem nk_L_sI (h : nk_H) (a k : Nat) (v : Int32) : nk_L (nk_sI h a k v) = nk_L h := rfl
theorem nk_N_sI (h : nk_H) (a k : Nat) (v : Int32) : nk_N (nk_sI h a k v) = nk_N h := rfl
theorem nk_S_sI (h : nk_H) (a k : Nat) (v : Int32) : nk_S (nk_sI h a k v) = nk_S h := rfl
theorem nk_E_sP (h : nk_H) (a k : Nat) (v : Option Nat) : nk_E (nk_sP h a k v) = nk_E h := rfl
theorem nk_M_sP (h : nk_H) (a k : Nat) (v : Option Nat) : nk_M (nk_sP h a k v) = nk_M h := rfl
theorem nk_K_sP (h : nk_H) (a k : Nat) (v : Option Nat) : nk_K (nk_sP h a k v) = nk_K h := rfl
theorem nk_I_sP (h : nk_H) (a k : Nat) (v : Option Nat) : nk_I (nk_sP h a k v) = nk_I h := rfl
theorem nk_P_sP (h : nk_H) (a k : Nat) (v : Option Nat) : nk_P (nk_sP h a k v) = nk_u2 (nk_P h) a k v := rfl
theorem nk_L_sP (h : nk_H) (a k : Nat) (v : Option Nat) : nk_L (nk_sP h a k v) = nk_L h := rfl
theorem nk_N_sP (h : nk_H) (a k : Nat) (v : Option Nat) : nk_N (nk_sP h a k v) = nk_N h := rfl
theorem nk_S_sP (h : nk_H) (a k : Nat) (v : Option Nat) : nk_S (nk_sP h a k v) = nk_S h := rfl
theorem nk_E_al (h : nk_H) (c n w : Nat) : nk_E (nk_al h c n w) = nk_E h := rfl
theorem nk_M_al (h : nk_H) (c n w : Nat) : nk_M (nk_al h c n w) = nk_M h := rfl
theorem nk_K_al (h : nk_H) (c n w : Nat) : nk_K (nk_al h c n w) = nk_u1 (nk_K h) (nk_N h) c := rfl
theorem nk_I_al (h : nk_H) (c n w : Nat) : nk_I (nk_al h c n w) = nk_u1 (nk_I h) (nk_N h) (fun _ => 0) := rfl
theorem nk_P_al (h : nk_H) (c n w : Nat) : nk_P (nk_al h c n w) = nk_u1 (nk_P h) (nk_N h) (fun _ => none) := rfl
theorem nk_L_al (h : nk_H) (c n w : Nat) : nk_L (nk_al h c n w) = nk_u1 (nk_L h) (nk_N h) n := rfl
theorem nk_N_al (h : nk_H) (c n w : Nat) : nk_N (nk_al h c n w) = nk_N h + 1 := rfl
theorem nk_S_al (h : nk_H) (c n w : Nat) : nk_S (nk_al h c n w) = nk_S h + w := rfl
theorem nk_u2_eq {α : Type} (f : Nat → Nat → α) (a k : Nat) (v : α) : nk_u2 f a k v a k = v := by simp [nk_u2]
theorem nk_u2_ne {α : Type} (f : Nat → Nat → α) (a k : Nat) (v : α) {x : Nat} (y : Nat) (h : x ≠ a) : nk_u2 f a k v x y = f x y := by simp [nk_u2, h]
theorem nk_u2_nk {α : Type} (f : Nat → Nat → α) (a k : Nat) (v : α) (x : Nat) {y : Nat} (h : y ≠ k) : nk_u2 f a k v x y = f x y := by simp [nk_u2, h]
theorem nk_u1_eq {α : Type} (f : Nat → α) (a : Nat) (v : α) : nk_u1 f a v a = v := by simp [nk_u1]
theorem nk_u1_ne {α : Type} (f : Nat → α) (a : Nat) (v : α) {x : Nat} (h : x ≠ a) : nk_u1 f a v x = f x := by simp [nk_u1, h]
/-- the classes of the objects, by their places: kind = place + 7 -/
abbrev nk_cl : List vw_C := [(RJx4a65c, TJx4a65c, 3), (RX0, TX0, 11), (RX1, TX1, 2), (RX2, TX2, 7), (RX3, TX3, 6), (RX4, TX4, 9), (RX5, TX5, 5), (RX6, TX6, 2), (RX7, TX7, 2), (RX9, TX9, 15), (RX10, TX10, 7), (RX11, TX11, 9), (RX11, TX11, 9)]
/-- which fields are references -/
def nk_rfl : List (List Nat) := [[1], [5, 6, 7, 8], [1], [4, 5], [], [5], [], [0, 1], [0, 1], [5, 7], [5, 6], [0, 1, 2, 3, 4, 6], [0, 1, 2, 3, 4, 6]]
def nk_rf (ci k : Nat) : Bool := (nk_rfl.getD ci []).contains k
def nk_fv (h : nk_H) (ci a k : Nat) : Value := if nk_rf ci k = true then va_rf (nk_P h a k) else .int (nk_I h a k)
/-- arrays: kinds 1 to 6 -/
def nk_el (h : nk_H) (c a j : Nat) : Value := if c ≤ 2 then .int (nk_I h a j) else if c ≤ 5 then va_rf (nk_P h a j) else .long (nk_I h a j).toInt64
def nk_ty (c : Nat) : FieldType := match c with
  | 1 => .int
  | 2 => .boolean
  | 3 => .object "NotaryKiosk$Chain"
  | 4 => .object "java/lang/Object"
  | 5 => .array .int
  | _ => .long
/-- what is fixed: the numbers of the classes and of their fields, of the arrays' classes; the heap of the law's start; the empty row of lists; the script's address, length and ints -/
abbrev nk_G : Type := va_G × (Nat → ClassId) × Heap × Nat × Nat × Nat × (Nat → Int32) × Nat
def nk_gD (G : nk_G) : va_G := G.1
def nk_gA (G : nk_G) : Nat → ClassId := G.2.1
def nk_gH (G : nk_G) : Heap := G.2.2.1
def nk_gE (G : nk_G) : Nat := G.2.2.2.1
def nk_gB (G : nk_G) : Nat := G.2.2.2.2.1
def nk_gL (G : nk_G) : Nat := G.2.2.2.2.2.1
def nk_gX (G : nk_G) : Nat → Int32 := G.2.2.2.2.2.2.1
def nk_gM (G : nk_G) : Nat := G.2.2.2.2.2.2.2
def nk_okA (G : nk_G) (h : nk_H) (H : Heap) : Prop := ∀ a : Nat, 1 ≤ nk_K h a → nk_K h a ≤ 6 → (nk_gH G).size ≤ a ∧ a < nk_N h ∧ H[a]? = some (arrV (nk_gA G (nk_K h a)) (nk_L h a) (nk_el h (nk_K h a) a))
def nk_okO (G : nk_G) (h : nk_H) (H : Heap) : Prop := ∀ (a ci : Nat) (q : vw_C), nk_K h a = ci + 7 → nk_cl[ci]? = some q → (nk_gH G).size ≤ a ∧ a < nk_N h ∧ t_OB a ((nk_gD G).1 ci) q.2.2 ((nk_gD G).2 ci) H (nk_fv h ci a)
def nk_okE (G : nk_G) (h : nk_H) : Prop := (∀ a : Nat, nk_K h a = 20 → a = nk_gE G) ∧ nk_E h = nk_gE G ∧ nk_M h = nk_gM G
def nk_R (G : nk_G) (h : nk_H) (H : Heap) : Prop := H.size = nk_N h ∧ (nk_gH G).size ≤ nk_N h ∧ (∀ a : Nat, a < (nk_gH G).size → H[a]? = (nk_gH G)[a]?) ∧ nk_okA G h H ∧ nk_okO G h H ∧ nk_okE G h
theorem nk_fv_other {h h1 : nk_H} {a : Nat} (ci : Nat) (hI : ∀ j, nk_I h1 a j = nk_I h a j) (hP : ∀ j, nk_P h1 a j = nk_P h a j) : nk_fv h1 ci a = nk_fv h ci a := by
  funext j; unfold nk_fv; rw [hI, hP]
theorem nk_el_other {h h1 : nk_H} {a : Nat} (c : Nat) (hI : ∀ j, nk_I h1 a j = nk_I h a j) (hP : ∀ j, nk_P h1 a j = nk_P h a j) : nk_el h1 c a = nk_el h c a := by
  funext j; unfold nk_el; rw [hI, hP]
/-- one cell of old kind has changed -/
theorem nk_R1 {G : nk_G} {h h1 : nk_H} {H H1 : Heap} {a : Nat} (hR : nk_R G h H) (hE : nk_E h1 = nk_E h ∧ nk_M h1 = nk_M h) (hK : nk_K h1 = nk_K h) (hL : nk_L h1 = nk_L h) (hN : nk_N h1 = nk_N h) (hI : ∀ x j, x ≠ a → nk_I h1 x j = nk_I h x j) (hP : ∀ x j, x ≠ a → nk_P h1 x j = nk_P h x j)
    (z : H1.size = H.size) (o : ∀ x : Nat, x ≠ a → H1[x]? = H[x]?) (ha : (nk_gH G).size ≤ a)
    (cA : 1 ≤ nk_K h a → nk_K h a ≤ 6 → H1[a]? = some (arrV (nk_gA G (nk_K h a)) (nk_L h a) (nk_el h1 (nk_K h a) a)))
    (cO : ∀ (ci : Nat) (q : vw_C), nk_K h a = ci + 7 → nk_cl[ci]? = some q → t_OB a ((nk_gD G).1 ci) q.2.2 ((nk_gD G).2 ci) H1 (nk_fv h1 ci a)) : nk_R G h1 H1 := by
  obtain ⟨r1, r2, r3, r4, r5, r6⟩ := hR
  refine ⟨by rw [z, hN]; exact r1, by rw [hN]; exact r2, fun x hx => by rw [o x (fun e => by omega)]; exact r3 x hx, fun x h1' h2' => ?_, fun x ci q h1' h2' => ?_, ⟨fun x hx => r6.1 x (by rw [← hK]; exact hx), by rw [hE.1]; exact r6.2.1, by rw [hE.2]; exact r6.2.2⟩⟩
  · rw [hK] at h1' h2' ⊢
    obtain ⟨q1, q2, q3⟩ := r4 x h1' h2'
    refine ⟨q1, by rw [hN]; exact q2, ?_⟩
    by_cases e : x = a
    · subst e
      rw [hL]
      exact cA h1' h2'
    · rw [hL, o x e, nk_el_other _ (fun j => hI x j e) (fun j => hP x j e)]
      exact q3
  · rw [hK] at h1'
    obtain ⟨q1, q2, q3⟩ := r5 x ci q h1' h2'
    refine ⟨q1, by rw [hN]; exact q2, ?_⟩
    by_cases e : x = a
    · subst e
      exact cO ci q h1' h2'
    · rw [nk_fv_other _ (fun j => hI x j e) (fun j => hP x j e)]
      exact q3.kept (o x e)
/-- one new cell -/
theorem nk_R_al {G : nk_G} {h : nk_H} {H H1 : Heap} {c n w : Nat} (hR : nk_R G h H) (z : H1.size = H.size + 1) (o : ∀ x : Nat, x < H.size → H1[x]? = H[x]?) (hc : c ≠ 20)
    (cA : 1 ≤ c → c ≤ 6 → H1[nk_N h]? = some (arrV (nk_gA G c) n (nk_el (nk_al h c n w) c (nk_N h))))
    (cO : ∀ (ci : Nat) (q : vw_C), c = ci + 7 → nk_cl[ci]? = some q → t_OB (nk_N h) ((nk_gD G).1 ci) q.2.2 ((nk_gD G).2 ci) H1 (nk_fv (nk_al h c n w) ci (nk_N h))) : nk_R G (nk_al h c n w) H1 := by
  obtain ⟨r1, r2, r3, r4, r5, r6⟩ := hR
  have other : ∀ x : Nat, x ≠ nk_N h → nk_K (nk_al h c n w) x = nk_K h x := fun x e => by rw [nk_K_al, nk_u1_ne _ _ _ e]
  have hIo : ∀ x j, x ≠ nk_N h → nk_I (nk_al h c n w) x j = nk_I h x j := fun x j e => by rw [nk_I_al, nk_u1_ne _ _ _ e]
  have hPo : ∀ x j, x ≠ nk_N h → nk_P (nk_al h c n w) x j = nk_P h x j := fun x j e => by rw [nk_P_al, nk_u1_ne _ _ _ e]
  have hLo : ∀ x, x ≠ nk_N h → nk_L (nk_al h c n w) x = nk_L h x := fun x e => by rw [nk_L_al, nk_u1_ne _ _ _ e]
  have hKs : nk_K (nk_al h c n w) (nk_N h) = c := by rw [nk_K_al, nk_u1_eq]
  have hLs : nk_L (nk_al h c n w) (nk_N h) = n := by rw [nk_L_al, nk_u1_eq]
  have hNs : nk_N (nk_al h c n w) = nk_N h + 1 := rfl
  refine ⟨by rw [z, r1]; rfl, by rw [hNs]; omega, fun x hx => by rw [o x (by omega)]; exact r3 x hx, fun x h1' h2' => ?_, fun x ci q h1' h2' => ?_, ⟨fun x hx => ?_, r6.2.1, r6.2.2⟩⟩
  · by_cases e : x = nk_N h
    · subst e
      rw [hKs] at h1' h2' ⊢
      refine ⟨r2, by rw [hNs]; omega, ?_⟩
      rw [hLs]
      exact cA h1' h2'
    · rw [other x e] at h1' h2' ⊢
      obtain ⟨q1, q2, q3⟩ := r4 x h1' h2'
      refine ⟨q1, by rw [hNs]; omega, ?_⟩
      rw [hLo x e, o x (by omega), nk_el_other _ (fun j => hIo x j e) (fun j => hPo x j e)]
      exact q3
  · by_cases e : x = nk_N h
    · subst e
      rw [hKs] at h1'
      exact ⟨r2, by rw [hNs]; omega, cO ci q h1' h2'⟩
    · rw [other x e] at h1'
      obtain ⟨q1, q2, q3⟩ := r5 x ci q h1' h2'
      refine ⟨q1, by rw [hNs]; omega, ?_⟩
      rw [nk_fv_other _ (fun j => hIo x j e) (fun j => hPo x j e)]
      exact q3.kept (o x (by omega))
  · by_cases e : x = nk_N h
    · subst e
      rw [hKs] at hx
      exact absurd hx hc
    · rw [other x e] at hx
      exact r6.1 x hx
/-- behind the stores -/
theorem nk_R_sI {G : nk_G} {h : nk_H} {H H1 : Heap} {a ci k : Nat} {v : Int32} {q : vw_C} (hR : nk_R G h H) (hk : nk_K h a = ci + 7) (hq : nk_cl[ci]? = some q) (hf : nk_rf ci k = false) (z : H1.size = H.size) (o : ∀ x : Nat, x ≠ a → H1[x]? = H[x]?)
    (hB : t_OB a ((nk_gD G).1 ci) q.2.2 ((nk_gD G).2 ci) H1 (updV (nk_fv h ci a) k (.int v))) : nk_R G (nk_sI h a k v) H1 := by
  refine nk_R1 (a := a) hR ⟨rfl, rfl⟩ rfl rfl rfl (fun x j e => nk_u2_ne _ _ _ _ j e) (fun _ _ _ => rfl) z o (hR.2.2.2.2.1 a ci q hk hq).1 (fun _ h2 => by omega) (fun ci' q' h1 h2 => ?_)
  have e : ci' = ci := by omega
  subst e
  cases hq.symm.trans h2
  refine hB.to (fun j _ => ?_)
  unfold updV nk_fv
  by_cases ej : j = k
  · subst ej
    rw [if_pos rfl, if_neg (by rw [hf]; decide), nk_I_sI, nk_u2_eq]
  · rw [if_neg ej, nk_I_sI, nk_u2_nk _ _ _ _ _ ej]; rfl
theorem nk_R_sP {G : nk_G} {h : nk_H} {H H1 : Heap} {a ci k : Nat} {v : Option Nat} {q : vw_C} (hR : nk_R G h H) (hk : nk_K h a = ci + 7) (hq : nk_cl[ci]? = some q) (hf : nk_rf ci k = true) (z : H1.size = H.size) (o : ∀ x : Nat, x ≠ a → H1[x]? = H[x]?)
    (hB : t_OB a ((nk_gD G).1 ci) q.2.2 ((nk_gD G).2 ci) H1 (updV (nk_fv h ci a) k (va_rf v))) : nk_R G (nk_sP h a k v) H1 := by
  refine nk_R1 (a := a) hR ⟨rfl, rfl⟩ rfl rfl rfl (fun _ _ _ => rfl) (fun x j e => nk_u2_ne _ _ _ _ j e) z o (hR.2.2.2.2.1 a ci q hk hq).1 (fun _ h2 => by omega) (fun ci' q' h1 h2 => ?_)
  have e : ci' = ci := by omega
  subst e
  cases hq.symm.trans h2
  refine hB.to (fun j _ => ?_)
  unfold updV nk_fv
  by_cases ej : j = k
  · subst ej
    rw [if_pos rfl, if_pos hf, nk_P_sP, nk_u2_eq]
  · rw [if_neg ej, nk_P_sP, nk_u2_nk _ _ _ _ _ ej]; rfl
theorem nk_R_aI {G : nk_G} {h : nk_H} {H H1 : Heap} {a j : Nat} {v : Int32} {u : Value} (hR : nk_R G h H) (h1 : 1 ≤ nk_K h a) (h2 : nk_K h a ≤ 6) (hu : (nk_K h a ≤ 2 ∧ u = .int v) ∨ (nk_K h a = 6 ∧ u = .long v.toInt64)) (z : H1.size = H.size) (o : ∀ x : Nat, x ≠ a → H1[x]? = H[x]?)
    (hB : H1[a]? = some (arrV (nk_gA G (nk_K h a)) (nk_L h a) (updV (nk_el h (nk_K h a) a) j u))) : nk_R G (nk_sI h a j v) H1 := by
  refine nk_R1 (a := a) hR ⟨rfl, rfl⟩ rfl rfl rfl (fun x j e => nk_u2_ne _ _ _ _ j e) (fun _ _ _ => rfl) z o (hR.2.2.2.1 a h1 h2).1 (fun _ _ => ?_) (fun ci' q' h1' _ => by omega)
  rw [hB]
  congr 2
  funext x
  unfold updV nk_el
  by_cases ej : x = j
  · subst ej
    rw [if_pos rfl, nk_I_sI, nk_u2_eq]
    rcases hu with ⟨hc, rfl⟩ | ⟨hc, rfl⟩
    · rw [if_pos hc]
    · rw [if_neg (by omega), if_neg (by omega)]
  · rw [if_neg ej, nk_I_sI, nk_u2_nk _ _ _ _ _ ej]; rfl
theorem nk_R_aP {G : nk_G} {h : nk_H} {H H1 : Heap} {a j : Nat} {v : Option Nat} (hR : nk_R G h H) (h1 : 3 ≤ nk_K h a) (h2 : nk_K h a ≤ 5) (z : H1.size = H.size) (o : ∀ x : Nat, x ≠ a → H1[x]? = H[x]?)
    (hB : H1[a]? = some (arrV (nk_gA G (nk_K h a)) (nk_L h a) (updV (nk_el h (nk_K h a) a) j (va_rf v)))) : nk_R G (nk_sP h a j v) H1 := by
  refine nk_R1 (a := a) hR ⟨rfl, rfl⟩ rfl rfl rfl (fun _ _ _ => rfl) (fun x j e => nk_u2_ne _ _ _ _ j e) z o (hR.2.2.2.1 a (by omega) (by omega)).1 (fun _ _ => ?_) (fun ci' q' h1' _ => by omega)
  rw [hB]
  congr 2
  funext x
  unfold updV nk_el
  by_cases ej : x = j
  · subst ej
    rw [if_pos rfl, nk_P_sP, nk_u2_eq, if_neg (by omega), if_pos h2]
  · rw [if_neg ej, nk_P_sP, nk_u2_nk _ _ _ _ _ ej]; rfl
end
section
/-! ===== what is known of the tables wherever the machine stands; contracts and walks over the abstract heap ===== -/
def nk_mv : Cond → Bool
  | .castable _ _ => true
  | .methodLinkNest _ _ _ _ => true
  | .declares _ => true
  | w => goodWord w
/-- the tables' words that stay -/
def nk_T : List Cond := lw_tbl.filter nk_mv
theorem nk_in {i : Nat} {w : Cond} (h : lw_tbl[i]? = some w) (g : nk_mv w = true) : w ∈ nk_T := List.mem_filter.mpr ⟨List.mem_of_getElem? h, g⟩
theorem nk_ins {ws : List Cond} (ps : List Nat) (h : ws = ps.filterMap (fun i => lw_tbl[i]?)) (g : ws.all nk_mv = true) : ∀ w ∈ ws, w ∈ nk_T := by
  intro w hw
  have g1 := List.all_eq_true.mp g w hw
  rw [h] at hw
  obtain ⟨i, -, hi⟩ := List.mem_filterMap.mp hw
  exact nk_in hi g1
theorem nk_warm1 {s U : State} (hW : s.WarmedH U.vm) {w : Cond} (g : nk_mv w = true) (a : Array Value) (h : w.before #[] s = true) : w.before a U = true := by
  have k : goodWord w = true → w.before a U = true := fun q => word_at hW (good_of_word q) h
  cases w
  case castable C T => exact va_Nw.use rfl (va_Nw.warmC hW h)
  case methodLinkNest c i x o => exact va_Nw.use rfl (va_Nw.warmM hW h)
  case declares x => exact va_Nw.use rfl (va_Nw.warmD hW h)
  all_goals exact k g
/-- an array class over arrays -/
def nk_AOA (U : State) : Prop := (Cond.arrayOver (.array .int)).before #[] U = true
theorem nk_AOA.moved {u U : State} (hvm : u.vm.Alike U.vm) (h : nk_AOA u) : nk_AOA U := by
  have hidx : ∀ comp : ClassId, (U.vm.classes.findIdx? fun (x : Class) => match x.kind with | .array component _ => component == comp | _ => false) = (u.vm.classes.findIdx? fun (x : Class) => match x.kind with | .array component _ => component == comp | _ => false) := by
    intro comp
    have e1 := va_idx_bare U.vm comp
    have e2 := va_idx_bare u.vm comp
    have e3 : U.vm.bare = u.vm.bare := by first | exact hvm.bare_eq | exact hvm.bare_eq.symm
    rw [e3] at e1
    exact e1.symm.trans e2
  unfold nk_AOA Cond.before Cond.holds at h ⊢
  simp only [Cond.value, beq_iff_eq, Option.bind_eq_some_iff, Option.map_eq_some_iff] at h ⊢
  obtain ⟨comp, h1, c, h2, k, h3, h4⟩ := h
  obtain ⟨k', hk', he⟩ := hvm.2.2 _ _ h3
  exact ⟨comp, by rw [hvm.findClass]; exact h1, c, (hidx comp).trans h2, k', hk', by rw [he, hvm.findClass]; exact h4⟩
/-- the texts of the exceptions: class, place, text -/
def nk_strs : List (String × Nat × String) := [("NotaryKiosk", 363, "no such kiosk"), ("NotaryKiosk", 366, "both kiosks are the same"), ("NotaryKiosk", 72, "they are joined"), ("NotaryKiosk", 84, "they are not joined"), ("NotaryKiosk", 374, "an argument is out of range"), ("NotaryKiosk", 90, "the hour would be above 400"), ("NotaryKiosk", 368, "no such person"), ("NotaryKiosk", 370, "giver and holder are the same"), ("NotaryKiosk", 386, "there are 160 pieces of news"), ("NotaryKiosk", 388, "there are 40 powers"), ("NotaryKiosk", 376, "no such power"), ("NotaryKiosk", 136, "the draft is not within the source"), ("NotaryKiosk", 143, "the source is not good here"), ("NotaryKiosk", 164, "the power is not known here, or is revoked"), ("NotaryKiosk", 149, "the person is the giver of no power of its line"), ("NotaryKiosk", 182, "a deputation for the kiosk has an hour in common with it"), ("NotaryKiosk", 196, "there is a reason against it"), ("NotaryKiosk", 380, "no such record"), ("NotaryKiosk", 231, "there are 12 copies"), ("NotaryKiosk", 225, "last is ahead of first"), ("NotaryKiosk", 382, "no such copy"), ("NotaryKiosk", 384, "the copy does not have so many records"), ("NotaryKiosk", 372, "no such part"), ("NotaryKiosk", 255, "the part is left out"), ("NotaryKiosk", 378, "no such piece of news")]
def nk_tys (G : nk_G) : List (ClassId × FieldType) := [(nk_gA G 1, .int), (nk_gA G 2, .boolean), (nk_gA G 3, .object "NotaryKiosk$Chain"), (nk_gA G 4, .object "java/lang/Object"), (nk_gA G 5, .array .int), (nk_gA G 6, .byte)]
/-- exceptions' classes that are apart -/
def nk_ncs : List (String × String) := [("java/lang/IllegalArgumentException", "java/lang/IndexOutOfBoundsException"), ("java/lang/IllegalStateException", "java/lang/IndexOutOfBoundsException"), ("java/lang/IndexOutOfBoundsException", "java/lang/IllegalArgumentException"), ("java/lang/IllegalStateException", "java/lang/IllegalArgumentException"), ("java/lang/IndexOutOfBoundsException", "java/lang/IllegalStateException"), ("java/lang/IllegalArgumentException", "java/lang/IllegalStateException")]
/-- the law's methods that catch, by their code: their tables -/
def nk_hhl : List (ByteArray × List (Nat × Nat × Nat × Nat)) := [
  (cL_does, [(0, 220, 221, 56), (0, 220, 226, 59), (0, 220, 231, 61)]),
  (cL_tell, [(0, 13, 14, 59)]),
  (cL_looks, [(0, 65, 66, 56)])]
def nk_rows (c : Code) : List (Nat × Nat × Nat × Nat) := c.exceptionTable.toList.map fun h => (h.startPc, h.endPc, h.handlerPc, h.catchType)
/-- no table, but for the law's own methods that catch -/
def nk_nls : List ByteArray := [cL_cell, cL_low, cL_tells, cL_act, cL_areAlike, cL_isNewsSo, cL_isActSo, cL_isTamperedSo, cL_isCopySo]
def nk_nl (own : String) (cc : ByteArray) : Prop := own ≠ "NotaryKioskLaw" ∨ cc ∈ nk_nls
def nk_Tb (own : String) (cc : ByteArray) (c : Code) : Prop := (nk_nl own cc → ∀ x ∈ c.exceptionTable.toList, False) ∧ (own = "NotaryKioskLaw" → ∀ q ∈ nk_hhl, q.1 = cc → nk_rows c = q.2)
/-- the cells that may change -/
def nk_fr (G : nk_G) : Nat → Prop := fun q => (nk_gH G).size ≤ q
/-- of the tables and of the start's heap, at any state -/
def nk_Kn (G : nk_G) (U : State) : Prop :=
  (∀ w ∈ nk_T, w.before #[] U = true) ∧ va_K (nk_gD G) nk_cl (nk_tys G) U ∧ (va_AO "NotaryKiosk$Chain" U ∧ va_AO "java/lang/Object" U ∧ nk_AOA U) ∧
  (∀ q ∈ nk_strs, ∃ sa : Nat, vk_R q.1 q.2.1 q.2.2 sa U) ∧ vx_Zq Bundle.tN "UNASSIGNED_STACK" Bundle.steD (nk_fr G) U (nk_gH G) ∧ vx_Zq Bundle.tN "SUPPRESSED_SENTINEL" Bundle.listD (nk_fr G) U (nk_gH G) ∧
  va_Z "java/util/ArrayList" "DEFAULTCAPACITY_EMPTY_ELEMENTDATA" "[Ljava/lang/Object;" (.ref (nk_gE G)) (nk_fr G) U (nk_gH G) ∧
  (∃ cell : Cell, (nk_gH G)[nk_gE G]? = some cell ∧ U.isArrayOf cell (.object "java/lang/Object") ∧ cell.slots.size = 0) ∧
  (va_X (nk_gB G) (nk_gL G) (nk_gX G) U (nk_gH G) ∧ nk_gB G < (nk_gH G).size ∧ va_Mi "[Ljava/lang/Object;" (nk_gM G) U ∧ ∀ q ∈ nk_ncs, va_Nc q.1 q.2 U)
theorem nk_Kn.warm {G : nk_G} {s U : State} (hW : s.WarmedH U.vm) (h : nk_Kn G s) : nk_Kn G U := by
  obtain ⟨k1, k2, ⟨k3, k4, k5⟩, k6, k7, k8, k9, ⟨cell, k10, k11, k12⟩, k13, k14, k15, k16⟩ := h
  have hA := hW.alike
  exact ⟨fun w hw => nk_warm1 hW (List.mem_filter.mp hw).2 _ (k1 w hw), va_K.moved hA k2, ⟨va_AO.moved hA k3, va_AO.moved hA k4, nk_AOA.moved hA k5⟩, fun q hq => by
    obtain ⟨sa, h1⟩ := k6 q hq
    exact ⟨sa, vk_R.warm hW h1⟩, vx_Zq.moved hA k7, vx_Zq.moved hA k8, va_Z.moved hA k9, ⟨cell, k10, State.isArrayOf_alike hA k11, k12⟩, va_X.moved hA k13, k14, va_Mi.moved hA k15, fun q hq => va_Nc.moved hA (k16 q hq)⟩
theorem nk_Kn.use {G : nk_G} {s : State} (h : nk_Kn G s) {w : Cond} (hw : w ∈ nk_T) (args : Array Value) : w.before args s = true := nk_warm1 (State.WarmedH.refl s) (List.mem_filter.mp hw).2 args (h.1 w hw)
/-- values of one word: an int, a reference or null -/
abbrev nk_V : Type := Int32 ⊕ Option Nat
def nk_v (t : nk_V) : Value := match t with
  | .inl x => .int x
  | .inr p => va_rf p
def nk_vs (l : List nk_V) : List Value := l.map nk_v
def nk_lv (l : List (Nat × nk_V)) : List (Nat × Value) := l.map fun q => (q.1, nk_v q.2)
theorem nk_rc (p : Option Nat) : (va_rf p).category = 1 := by cases p <;> rfl
theorem nk_vc (t : nk_V) : (nk_v t).category = 1 := by
  rcases t with x | p
  · rfl
  · exact nk_rc p
theorem nk_at {ls : Array Slot} {nL : Nat} {l : List (Nat × nk_V)} (h : lv_has ls nL (nk_lv l)) (k : Nat) {i : Nat} {t : nk_V} (hk : l[k]? = some (i, t)) : ls[i]? = some (.val (nk_v t)) :=
  lv_at h k (by unfold nk_lv; rw [List.getElem?_map, hk]; rfl)
theorem nk_sub {ls : Array Slot} {nL : Nat} {l l' : List (Nat × nk_V)} (h : lv_has ls nL (nk_lv l)) (ks : List Nat) (hl : ks.filterMap (fun k => l[k]?) = l') : lv_has ls nL (nk_lv l') := by
  refine lv_sub h ks ?_
  subst hl
  unfold lv_pick nk_lv
  rw [List.map_filterMap]
  congr 1
  funext k
  rw [List.getElem?_map]
theorem nk_setl {l l' : List (Nat × nk_V)} {i : Nat} {t : nk_V} (hl : (i, t) :: l.filter (fun q => !(q.1 == i)) = l') : (i, nk_v t) :: (nk_lv l).filter (fun q => !(q.1 == i) && !(q.1 + 1 == i && q.2.category == 2)) = nk_lv l' := by
  subst hl
  unfold nk_lv
  rw [List.filter_map, List.map_cons]
  refine congrArg (fun z : List (Nat × nk_V) => (i, nk_v t) :: z.map (fun q => (q.1, nk_v q.2))) (List.filter_congr (fun q _ => ?_))
  show (!(q.1 == i) && !(q.1 + 1 == i && (nk_v q.2).category == 2)) = _
  rw [nk_vc]
  simp
theorem nk_sum (l : List nk_V) : ((nk_vs l).map fun v => v.category).sum = l.length := by
  induction l with
  | nil => rfl
  | cons a t ih =>
    show (nk_v a).category + ((nk_vs t).map fun v => v.category).sum = t.length + 1
    rw [ih, nk_vc]
    omega
theorem nk_sl (l : List nk_V) : lg_sl (nk_vs l) = (nk_vs l).map Slot.val := by
  induction l with
  | nil => rfl
  | cons a t ih =>
    show (if (nk_v a).category = 2 then [Slot.val (nk_v a), .second] else [.val (nk_v a)]) ++ lg_sl (nk_vs t) = .val (nk_v a) :: (nk_vs t).map Slot.val
    rw [ih, nk_vc]
    rfl
theorem nk_args : ∀ (l : List nk_V) (i : Nat), lv_args i (nk_vs l) = nk_lv ((l.zipIdx i).map fun q => (q.2, q.1))
  | [], _ => rfl
  | a :: t, i => by
    show (i, nk_v a) :: lv_args (if (nk_v a).category = 2 then i + 2 else i + 1) (nk_vs t) = _
    rw [nk_vc, if_neg (by decide), nk_args t (i + 1)]
    rfl
theorem nk_noTrace {l : Launch} (h : l.flags = flags0) : l.stackTraces = false := by
  unfold Launch.stackTraces
  rw [h]
  decide +kernel
/-- a method's end: what it answers (inl) or which class it throws (inr), and the heap -/
def nk_Qc (G : nk_G) (h : nk_H) (o : Option Value ⊕ String) : Array Value → State → Outcome → State → Prop := fun _ _ out t => nk_R G h t.heap ∧ ∃ v : Option Value, o = .inl v ∧ out = .returned v
def nk_XC (G : nk_G) (h : nk_H) (o : Option Value ⊕ String) : String → State → State → Prop := fun E _ t => nk_R G h t.heap ∧ o = .inr E
def nk_Pc (G : nk_G) (h : nk_H) (vs : List nk_V) : Array Value → State → Prop := fun a U => a = (nk_vs vs).toArray ∧ nk_R G h U.heap ∧ nk_Kn G U
theorem nk_blind (G : nk_G) (h : nk_H) (vs : List nk_V) : FrameBlind (nk_Pc G h vs) := by
  intro a U g mk ⟨h1, h2, h3⟩
  exact ⟨h1, h2, nk_Kn.warm (s := U) (U := U.calling g mk a) (State.WarmedH.refl U) h3⟩
/-- answers as outcomes -/
def nk_eV : Unit → Option Value ⊕ String := fun _ => .inl none
def nk_eI : Int32 → Option Value ⊕ String := fun x => .inl (some (.int x))
def nk_eR : Option Nat → Option Value ⊕ String := fun p => .inl (some (va_rf p))
def nk_eVt : Unit ⊕ String → Option Value ⊕ String := fun r => match r with
  | .inl _ => .inl none
  | .inr E => .inr E
def nk_eIt : Int32 ⊕ String → Option Value ⊕ String := fun r => match r with
  | .inl x => .inl (some (.int x))
  | .inr E => .inr E
/-- a method's contract: from any heap where its function has an answer -/
def nk_Con {α : Type} (G : nk_G) (l : Launch) (y : MethodName) (cc : ByteArray) (nL : Nat) (ret : Option FieldType) (fr lo : Nat) (en : α → Option Value ⊕ String) (vs : List nk_V) (h : nk_H) (f : Option (nk_H × α)) : Prop :=
  ∀ (h' : nk_H) (r : α), f = some (h', r) → nk_N h ≤ nk_N h' ∧ nk_S h ≤ nk_S h' ∧
    vx_Met l y [Cond.code y cc nL ret] { frames := fr, cells := nk_N h' - nk_N h, slots := nk_S h' - nk_S h, locals := lo } (nk_Pc G h vs) (nk_Qc G h' (en r)) (nk_XC G h' (en r)) (nk_N h' - nk_N h) (nk_S h' - nk_S h) (nk_fr G)
/-- a frame's surroundings -/
def nk_X (G : nk_G) (l : Launch) (own : String) (cc : ByteArray) (nL : Nat) (ret : Option FieldType) (fr lo : Nat) (ini : Bool) (p : Program) (R : Room) (s : State) (m : MethodId) (meth : Method) (c : Code) : Prop :=
  p.tables.exec = Jvm.exec ∧ c.code = cc ∧ c.maxLocals = nL ∧ meth.sig.returnType = ret ∧ meth.locks = false ∧ s.vm.findClass own = some m.cls ∧ nk_Kn G s ∧
  ((nk_gH G).size ≤ s.heap.size ∧ ∀ a : Nat, a < (nk_gH G).size → s.heap[a]? = (nk_gH G)[a]?) ∧ fr ≤ R.frames ∧ lo ≤ R.locals ∧ nk_Tb own cc c ∧ l.stackTraces = false ∧ (ini = true → meth.name = "<init>")
/-- a walk from here: wherever the frame stands in a heap that the abstract one pictures, if the function has an answer, the method comes to it -/
def nk_Sim {α : Type} (G : nk_G) (l : Launch) (own : String) (cc : ByteArray) (nL : Nat) (ret : Option FieldType) (fr lo : Nat) (ini : Bool) (en : α → Option Value ⊕ String) (pc : Nat) (lv : List (Nat × nk_V)) (st : List nk_V) (h : nk_H) (f : Option (nk_H × α)) : Prop :=
  ∀ (h' : nk_H) (r : α), f = some (h', r) → nk_N h ≤ nk_N h' ∧ nk_S h ≤ nk_S h' ∧
    ∀ (p : Program) (e : Env) (R : Room) (s : State) (m : MethodId) (args : Array Value) (below : List Frame) (meth : Method) (c : Code), nk_X G l own cc nL ret fr lo ini p R s m meth c →
    ∀ (sb : Nat), s.heap.size ≤ nk_N h → sb ≤ nk_S h → nk_N h' - s.heap.size ≤ R.cells → nk_S h' - sb ≤ R.slots →
    ∀ (H : Heap) (ls : Array Slot) (locs : List Loc), nk_R G h H → lv_has ls nL (nk_lv lv) → (∀ q ∈ locs, nk_fr G q.base) →
      W p l e R s m args below meth c H locs (nk_N h - s.heap.size) (nk_S h - sb) (vx_MQ below (nk_Qc G h' (en r)) (nk_XC G h' (en r)) args s (nk_N h' - s.heap.size) (nk_S h' - sb) (nk_fr G)) (F0 m pc ls (nk_vs st))
section NKS
variable {α : Type} {G : nk_G} {l : Launch} {own : String} {cc : ByteArray} {nL : Nat} {ret : Option FieldType} {fr lo : Nat} {ini : Bool} {en : α → Option Value ⊕ String} {pc pc' : Nat} {lv lv' : List (Nat × nk_V)} {st st' : List nk_V} {h h1 : nk_H} {f : Option (nk_H × α)}
/-- a step that leaves the heap -/
theorem nk_pure (step : ∀ (p : Program) (e : Env) (R : Room) (s : State) (m : MethodId) (args : Array Value) (below : List Frame) (meth : Method) (c : Code) (H : Heap) (locs : List Loc) (cells slots : Nat) (Q : State → Prop) (ls : Array Slot), nk_X G l own cc nL ret fr lo ini p R s m meth c → nk_R G h H → lv_has ls nL (nk_lv lv) →
      (∀ ls' : Array Slot, lv_has ls' nL (nk_lv lv') → W p l e R s m args below meth c H locs cells slots Q (F0 m pc' ls' (nk_vs st'))) → W p l e R s m args below meth c H locs cells slots Q (F0 m pc ls (nk_vs st)))
    (k : nk_Sim G l own cc nL ret fr lo ini en pc' lv' st' h f) : nk_Sim G l own cc nL ret fr lo ini en pc lv st h f := by
  intro h' r hf
  obtain ⟨k1, k2, k3⟩ := k h' r hf
  refine ⟨k1, k2, fun p e R s m args below meth c X sb b1 b2 b3 b4 H ls locs hR hl hq => ?_⟩
  exact step p e R s m args below meth c H locs _ _ _ ls X hR hl (fun ls' hl' => k3 p e R s m args below meth c X sb b1 b2 b3 b4 H ls' locs hR hl' hq)
/-- a step that writes old cells of ours -/
theorem nk_heap (hN : nk_N h1 = nk_N h) (hS : nk_S h1 = nk_S h) (step : ∀ (p : Program) (e : Env) (R : Room) (s : State) (m : MethodId) (args : Array Value) (below : List Frame) (meth : Method) (c : Code) (H : Heap) (locs : List Loc) (cells slots : Nat) (Q : State → Prop) (ls : Array Slot), nk_X G l own cc nL ret fr lo ini p R s m meth c → nk_R G h H → lv_has ls nL (nk_lv lv) → (∀ q ∈ locs, nk_fr G q.base) →
      (∀ (H1 : Heap) (locs1 : List Loc), nk_R G h1 H1 → (∀ q ∈ locs1, nk_fr G q.base) → W p l e R s m args below meth c H1 locs1 cells slots Q (F0 m pc' ls (nk_vs st'))) → W p l e R s m args below meth c H locs cells slots Q (F0 m pc ls (nk_vs st)))
    (k : nk_Sim G l own cc nL ret fr lo ini en pc' lv st' h1 f) : nk_Sim G l own cc nL ret fr lo ini en pc lv st h f := by
  intro h' r hf
  obtain ⟨k1, k2, k3⟩ := k h' r hf
  rw [hN] at k1 k3
  rw [hS] at k2 k3
  refine ⟨k1, k2, fun p e R s m args below meth c X sb b1 b2 b3 b4 H ls locs hR hl hq => ?_⟩
  exact step p e R s m args below meth c H locs _ _ _ ls X hR hl hq (fun H1 locs1 hR1 hq1 => k3 p e R s m args below meth c X sb b1 b2 b3 b4 H1 ls locs1 hR1 hl hq1)
/-- a step that makes a cell of w slots -/
theorem nk_new {c0 n w : Nat} (step : ∀ (p : Program) (e : Env) (R : Room) (s : State) (m : MethodId) (args : Array Value) (below : List Frame) (meth : Method) (c : Code) (H : Heap) (locs : List Loc) (cells slots : Nat) (Q : State → Prop) (ls : Array Slot), nk_X G l own cc nL ret fr lo ini p R s m meth c → nk_R G h H → lv_has ls nL (nk_lv lv) → cells + 1 ≤ R.cells → slots + w ≤ R.slots →
      (∀ (H1 : Heap), nk_R G (nk_al h c0 n w) H1 → W p l e R s m args below meth c H1 locs (cells + 1) (slots + w) Q (F0 m pc' ls (nk_vs st'))) → W p l e R s m args below meth c H locs cells slots Q (F0 m pc ls (nk_vs st)))
    (k : nk_Sim G l own cc nL ret fr lo ini en pc' lv st' (nk_al h c0 n w) f) : nk_Sim G l own cc nL ret fr lo ini en pc lv st h f := by
  intro h' r hf
  obtain ⟨k1, k2, k3⟩ := k h' r hf
  rw [nk_N_al] at k1 k3
  rw [nk_S_al] at k2 k3
  refine ⟨by omega, by omega, fun p e R s m args below meth c X sb b1 b2 b3 b4 H ls locs hR hl hq => ?_⟩
  refine step p e R s m args below meth c H locs _ _ _ ls X hR hl (by omega) (by omega) (fun H1 hR1 => ?_)
  have := k3 p e R s m args below meth c X sb (by omega) (by omega) b3 b4 H1 ls locs hR1 hl hq
  rw [show nk_N h + 1 - s.heap.size = nk_N h - s.heap.size + 1 by omega, show nk_S h + w - sb = nk_S h - sb + w by omega] at this
  exact this
/-- no answer: nothing to show -/
theorem nk_none : nk_Sim G l own cc nL ret fr lo ini en pc lv st h none := fun _ _ hf => nomatch hf
/-- a part of the function that may have no answer -/
theorem nk_bind {β : Type} {x : Option β} {F : β → Option (nk_H × α)} (k : ∀ v : β, x = some v → nk_Sim G l own cc nL ret fr lo ini en pc lv st h (F v)) : nk_Sim G l own cc nL ret fr lo ini en pc lv st h (x.bind F) := by
  cases hx : x with
  | none => exact nk_none
  | some v => exact k v hx
theorem nk_locals (ks : List Nat) (hl : ks.filterMap (fun k => lv[k]?) = lv') (k : nk_Sim G l own cc nL ret fr lo ini en pc lv' st h f) : nk_Sim G l own cc nL ret fr lo ini en pc lv st h f :=
  nk_pure (fun p e R s m args below meth c H locs cells slots Q ls X hR hl' kk => kk ls (nk_sub hl' ks hl)) k
end NKS
end
section
section NKR
variable {α : Type} {G : nk_G} {l : Launch} {own : String} {cc : ByteArray} {nL : Nat} {ret : Option FieldType} {fr lo : Nat} {ini : Bool} {en : α → Option Value ⊕ String} {pc : Nat} {lv lv2 : List (Nat × nk_V)} {st : List nk_V} {h : nk_H} {f fA fB : Option (nk_H × α)}
theorem nr_iconst {n : Int} {v : Int32} (d : decode cc pc = .ok (.iconst n, 1)) (hv : Int32.ofInt n = v) (k : nk_Sim G l own cc nL ret fr lo ini en (pc + 1) lv (.inl v :: st) h f) : nk_Sim G l own cc nL ret fr lo ini en pc lv st h f :=
  nk_pure (fun p e R s m args below meth c H locs cells slots Q ls X hR hl kk => lv_iconst X.1 X.2.1 d hv (kk ls hl)) k
theorem nr_bipush {n : Int} {v : Int32} (d : decode cc pc = .ok (.bipush n, 2)) (hv : (Int8.ofInt n).toInt32 = v) (k : nk_Sim G l own cc nL ret fr lo ini en (pc + 2) lv (.inl v :: st) h f) : nk_Sim G l own cc nL ret fr lo ini en pc lv st h f :=
  nk_pure (fun p e R s m args below meth c H locs cells slots Q ls X hR hl kk => lv_bipush X.1 X.2.1 d hv (kk ls hl)) k
theorem nr_sipush {n : Int} {v : Int32} (d : decode cc pc = .ok (.sipush n, 3)) (hv : (Int16.ofInt n).toInt32 = v) (k : nk_Sim G l own cc nL ret fr lo ini en (pc + 3) lv (.inl v :: st) h f) : nk_Sim G l own cc nL ret fr lo ini en pc lv st h f :=
  nk_pure (fun p e R s m args below meth c H locs cells slots Q ls X hR hl kk => lv_sipush X.1 X.2.1 d hv (kk ls hl)) k
theorem nr_ldc {i : Nat} {v : Int32} (d : decode cc pc = .ok (.ldc i, 2)) (w : Cond.constant own i v ∈ nk_T) (k : nk_Sim G l own cc nL ret fr lo ini en (pc + 2) lv (.inl v :: st) h f) : nk_Sim G l own cc nL ret fr lo ini en pc lv st h f :=
  nk_pure (fun p e R s m args below meth c H locs cells slots Q ls X hR hl kk => lv_ldc X.1 X.2.1 X.2.2.2.2.2.1 (nk_Kn.use X.2.2.2.2.2.2.1 w args) d (kk ls hl)) k
theorem nr_ldcw {i : Nat} {v : Int32} (d : decode cc pc = .ok (.ldc_w i, 3)) (w : Cond.constant own i v ∈ nk_T) (k : nk_Sim G l own cc nL ret fr lo ini en (pc + 3) lv (.inl v :: st) h f) : nk_Sim G l own cc nL ret fr lo ini en pc lv st h f :=
  nk_pure (fun p e R s m args below meth c H locs cells slots Q ls X hR hl kk => lv_ldcw X.1 X.2.1 X.2.2.2.2.2.1 (nk_Kn.use X.2.2.2.2.2.2.1 w args) d (kk ls hl)) k
theorem nr_null  (d : decode cc pc = .ok (.aconst_null, 1))  (k : nk_Sim G l own cc nL ret fr lo ini en (pc + 1) lv (.inr none :: st) h f) : nk_Sim G l own cc nL ret fr lo ini en pc lv st h f :=
  nk_pure (fun p e R s m args below meth c H locs cells slots Q ls X hR hl kk => lv_null X.1 X.2.1 d (kk ls hl)) k
theorem nr_iload_n {i : Fin 4} (j : Nat) {x : Int32} (d : decode cc pc = .ok (.iload_n i, 1)) (hk : lv[j]? = some ((i : Nat), .inl x)) (k : nk_Sim G l own cc nL ret fr lo ini en (pc + 1) lv (.inl x :: st) h f) : nk_Sim G l own cc nL ret fr lo ini en pc lv st h f :=
  nk_pure (fun p e R s m args below meth c H locs cells slots Q ls X hR hl kk => lv_iload_n X.1 X.2.1 d rfl (nk_at hl j hk) (kk ls hl)) k
theorem nr_iload {i : Nat} (j : Nat) {x : Int32} (d : decode cc pc = .ok (.iload i, 2)) (hk : lv[j]? = some (i, .inl x)) (k : nk_Sim G l own cc nL ret fr lo ini en (pc + 2) lv (.inl x :: st) h f) : nk_Sim G l own cc nL ret fr lo ini en pc lv st h f :=
  nk_pure (fun p e R s m args below meth c H locs cells slots Q ls X hR hl kk => lv_iload X.1 X.2.1 d (nk_at hl j hk) (kk ls hl)) k
theorem nr_aload_n {i : Fin 4} (j : Nat) {x : Option Nat} (d : decode cc pc = .ok (.aload_n i, 1)) (hk : lv[j]? = some ((i : Nat), .inr x)) (k : nk_Sim G l own cc nL ret fr lo ini en (pc + 1) lv (.inr x :: st) h f) : nk_Sim G l own cc nL ret fr lo ini en pc lv st h f :=
  nk_pure (fun p e R s m args below meth c H locs cells slots Q ls X hR hl kk => by
    have h1 := nk_at hl j hk
    cases x with
    | none => exact lv_aload_nN X.1 X.2.1 d rfl h1 (kk ls hl)
    | some a => exact lv_aload_n X.1 X.2.1 d rfl h1 (kk ls hl)) k
theorem nr_aload {i : Nat} (j : Nat) {x : Option Nat} (d : decode cc pc = .ok (.aload i, 2)) (hk : lv[j]? = some (i, .inr x)) (k : nk_Sim G l own cc nL ret fr lo ini en (pc + 2) lv (.inr x :: st) h f) : nk_Sim G l own cc nL ret fr lo ini en pc lv st h f :=
  nk_pure (fun p e R s m args below meth c H locs cells slots Q ls X hR hl kk => by
    have h1 := nk_at hl j hk
    cases x with
    | none => exact lv_aloadN X.1 X.2.1 d h1 (kk ls hl)
    | some a => exact lv_aload X.1 X.2.1 d h1 (kk ls hl)) k
theorem nr_istore_n {i : Fin 4} {x : Int32} (d : decode cc pc = .ok (.istore_n i, 1)) (hn : (i : Nat) < nL) (hl2 : ((i : Nat), .inl x) :: lv.filter (fun q => !(q.1 == (i : Nat))) = lv2) (k : nk_Sim G l own cc nL ret fr lo ini en (pc + 1) lv2 st h f) : nk_Sim G l own cc nL ret fr lo ini en pc lv (.inl x :: st) h f :=
  nk_pure (fun p e R s m args below meth c H locs cells slots Q ls X hR hl kk => lv_istore_n X.1 X.2.1 d rfl hl hn (nk_setl hl2) kk) k
theorem nr_istore {i : Nat} {x : Int32} (d : decode cc pc = .ok (.istore i, 2)) (hn : i < nL) (hl2 : (i, .inl x) :: lv.filter (fun q => !(q.1 == i)) = lv2) (k : nk_Sim G l own cc nL ret fr lo ini en (pc + 2) lv2 st h f) : nk_Sim G l own cc nL ret fr lo ini en pc lv (.inl x :: st) h f :=
  nk_pure (fun p e R s m args below meth c H locs cells slots Q ls X hR hl kk => lv_istore X.1 X.2.1 d hl hn (nk_setl hl2) kk) k
theorem nr_astore_n {i : Fin 4} {x : Option Nat} (d : decode cc pc = .ok (.astore_n i, 1)) (hn : (i : Nat) < nL) (hl2 : ((i : Nat), .inr x) :: lv.filter (fun q => !(q.1 == (i : Nat))) = lv2) (k : nk_Sim G l own cc nL ret fr lo ini en (pc + 1) lv2 st h f) : nk_Sim G l own cc nL ret fr lo ini en pc lv (.inr x :: st) h f :=
  nk_pure (fun p e R s m args below meth c H locs cells slots Q ls X hR hl kk => by
    cases x with
    | none => exact lv_astore_nN X.1 X.2.1 d rfl hl hn (nk_setl hl2) kk
    | some a => exact lv_astore_n X.1 X.2.1 d rfl hl hn (nk_setl hl2) kk) k
theorem nr_astore {i : Nat} {x : Option Nat} (d : decode cc pc = .ok (.astore i, 2)) (hn : i < nL) (hl2 : (i, .inr x) :: lv.filter (fun q => !(q.1 == i)) = lv2) (k : nk_Sim G l own cc nL ret fr lo ini en (pc + 2) lv2 st h f) : nk_Sim G l own cc nL ret fr lo ini en pc lv (.inr x :: st) h f :=
  nk_pure (fun p e R s m args below meth c H locs cells slots Q ls X hR hl kk => by
    cases x with
    | none => exact lv_astoreN X.1 X.2.1 d hl hn (nk_setl hl2) kk
    | some a => exact lv_astore X.1 X.2.1 d hl hn (nk_setl hl2) kk) k
theorem nk_atl {l : List (Nat × nk_V)} {k i : Nat} {t : nk_V} (hk : l[k]? = some (i, t)) : (nk_lv l)[k]? = some (i, nk_v t) := by unfold nk_lv; rw [List.getElem?_map, hk]; rfl
theorem nr_iinc {i : Nat} {n : Int} (j : Nat) {x : Int32} (v : Int32) (d : decode cc pc = .ok (.iinc i n, 3)) (hk : lv[j]? = some (i, .inl x)) (hv : x + Int32.ofInt n = v) (hn : i < nL) (hl2 : (i, .inl v) :: lv.filter (fun q => !(q.1 == i)) = lv2) (k : nk_Sim G l own cc nL ret fr lo ini en (pc + 3) lv2 st h f) : nk_Sim G l own cc nL ret fr lo ini en pc lv st h f :=
  nk_pure (fun p e R s m args below meth c H locs cells slots Q ls X hR hl kk => lv_iinc X.1 X.2.1 d hl (nk_atl hk) hv hn (nk_setl hl2) kk) k
theorem nr_iadd {x y : Int32} (d : decode cc pc = .ok (.iadd, 1))  (k : nk_Sim G l own cc nL ret fr lo ini en (pc + 1) lv (.inl (x + y) :: st) h f) : nk_Sim G l own cc nL ret fr lo ini en pc lv (.inl y :: .inl x :: st) h f :=
  nk_pure (fun p e R s m args below meth c H locs cells slots Q ls X hR hl kk => lv_iadd X.1 X.2.1 d (kk ls hl)) k
theorem nr_isub {x y : Int32} (d : decode cc pc = .ok (.isub, 1))  (k : nk_Sim G l own cc nL ret fr lo ini en (pc + 1) lv (.inl (x - y) :: st) h f) : nk_Sim G l own cc nL ret fr lo ini en pc lv (.inl y :: .inl x :: st) h f :=
  nk_pure (fun p e R s m args below meth c H locs cells slots Q ls X hR hl kk => lv_isub X.1 X.2.1 d (kk ls hl)) k
theorem nr_imul {x y : Int32} (d : decode cc pc = .ok (.imul, 1))  (k : nk_Sim G l own cc nL ret fr lo ini en (pc + 1) lv (.inl (x * y) :: st) h f) : nk_Sim G l own cc nL ret fr lo ini en pc lv (.inl y :: .inl x :: st) h f :=
  nk_pure (fun p e R s m args below meth c H locs cells slots Q ls X hR hl kk => lv_imul X.1 X.2.1 d (kk ls hl)) k
theorem nr_iand {x y : Int32} (d : decode cc pc = .ok (.iand, 1))  (k : nk_Sim G l own cc nL ret fr lo ini en (pc + 1) lv (.inl (x &&& y) :: st) h f) : nk_Sim G l own cc nL ret fr lo ini en pc lv (.inl y :: .inl x :: st) h f :=
  nk_pure (fun p e R s m args below meth c H locs cells slots Q ls X hR hl kk => lv_iand X.1 X.2.1 d (kk ls hl)) k
theorem nr_ior {x y : Int32} (d : decode cc pc = .ok (.ior, 1))  (k : nk_Sim G l own cc nL ret fr lo ini en (pc + 1) lv (.inl (x ||| y) :: st) h f) : nk_Sim G l own cc nL ret fr lo ini en pc lv (.inl y :: .inl x :: st) h f :=
  nk_pure (fun p e R s m args below meth c H locs cells slots Q ls X hR hl kk => lv_ior X.1 X.2.1 d (kk ls hl)) k
theorem nr_ixor {x y : Int32} (d : decode cc pc = .ok (.ixor, 1))  (k : nk_Sim G l own cc nL ret fr lo ini en (pc + 1) lv (.inl (x ^^^ y) :: st) h f) : nk_Sim G l own cc nL ret fr lo ini en pc lv (.inl y :: .inl x :: st) h f :=
  nk_pure (fun p e R s m args below meth c H locs cells slots Q ls X hR hl kk => lv_ixor X.1 X.2.1 d (kk ls hl)) k
theorem nr_ishl {x y : Int32} (d : decode cc pc = .ok (.ishl, 1))  (k : nk_Sim G l own cc nL ret fr lo ini en (pc + 1) lv (.inl (x <<< (y &&& 31)) :: st) h f) : nk_Sim G l own cc nL ret fr lo ini en pc lv (.inl y :: .inl x :: st) h f :=
  nk_pure (fun p e R s m args below meth c H locs cells slots Q ls X hR hl kk => lv_ishl X.1 X.2.1 d (kk ls hl)) k
theorem nr_ishr {x y : Int32} (d : decode cc pc = .ok (.ishr, 1))  (k : nk_Sim G l own cc nL ret fr lo ini en (pc + 1) lv (.inl (x >>> (y &&& 31)) :: st) h f) : nk_Sim G l own cc nL ret fr lo ini en pc lv (.inl y :: .inl x :: st) h f :=
  nk_pure (fun p e R s m args below meth c H locs cells slots Q ls X hR hl kk => lv_ishr X.1 X.2.1 d (kk ls hl)) k
theorem nr_iushr {x y : Int32} (d : decode cc pc = .ok (.iushr, 1))  (k : nk_Sim G l own cc nL ret fr lo ini en (pc + 1) lv (.inl ((x.toUInt32 >>> (y.toUInt32 &&& Int32.toUInt32 31)).toInt32) :: st) h f) : nk_Sim G l own cc nL ret fr lo ini en pc lv (.inl y :: .inl x :: st) h f :=
  nk_pure (fun p e R s m args below meth c H locs cells slots Q ls X hR hl kk => lv_iushr X.1 X.2.1 d rfl (kk ls hl)) k
theorem nr_idiv {x y : Int32} (d : decode cc pc = .ok (.idiv, 1)) (hy : ¬ y = 0) (k : nk_Sim G l own cc nL ret fr lo ini en (pc + 1) lv (.inl (x / y) :: st) h f) : nk_Sim G l own cc nL ret fr lo ini en pc lv (.inl y :: .inl x :: st) h f :=
  nk_pure (fun p e R s m args below meth c H locs cells slots Q ls X hR hl kk => lv_idiv X.1 X.2.1 d hy (kk ls hl)) k
theorem nr_irem {x y : Int32} (d : decode cc pc = .ok (.irem, 1)) (hy : ¬ y = 0) (k : nk_Sim G l own cc nL ret fr lo ini en (pc + 1) lv (.inl (x - x / y * y) :: st) h f) : nk_Sim G l own cc nL ret fr lo ini en pc lv (.inl y :: .inl x :: st) h f :=
  nk_pure (fun p e R s m args below meth c H locs cells slots Q ls X hR hl kk => lv_irem X.1 X.2.1 d hy (kk ls hl)) k
theorem nr_dup {t : nk_V} (d : decode cc pc = .ok (.dup, 1))  (k : nk_Sim G l own cc nL ret fr lo ini en (pc + 1) lv (t :: t :: st) h f) : nk_Sim G l own cc nL ret fr lo ini en pc lv (t :: st) h f :=
  nk_pure (fun p e R s m args below meth c H locs cells slots Q ls X hR hl kk => lv_dup X.1 X.2.1 d (nk_vc t) (kk ls hl)) k
theorem nr_pop {t : nk_V} (d : decode cc pc = .ok (.pop, 1))  (k : nk_Sim G l own cc nL ret fr lo ini en (pc + 1) lv st h f) : nk_Sim G l own cc nL ret fr lo ini en pc lv (t :: st) h f :=
  nk_pure (fun p e R s m args below meth c H locs cells slots Q ls X hR hl kk => lv_pop X.1 X.2.1 d (nk_vc t) (kk ls hl)) k
theorem nr_dup_x1 {t u : nk_V} (d : decode cc pc = .ok (.dup_x1, 1))  (k : nk_Sim G l own cc nL ret fr lo ini en (pc + 1) lv (t :: u :: t :: st) h f) : nk_Sim G l own cc nL ret fr lo ini en pc lv (t :: u :: st) h f :=
  nk_pure (fun p e R s m args below meth c H locs cells slots Q ls X hR hl kk => lv_dup_x1 X.1 X.2.1 d (nk_vc t) (nk_vc u) (kk ls hl)) k
theorem nr_dup2 {t u : nk_V} (d : decode cc pc = .ok (.dup2, 1))  (k : nk_Sim G l own cc nL ret fr lo ini en (pc + 1) lv (t :: u :: t :: u :: st) h f) : nk_Sim G l own cc nL ret fr lo ini en pc lv (t :: u :: st) h f :=
  nk_pure (fun p e R s m args below meth c H locs cells slots Q ls X hR hl kk => lv_dup2_11 X.1 X.2.1 d (nk_vc t) (nk_vc u) (kk ls hl)) k
theorem nr_goto {off : Int} {tgt : Nat} (d : decode cc pc = .ok (.goto off, 3)) (ht : (pc : Int) + off = (tgt : Int)) (k : nk_Sim G l own cc nL ret fr lo ini en tgt lv st h f) : nk_Sim G l own cc nL ret fr lo ini en pc lv st h f :=
  nk_pure (fun p e R s m args below meth c H locs cells slots Q ls X hR hl kk => lv_goto X.1 X.2.1 d ht (kk ls hl)) k
/-- two ways on -/
theorem nk_ite {pa pb : Nat} {st2 : List nk_V} (P : Prop) [Decidable P] (step : ∀ (p : Program) (e : Env) (R : Room) (s : State) (m : MethodId) (args : Array Value) (below : List Frame) (meth : Method) (c : Code) (H : Heap) (locs : List Loc) (cells slots : Nat) (Q : State → Prop) (ls : Array Slot), nk_X G l own cc nL ret fr lo ini p R s m meth c →
      (P → W p l e R s m args below meth c H locs cells slots Q (F0 m pa ls (nk_vs st2))) → (¬ P → W p l e R s m args below meth c H locs cells slots Q (F0 m pb ls (nk_vs st2))) → W p l e R s m args below meth c H locs cells slots Q (F0 m pc ls (nk_vs st)))
    (ka : P → nk_Sim G l own cc nL ret fr lo ini en pa lv st2 h fA) (kb : ¬ P → nk_Sim G l own cc nL ret fr lo ini en pb lv st2 h fB) : nk_Sim G l own cc nL ret fr lo ini en pc lv st h (if P then fA else fB) := by
  intro h' r hf
  by_cases hP : P
  · rw [if_pos hP] at hf
    obtain ⟨k1, k2, k3⟩ := ka hP h' r hf
    refine ⟨k1, k2, fun p e R s m args below meth c X sb b1 b2 b3 b4 H ls locs hR hl hq => ?_⟩
    exact step p e R s m args below meth c H locs _ _ _ ls X (fun _ => k3 p e R s m args below meth c X sb b1 b2 b3 b4 H ls locs hR hl hq) (fun n => absurd hP n)
  · rw [if_neg hP] at hf
    obtain ⟨k1, k2, k3⟩ := kb hP h' r hf
    refine ⟨k1, k2, fun p e R s m args below meth c X sb b1 b2 b3 b4 H ls locs hR hl hq => ?_⟩
    exact step p e R s m args below meth c H locs _ _ _ ls X (fun y => absurd y hP) (fun _ => k3 p e R s m args below meth c X sb b1 b2 b3 b4 H ls locs hR hl hq)
theorem nr_if_eq {x : Int32} {off : Int} {tgt : Nat} (d : decode cc pc = .ok (.ifCond .eq off, 3)) (ht : (pc : Int) + off = (tgt : Int)) (ka : x = 0 → nk_Sim G l own cc nL ret fr lo ini en tgt lv st h fA) (kb : ¬ x = 0 → nk_Sim G l own cc nL ret fr lo ini en (pc + 3) lv st h fB) : nk_Sim G l own cc nL ret fr lo ini en pc lv (.inl x :: st) h (if x = 0 then fA else fB) :=
  nk_ite (x = 0) (fun p e R s m args below meth c H locs cells slots Q ls X ta tb => lv_if_eq X.1 X.2.1 d ht ta tb) ka kb
theorem nr_if_lt {x : Int32} {off : Int} {tgt : Nat} (d : decode cc pc = .ok (.ifCond .lt off, 3)) (ht : (pc : Int) + off = (tgt : Int)) (ka : x < 0 → nk_Sim G l own cc nL ret fr lo ini en tgt lv st h fA) (kb : ¬ x < 0 → nk_Sim G l own cc nL ret fr lo ini en (pc + 3) lv st h fB) : nk_Sim G l own cc nL ret fr lo ini en pc lv (.inl x :: st) h (if x < 0 then fA else fB) :=
  nk_ite (x < 0) (fun p e R s m args below meth c H locs cells slots Q ls X ta tb => lv_if_lt X.1 X.2.1 d ht ta tb) ka kb
theorem nr_if_ge {x : Int32} {off : Int} {tgt : Nat} (d : decode cc pc = .ok (.ifCond .ge off, 3)) (ht : (pc : Int) + off = (tgt : Int)) (ka : 0 ≤ x → nk_Sim G l own cc nL ret fr lo ini en tgt lv st h fA) (kb : ¬ 0 ≤ x → nk_Sim G l own cc nL ret fr lo ini en (pc + 3) lv st h fB) : nk_Sim G l own cc nL ret fr lo ini en pc lv (.inl x :: st) h (if 0 ≤ x then fA else fB) :=
  nk_ite (0 ≤ x) (fun p e R s m args below meth c H locs cells slots Q ls X ta tb => lv_if_ge X.1 X.2.1 d ht ta tb) ka kb
theorem nr_if_gt {x : Int32} {off : Int} {tgt : Nat} (d : decode cc pc = .ok (.ifCond .gt off, 3)) (ht : (pc : Int) + off = (tgt : Int)) (ka : 0 < x → nk_Sim G l own cc nL ret fr lo ini en tgt lv st h fA) (kb : ¬ 0 < x → nk_Sim G l own cc nL ret fr lo ini en (pc + 3) lv st h fB) : nk_Sim G l own cc nL ret fr lo ini en pc lv (.inl x :: st) h (if 0 < x then fA else fB) :=
  nk_ite (0 < x) (fun p e R s m args below meth c H locs cells slots Q ls X ta tb => lv_if_gt X.1 X.2.1 d ht ta tb) ka kb
theorem nr_if_le {x : Int32} {off : Int} {tgt : Nat} (d : decode cc pc = .ok (.ifCond .le off, 3)) (ht : (pc : Int) + off = (tgt : Int)) (ka : x ≤ 0 → nk_Sim G l own cc nL ret fr lo ini en tgt lv st h fA) (kb : ¬ x ≤ 0 → nk_Sim G l own cc nL ret fr lo ini en (pc + 3) lv st h fB) : nk_Sim G l own cc nL ret fr lo ini en pc lv (.inl x :: st) h (if x ≤ 0 then fA else fB) :=
  nk_ite (x ≤ 0) (fun p e R s m args below meth c H locs cells slots Q ls X ta tb => lv_if_le X.1 X.2.1 d ht ta tb) ka kb
theorem nr_icmp_eq {x y : Int32} {off : Int} {tgt : Nat} (d : decode cc pc = .ok (.if_icmp .eq off, 3)) (ht : (pc : Int) + off = (tgt : Int)) (ka : x = y → nk_Sim G l own cc nL ret fr lo ini en tgt lv st h fA) (kb : ¬ x = y → nk_Sim G l own cc nL ret fr lo ini en (pc + 3) lv st h fB) : nk_Sim G l own cc nL ret fr lo ini en pc lv (.inl y :: .inl x :: st) h (if x = y then fA else fB) :=
  nk_ite (x = y) (fun p e R s m args below meth c H locs cells slots Q ls X ta tb => lv_icmp_eq X.1 X.2.1 d ht ta tb) ka kb
theorem nr_icmp_lt {x y : Int32} {off : Int} {tgt : Nat} (d : decode cc pc = .ok (.if_icmp .lt off, 3)) (ht : (pc : Int) + off = (tgt : Int)) (ka : x < y → nk_Sim G l own cc nL ret fr lo ini en tgt lv st h fA) (kb : ¬ x < y → nk_Sim G l own cc nL ret fr lo ini en (pc + 3) lv st h fB) : nk_Sim G l own cc nL ret fr lo ini en pc lv (.inl y :: .inl x :: st) h (if x < y then fA else fB) :=
  nk_ite (x < y) (fun p e R s m args below meth c H locs cells slots Q ls X ta tb => lv_icmp_lt X.1 X.2.1 d ht ta tb) ka kb
theorem nr_icmp_ge {x y : Int32} {off : Int} {tgt : Nat} (d : decode cc pc = .ok (.if_icmp .ge off, 3)) (ht : (pc : Int) + off = (tgt : Int)) (ka : y ≤ x → nk_Sim G l own cc nL ret fr lo ini en tgt lv st h fA) (kb : ¬ y ≤ x → nk_Sim G l own cc nL ret fr lo ini en (pc + 3) lv st h fB) : nk_Sim G l own cc nL ret fr lo ini en pc lv (.inl y :: .inl x :: st) h (if y ≤ x then fA else fB) :=
  nk_ite (y ≤ x) (fun p e R s m args below meth c H locs cells slots Q ls X ta tb => lv_icmp_ge X.1 X.2.1 d ht ta tb) ka kb
theorem nr_icmp_gt {x y : Int32} {off : Int} {tgt : Nat} (d : decode cc pc = .ok (.if_icmp .gt off, 3)) (ht : (pc : Int) + off = (tgt : Int)) (ka : y < x → nk_Sim G l own cc nL ret fr lo ini en tgt lv st h fA) (kb : ¬ y < x → nk_Sim G l own cc nL ret fr lo ini en (pc + 3) lv st h fB) : nk_Sim G l own cc nL ret fr lo ini en pc lv (.inl y :: .inl x :: st) h (if y < x then fA else fB) :=
  nk_ite (y < x) (fun p e R s m args below meth c H locs cells slots Q ls X ta tb => lv_icmp_gt X.1 X.2.1 d ht ta tb) ka kb
theorem nr_icmp_le {x y : Int32} {off : Int} {tgt : Nat} (d : decode cc pc = .ok (.if_icmp .le off, 3)) (ht : (pc : Int) + off = (tgt : Int)) (ka : x ≤ y → nk_Sim G l own cc nL ret fr lo ini en tgt lv st h fA) (kb : ¬ x ≤ y → nk_Sim G l own cc nL ret fr lo ini en (pc + 3) lv st h fB) : nk_Sim G l own cc nL ret fr lo ini en pc lv (.inl y :: .inl x :: st) h (if x ≤ y then fA else fB) :=
  nk_ite (x ≤ y) (fun p e R s m args below meth c H locs cells slots Q ls X ta tb => lv_icmp_le X.1 X.2.1 d ht ta tb) ka kb
theorem nr_if_ne {x : Int32} {off : Int} {tgt : Nat} (d : decode cc pc = .ok (.ifCond .ne off, 3)) (ht : (pc : Int) + off = (tgt : Int)) (ka : x = 0 → nk_Sim G l own cc nL ret fr lo ini en (pc + 3) lv st h fA) (kb : ¬ x = 0 → nk_Sim G l own cc nL ret fr lo ini en tgt lv st h fB) : nk_Sim G l own cc nL ret fr lo ini en pc lv (.inl x :: st) h (if x = 0 then fA else fB) :=
  nk_ite (x = 0) (fun p e R s m args below meth c H locs cells slots Q ls X ta tb => lv_if_ne X.1 X.2.1 d ht tb ta) ka kb
theorem nr_icmp_ne {x y : Int32} {off : Int} {tgt : Nat} (d : decode cc pc = .ok (.if_icmp .ne off, 3)) (ht : (pc : Int) + off = (tgt : Int)) (ka : x = y → nk_Sim G l own cc nL ret fr lo ini en (pc + 3) lv st h fA) (kb : ¬ x = y → nk_Sim G l own cc nL ret fr lo ini en tgt lv st h fB) : nk_Sim G l own cc nL ret fr lo ini en pc lv (.inl y :: .inl x :: st) h (if x = y then fA else fB) :=
  nk_ite (x = y) (fun p e R s m args below meth c H locs cells slots Q ls X ta tb => lv_icmp_ne X.1 X.2.1 d ht tb ta) ka kb
theorem nr_acmp_ne {x y : Option Nat} {off : Int} {tgt : Nat} (d : decode cc pc = .ok (.if_acmp .ne off, 3)) (ht : (pc : Int) + off = (tgt : Int)) (ka : x = y → nk_Sim G l own cc nL ret fr lo ini en (pc + 3) lv st h fA) (kb : ¬ x = y → nk_Sim G l own cc nL ret fr lo ini en tgt lv st h fB) : nk_Sim G l own cc nL ret fr lo ini en pc lv (.inr y :: .inr x :: st) h (if x = y then fA else fB) :=
  nk_ite (x = y) (fun p e R s m args below meth c H locs cells slots Q ls X ta tb => lv_acmp_ne X.1 X.2.1 d ht tb ta) ka kb
theorem nr_acmp_eq {x y : Option Nat} {off : Int} {tgt : Nat} (d : decode cc pc = .ok (.if_acmp .eq off, 3)) (ht : (pc : Int) + off = (tgt : Int)) (ka : x = y → nk_Sim G l own cc nL ret fr lo ini en tgt lv st h fA) (kb : ¬ x = y → nk_Sim G l own cc nL ret fr lo ini en (pc + 3) lv st h fB) : nk_Sim G l own cc nL ret fr lo ini en pc lv (.inr y :: .inr x :: st) h (if x = y then fA else fB) :=
  nk_ite (x = y) (fun p e R s m args below meth c H locs cells slots Q ls X ta tb => lv_acmp_eq X.1 X.2.1 d ht ta tb) ka kb
theorem nr_ifnull {x : Option Nat} {off : Int} {tgt : Nat} (d : decode cc pc = .ok (.ifnull off, 3)) (ht : (pc : Int) + off = (tgt : Int)) (ka : x = none → nk_Sim G l own cc nL ret fr lo ini en tgt lv st h fA) (kb : ¬ x = none → nk_Sim G l own cc nL ret fr lo ini en (pc + 3) lv st h fB) : nk_Sim G l own cc nL ret fr lo ini en pc lv (.inr x :: st) h (if x = none then fA else fB) :=
  nk_ite (x = none) (fun p e R s m args below meth c H locs cells slots Q ls X ta tb => by
    cases x with
    | none => exact lv_ifnullN X.1 X.2.1 d ht (ta rfl)
    | some a => exact lv_ifnull X.1 X.2.1 d (tb (fun z => nomatch z))) ka kb
theorem nr_ifnonnull {x : Option Nat} {off : Int} {tgt : Nat} (d : decode cc pc = .ok (.ifnonnull off, 3)) (ht : (pc : Int) + off = (tgt : Int)) (ka : x = none → nk_Sim G l own cc nL ret fr lo ini en (pc + 3) lv st h fA) (kb : ¬ x = none → nk_Sim G l own cc nL ret fr lo ini en tgt lv st h fB) : nk_Sim G l own cc nL ret fr lo ini en pc lv (.inr x :: st) h (if x = none then fA else fB) :=
  nk_ite (x = none) (fun p e R s m args below meth c H locs cells slots Q ls X ta tb => by
    cases x with
    | none => exact lv_ifnonnullN X.1 X.2.1 d (ta rfl)
    | some a => exact lv_ifnonnull X.1 X.2.1 d ht (tb (fun z => nomatch z))) ka kb
end NKR
end
section
/-! ===== rows that read and write objects and arrays ===== -/
/-- the classes' own facts: their layout's words, types, names, first values -/
def nk_ClsP (ci : Nat) (q : vw_C) : Prop := (∀ w ∈ u_ws q.1 q.2.1 q.2.2, w ∈ nk_T) ∧ (∃ ty : Nat → FieldType, (∀ k, k < q.2.2 → parseFieldDescriptor (q.2.1 k).2.2.1 = some (ty k)) ∧ ∀ k, k < q.2.2 → defaultValue (ty k) = if nk_rf ci k = true then va_rf none else .int 0) ∧ (∀ a, a < q.2.2 → ∀ b, b < q.2.2 → a ≠ b → (q.2.1 a).2.1 ≠ (q.2.1 b).2.1)
theorem nk_cls (ci : Nat) (q : vw_C) (h : nk_cl[ci]? = some q) : nk_ClsP ci q := by
  match ci, h with
  | 0, h => cases h; exact ⟨nk_ins [101, 97, 99] (by decide +kernel) (by decide +kernel), ⟨tyJx4a65c, tyJx4a65c_ok, by decide +kernel⟩, nmJx4a65c⟩
  | 1, h => cases h; exact ⟨nk_ins [834, 835, 836, 837, 838, 839, 824, 826, 828, 830, 832] (by decide +kernel) (by decide +kernel), ⟨tyX0, tyX0_ok, by decide +kernel⟩, nmX0⟩
  | 2, h => cases h; exact ⟨nk_ins [125, 127] (by decide +kernel) (by decide +kernel), ⟨tyX1, tyX1_ok, by decide +kernel⟩, nmX1⟩
  | 3, h => cases h; exact ⟨nk_ins [928, 930, 932, 934, 936, 938, 940] (by decide +kernel) (by decide +kernel), ⟨tyX2, tyX2_ok, by decide +kernel⟩, nmX2⟩
  | 4, h => cases h; exact ⟨nk_ins [753, 755, 757, 759, 761, 763] (by decide +kernel) (by decide +kernel), ⟨tyX3, tyX3_ok, by decide +kernel⟩, nmX3⟩
  | 5, h => cases h; exact ⟨nk_ins [715, 716, 717, 718, 719, 720, 709, 711, 713] (by decide +kernel) (by decide +kernel), ⟨tyX4, tyX4_ok, by decide +kernel⟩, nmX4⟩
  | 6, h => cases h; exact ⟨nk_ins [147, 149, 151, 153, 155] (by decide +kernel) (by decide +kernel), ⟨tyX5, tyX5_ok, by decide +kernel⟩, nmX5⟩
  | 7, h => cases h; exact ⟨nk_ins [66, 68] (by decide +kernel) (by decide +kernel), ⟨tyX6, tyX6_ok, by decide +kernel⟩, nmX6⟩
  | 8, h => cases h; exact ⟨nk_ins [106, 108] (by decide +kernel) (by decide +kernel), ⟨tyX7, tyX7_ok, by decide +kernel⟩, nmX7⟩
  | 9, h => cases h; exact ⟨nk_ins [519, 521, 523, 525, 527, 529, 501, 503, 505, 507, 509, 511, 513, 515, 517] (by decide +kernel) (by decide +kernel), ⟨tyX9, tyX9_ok, by decide +kernel⟩, nmX9⟩
  | 10, h => cases h; exact ⟨nk_ins [670, 671, 672, 673, 674, 675, 668] (by decide +kernel) (by decide +kernel), ⟨tyX10, tyX10_ok, by decide +kernel⟩, nmX10⟩
  | 11, h => cases h; exact ⟨nk_ins [167, 169, 171, 173, 175, 177, 179, 181, 183] (by decide +kernel) (by decide +kernel), ⟨tyX11, tyX11_ok, by decide +kernel⟩, nmX11⟩
  | 12, h => cases h; exact ⟨nk_ins [167, 169, 171, 173, 175, 177, 179, 181, 183] (by decide +kernel) (by decide +kernel), ⟨tyX11, tyX11_ok, by decide +kernel⟩, nmX11⟩
  | n + 13, h => simp [nk_cl] at h
/-- a place of a class file's pool links the field k of the class ci -/
def nk_Fl (own : String) (i ci k : Nat) : Prop := ∃ (q : vw_C) (rf : String), nk_cl[ci]? = some q ∧ k < q.2.2 ∧ Cond.fieldLink own i rf (q.2.1 k).2.1 (q.2.1 k).2.2.1 ∈ nk_T ∧ (rf = (q.2.1 k).1 ∨ Cond.sameField rf (q.2.1 k).1 (q.2.1 k).2.1 (q.2.1 k).2.2.1 ∈ nk_T)
def nk_Fk (own : String) (i k : Nat) (b : Bool) : List Nat → Prop
  | [] => True
  | c :: t => (∃ ci : Nat, c = ci + 7 ∧ nk_Fl own i ci k ∧ nk_rf ci k = b) ∧ nk_Fk own i k b t
theorem nk_Fk.get {own : String} {i k : Nat} {b : Bool} {ks : List Nat} (h : nk_Fk own i k b ks) {c : Nat} (hc : c ∈ ks) : ∃ ci : Nat, c = ci + 7 ∧ nk_Fl own i ci k ∧ nk_rf ci k = b := by
  induction ks with
  | nil => cases hc
  | cons d t ih =>
    rcases List.mem_cons.mp hc with rfl | hc
    · exact h.1
    · exact ih h.2 hc
/-- a field that is written: an int's or a reference's, not final, or final in its own constructor -/
def nk_Fw (own : String) (ini : Bool) (k : Nat) : List Nat → Prop
  | [] => True
  | c :: t => (∀ (ci : Nat) (q : vw_C), c = ci + 7 → nk_cl[ci]? = some q → ((q.2.1 k).2.2.2 = false ∨ ((q.2.1 k).2.2.2 = true ∧ ini = true ∧ (q.2.1 k).1 = own)) ∧
      ((parseFieldDescriptor (q.2.1 k).2.2.1 = some .int ∧ nk_rf ci k = false) ∨ (nk_rf ci k = true ∧ ((∃ n, parseFieldDescriptor (q.2.1 k).2.2.1 = some (.object n)) ∨ ∃ t, parseFieldDescriptor (q.2.1 k).2.2.1 = some (.array t))))) ∧ nk_Fw own ini k t
theorem nk_Fw.get {own : String} {ini : Bool} {k : Nat} {ks : List Nat} (h : nk_Fw own ini k ks) {c : Nat} (hc : c ∈ ks) : ∀ (ci : Nat) (q : vw_C), c = ci + 7 → nk_cl[ci]? = some q → ((q.2.1 k).2.2.2 = false ∨ ((q.2.1 k).2.2.2 = true ∧ ini = true ∧ (q.2.1 k).1 = own)) ∧
      ((parseFieldDescriptor (q.2.1 k).2.2.1 = some .int ∧ nk_rf ci k = false) ∨ (nk_rf ci k = true ∧ ((∃ n, parseFieldDescriptor (q.2.1 k).2.2.1 = some (.object n)) ∨ ∃ t, parseFieldDescriptor (q.2.1 k).2.2.1 = some (.array t)))) := by
  induction ks with
  | nil => cases hc
  | cons d t ih =>
    rcases List.mem_cons.mp hc with rfl | hc
    · exact h.1
    · exact ih h.2 hc
/-- the parts of the functions that may have no answer -/
def nk_gI (ks : List Nat) (k : Nat) (h : nk_H) (p : Option Nat) : Option Int32 := p.bind fun a => if nk_K h a ∈ ks then some (nk_I h a k) else none
def nk_gP (ks : List Nat) (k : Nat) (h : nk_H) (p : Option Nat) : Option (Option Nat) := p.bind fun a => if nk_K h a ∈ ks then some (nk_P h a k) else none
def nk_pI (ks : List Nat) (k : Nat) (h : nk_H) (p : Option Nat) (v : Int32) : Option nk_H := p.bind fun a => if nk_K h a ∈ ks then some (nk_sI h a k v) else none
def nk_pP (ks : List Nat) (k : Nat) (h : nk_H) (p : Option Nat) (v : Option Nat) : Option nk_H := p.bind fun a => if nk_K h a ∈ ks then some (nk_sP h a k v) else none
def nk_aI (c : Nat) (h : nk_H) (p : Option Nat) (i : Int32) : Option Int32 := p.bind fun a => if nk_K h a = c ∧ ¬ i < 0 ∧ i.toNatClampNeg < nk_L h a then some (nk_I h a i.toNatClampNeg) else none
def nk_aP (c : Nat) (h : nk_H) (p : Option Nat) (i : Int32) : Option (Option Nat) := p.bind fun a => if nk_K h a = c ∧ ¬ i < 0 ∧ i.toNatClampNeg < nk_L h a then some (nk_P h a i.toNatClampNeg) else none
def nk_wI (h : nk_H) (p : Option Nat) (i v : Int32) : Option nk_H := p.bind fun a => if nk_K h a = 1 ∧ ¬ i < 0 ∧ i.toNatClampNeg < nk_L h a then some (nk_sI h a i.toNatClampNeg v) else none
def nk_wZ (h : nk_H) (p : Option Nat) (i v : Int32) : Option nk_H := p.bind fun a => if nk_K h a = 2 ∧ ¬ i < 0 ∧ i.toNatClampNeg < nk_L h a then some (nk_sI h a i.toNatClampNeg (vp_nar .boolean v)) else none
def nk_len (h : nk_H) (p : Option Nat) : Option Int32 := p.bind fun a => if 1 ≤ nk_K h a ∧ nk_K h a ≤ 6 then some (Int32.ofNat (nk_L h a)) else if nk_K h a = 20 then some 0 else none
def nk_na (c : Nat) (h : nk_H) (n : Int32) : Option nk_H := if ¬ n < 0 ∧ n.toNatClampNeg ≤ 65536 then some (nk_al h c n.toNatClampNeg n.toNatClampNeg) else none
section NKO
variable {p : Program} {l : Launch} {e : Env} {R : Room} {s : State} {m : MethodId} {args : Array Value} {below : List Frame} {meth : Method} {c : Code} {H : Heap} {locs : List Loc} {cells slots : Nat} {Q : State → Prop} {cc : ByteArray} {pc : Nat} {ls : Array Slot} {rest : List Value} {G : nk_G} {h : nk_H} {own : String} {a : Nat}
theorem nk_wget (hx : p.tables.exec = Jvm.exec) (hb : c.code = cc) (hown : s.vm.findClass own = some m.cls) (hKn : nk_Kn G s) (hR : nk_R G h H) {i ci k : Nat} (hk : nk_K h a = ci + 7) (hF : nk_Fl own i ci k) (d : decode cc pc = .ok (.getfield i, 3))
    (kk : W p l e R s m args below meth c H locs cells slots Q (F0 m (pc + 3) ls (nk_fv h ci a k :: rest))) : W p l e R s m args below meth c H locs cells slots Q (F0 m pc ls (.ref a :: rest)) := by
  obtain ⟨q, rf, hq, hlt, hlink, hsame⟩ := hF
  obtain ⟨cell, q1, q2, q3, q4⟩ := (hR.2.2.2.2.1 a ci q hk hq).2.2
  obtain ⟨hS, hfc, kC, hkC, hkind⟩ := hKn.2.1.1 ci q hq
  obtain ⟨cf, kf, fi, f, hi, hsl⟩ := hS k hlt
  have hin := (nk_cls ci q hq).1
  have hts : ∀ w ∈ nk_T, w.before args s = true := fun w hw => hKn.use hw args
  have hi2 : s.fieldFound? rf (q.2.1 k).2.1 (q.2.1 k).2.2.1 = some (cf, kf, fi, f) := by
    rcases hsame with h1 | h1
    · rw [h1]; exact hi
    · exact u_same (hts _ h1) _ hi
  refine W.getf hx hb hown (hts _ hlink) hi2 (u_facts hfc hkC (u_lays hts hin hlt) hi).1 q1 (by rw [q3]; exact fun h => by cases h) (v := nk_fv h ci a k) ?_ rfl rfl d kk
  rw [hsl]
  exact q4 k hlt
theorem nk_wput (hx : p.tables.exec = Jvm.exec) (hb : c.code = cc) (hown : s.vm.findClass own = some m.cls) (hKn : nk_Kn G s) (hR : nk_R G h H) {i ci k : Nat} {ini : Bool} (hini : ini = true → meth.name = "<init>") {v : Value} (hk : nk_K h a = ci + 7) (hF : nk_Fl own i ci k)
    (hW : ∀ q : vw_C, nk_cl[ci]? = some q → ((q.2.1 k).2.2.2 = false ∨ ((q.2.1 k).2.2.2 = true ∧ ini = true ∧ (q.2.1 k).1 = own)) ∧ ∃ ty : FieldType, parseFieldDescriptor (q.2.1 k).2.2.1 = some ty ∧ narrow ty v = v ∧ fits ty v = true) (d : decode cc pc = .ok (.putfield i, 3))
    (kk : ∀ (H1 : Heap) (i9 : Nat) (q : vw_C), nk_cl[ci]? = some q → H1.size = H.size → (∀ x : Nat, x ≠ a → H1[x]? = H[x]?) → t_OB a ((nk_gD G).1 ci) q.2.2 ((nk_gD G).2 ci) H1 (updV (nk_fv h ci a) k v) → W p l e R s m args below meth c H1 (locs ++ [⟨a, i9⟩]) cells slots Q (F0 m (pc + 3) ls rest)) : W p l e R s m args below meth c H locs cells slots Q (F0 m pc ls (v :: .ref a :: rest)) := by
  obtain ⟨q, rf, hq, hlt, hlink, hsame⟩ := hF
  obtain ⟨cell, q1, q2, q3, q4⟩ := (hR.2.2.2.2.1 a ci q hk hq).2.2
  obtain ⟨hS, hfc, kC, hkC, hkind⟩ := hKn.2.1.1 ci q hq
  obtain ⟨cf, kf, fi, f, hi, hsl⟩ := hS k hlt
  obtain ⟨hin, ⟨ty0, hty0, -⟩, hnm⟩ := nk_cls ci q hq
  obtain ⟨hfin, ty, hd, hn, hfit⟩ := hW q hq
  have hts : ∀ w ∈ nk_T, w.before args s = true := fun w hw => hKn.use hw args
  have hi2 : s.fieldFound? rf (q.2.1 k).2.1 (q.2.1 k).2.2.1 = some (cf, kf, fi, f) := by
    rcases hsame with h1 | h1
    · rw [h1]; exact hi
    · exact u_same (hts _ h1) _ hi
  have hap := va_apart (own := own) hts hin ty0 hty0 hnm hKn.2.1 hq
  have hst := (u_facts hfc hkC (u_lays hts hin hlt) hi).1
  have hlay := hts _ (hin _ (u_in_lay hlt))
  unfold u_lay at hlay
  rcases hfin with hfin | ⟨hfin, hin2, hdecl⟩
  · rw [if_neg (by rw [hfin]; decide)] at hlay
    have h6 := u_store hfc hkC hkind hlay hi hd hn hfit
    refine W.putK hx hb (f := f) ⟨hown, hts _ hlink, ⟨_, _, _, hi2⟩, hst⟩ (by rw [q2]; exact h6) q1 q3 (by rw [hsl]; exact k2_hasslot (q4 k hlt)) rfl rfl d fun H' e1 e2 e3 => ?_
    rw [hsl] at e1 ⊢
    exact kk H' _ q hq e2 e3 ⟨_, e1, q2, q3, t_set q4 hap hlt v⟩
  · rw [if_pos hfin] at hlay
    have hcf : m.cls = cf := by
      obtain ⟨_, _, c', _, _, _, -, -, hf', -, -, -, hown2, -⟩ := Cond.laysFinal_spec hlay
      have e1 : c' = cf := by have := hi.symm.trans hf'; simp at this; exact this.1.symm
      rw [hdecl] at hown2
      rw [← e1]; exact Option.some.inj (hown.symm.trans hown2)
    have h6 := u_fits hfc hkC hkind (Or.inr hlay) hi hd hn hfit
    refine W.putFinK hx hb hown (hts _ hlink) hi2 hst hcf (hini hin2) (by rw [q2]; exact h6) q1 q3 (by rw [hsl]; exact k2_hasslot (q4 k hlt)) rfl rfl d fun H' e1 e2 e3 => ?_
    rw [hsl] at e1 ⊢
    exact kk H' _ q hq e2 e3 ⟨_, e1, q2, q3, t_set q4 hap hlt v⟩
end NKO
theorem nk_fr_app {G : nk_G} {locs : List Loc} {a i : Nat} (h : ∀ q ∈ locs, nk_fr G q.base) (ha : nk_fr G a) : ∀ q ∈ locs ++ [⟨a, i⟩], nk_fr G q.base := by
  intro q hq
  rcases List.mem_append.mp hq with h1 | h1
  · exact h q h1
  · rw [List.mem_singleton.mp h1]; exact ha
theorem nk_rf_fits {ty : FieldType} (h : (∃ n, ty = .object n) ∨ ∃ t, ty = .array t) (v : Option Nat) : narrow ty (va_rf v) = va_rf v ∧ fits ty (va_rf v) = true := by
  rcases h with ⟨n, rfl⟩ | ⟨t, rfl⟩ <;> cases v <;> exact ⟨rfl, rfl⟩
section NKR
variable {α : Type} {G : nk_G} {l : Launch} {own : String} {cc : ByteArray} {nL : Nat} {ret : Option FieldType} {fr lo : Nat} {ini : Bool} {en : α → Option Value ⊕ String} {pc : Nat} {lv lv2 : List (Nat × nk_V)} {st : List nk_V} {h : nk_H} {f fA fB : Option (nk_H × α)}
theorem nr_getI {i : Nat} (ks : List Nat) (k : Nat) {x : Option Nat} {F : Int32 → Option (nk_H × α)} (d : decode cc pc = .ok (.getfield i, 3)) (w : nk_Fk own i k false ks) (kk : ∀ v, nk_Sim G l own cc nL ret fr lo ini en (pc + 3) lv (.inl v :: st) h (F v)) : nk_Sim G l own cc nL ret fr lo ini en pc lv (.inr x :: st) h ((nk_gI ks k h x).bind F) := by
  refine nk_bind (fun v hv => nk_pure (fun p e R s m args below meth c H locs cells slots Q ls X hR hl k9 => ?_) (kk v))
  cases x with
  | none => cases hv
  | some a =>
    by_cases hm : nk_K h a ∈ ks
    · have hv2 : nk_I h a k = v := Option.some.inj ((if_pos hm).symm.trans hv)
      obtain ⟨ci, e1, hF, hrf⟩ := w.get hm
      have := nk_wget (args := args) (rest := nk_vs st) (ls := ls) X.1 X.2.1 X.2.2.2.2.2.1 X.2.2.2.2.2.2.1 hR e1 hF d (p := p) (l := l) (e := e) (R := R) (below := below) (meth := meth) (locs := locs) (cells := cells) (slots := slots) (Q := Q)
      refine this ?_
      rw [show nk_fv h ci a k = .int v by unfold nk_fv; rw [if_neg (by rw [hrf]; decide), hv2]]
      exact k9 ls hl
    · exact absurd ((if_neg hm).symm.trans hv) (fun z => nomatch z)
theorem nr_getP {i : Nat} (ks : List Nat) (k : Nat) {x : Option Nat} {F : Option Nat → Option (nk_H × α)} (d : decode cc pc = .ok (.getfield i, 3)) (w : nk_Fk own i k true ks) (kk : ∀ v, nk_Sim G l own cc nL ret fr lo ini en (pc + 3) lv (.inr v :: st) h (F v)) : nk_Sim G l own cc nL ret fr lo ini en pc lv (.inr x :: st) h ((nk_gP ks k h x).bind F) := by
  refine nk_bind (fun v hv => nk_pure (fun p e R s m args below meth c H locs cells slots Q ls X hR hl k9 => ?_) (kk v))
  cases x with
  | none => cases hv
  | some a =>
    by_cases hm : nk_K h a ∈ ks
    · have hv2 : nk_P h a k = v := Option.some.inj ((if_pos hm).symm.trans hv)
      obtain ⟨ci, e1, hF, hrf⟩ := w.get hm
      have := nk_wget (args := args) (rest := nk_vs st) (ls := ls) X.1 X.2.1 X.2.2.2.2.2.1 X.2.2.2.2.2.2.1 hR e1 hF d (p := p) (l := l) (e := e) (R := R) (below := below) (meth := meth) (locs := locs) (cells := cells) (slots := slots) (Q := Q)
      refine this ?_
      rw [show nk_fv h ci a k = va_rf v by unfold nk_fv; rw [if_pos hrf, hv2]]
      exact k9 ls hl
    · exact absurd ((if_neg hm).symm.trans hv) (fun z => nomatch z)
theorem nr_putI {i : Nat} (ks : List Nat) (k : Nat) {x : Option Nat} {v : Int32} {F : nk_H → Option (nk_H × α)} (d : decode cc pc = .ok (.putfield i, 3)) (w : nk_Fk own i k false ks) (w2 : nk_Fw own ini k ks) (kk : ∀ h1, nk_Sim G l own cc nL ret fr lo ini en (pc + 3) lv st h1 (F h1)) : nk_Sim G l own cc nL ret fr lo ini en pc lv (.inl v :: .inr x :: st) h ((nk_pI ks k h x v).bind F) := by
  refine nk_bind (fun h1 hv => ?_)
  cases x with
  | none => cases hv
  | some a =>
    by_cases hm : nk_K h a ∈ ks
    · have hv2 : nk_sI h a k v = h1 := Option.some.inj ((if_pos hm).symm.trans hv)
      subst hv2
      obtain ⟨ci, e1, hF, hrf⟩ := w.get hm
      refine nk_heap (nk_N_sI h a k v) (nk_S_sI h a k v) (fun p e R s m args below meth c H locs cells slots Q ls X hR hl hq k9 => ?_) (kk _)
      refine nk_wput (args := args) (ini := ini) (v := .int v) X.1 X.2.1 X.2.2.2.2.2.1 X.2.2.2.2.2.2.1 hR X.2.2.2.2.2.2.2.2.2.2.2.2 e1 hF (fun q hq9 => ?_) d (fun H1 i9 q hq9 z o hB => ?_)
      · obtain ⟨g1, g2⟩ := w2.get hm ci q e1 hq9
        rcases g2 with ⟨g2, -⟩ | ⟨g2, -⟩
        · exact ⟨g1, .int, g2, rfl, rfl⟩
        · rw [hrf] at g2; cases g2
      · exact k9 H1 _ (nk_R_sI hR e1 hq9 hrf z o hB) (nk_fr_app hq (hR.2.2.2.2.1 a ci q e1 hq9).1)
    · exact absurd ((if_neg hm).symm.trans hv) (fun z => nomatch z)
theorem nr_putP {i : Nat} (ks : List Nat) (k : Nat) {x : Option Nat} {v : Option Nat} {F : nk_H → Option (nk_H × α)} (d : decode cc pc = .ok (.putfield i, 3)) (w : nk_Fk own i k true ks) (w2 : nk_Fw own ini k ks) (kk : ∀ h1, nk_Sim G l own cc nL ret fr lo ini en (pc + 3) lv st h1 (F h1)) : nk_Sim G l own cc nL ret fr lo ini en pc lv (.inr v :: .inr x :: st) h ((nk_pP ks k h x v).bind F) := by
  refine nk_bind (fun h1 hv => ?_)
  cases x with
  | none => cases hv
  | some a =>
    by_cases hm : nk_K h a ∈ ks
    · have hv2 : nk_sP h a k v = h1 := Option.some.inj ((if_pos hm).symm.trans hv)
      subst hv2
      obtain ⟨ci, e1, hF, hrf⟩ := w.get hm
      refine nk_heap (nk_N_sP h a k v) (nk_S_sP h a k v) (fun p e R s m args below meth c H locs cells slots Q ls X hR hl hq k9 => ?_) (kk _)
      refine nk_wput (args := args) (ini := ini) (v := va_rf v) X.1 X.2.1 X.2.2.2.2.2.1 X.2.2.2.2.2.2.1 hR X.2.2.2.2.2.2.2.2.2.2.2.2 e1 hF (fun q hq9 => ?_) d (fun H1 i9 q hq9 z o hB => ?_)
      · obtain ⟨g1, g2⟩ := w2.get hm ci q e1 hq9
        rcases g2 with ⟨-, g2⟩ | ⟨-, ⟨n, g2⟩ | ⟨t, g2⟩⟩
        · rw [hrf] at g2; cases g2
        · exact ⟨g1, _, g2, nk_rf_fits (Or.inl ⟨n, rfl⟩) v⟩
        · exact ⟨g1, _, g2, nk_rf_fits (Or.inr ⟨t, rfl⟩) v⟩
      · exact k9 H1 _ (nk_R_sP hR e1 hq9 hrf z o hB) (nk_fr_app hq (hR.2.2.2.2.1 a ci q e1 hq9).1)
    · exact absurd ((if_neg hm).symm.trans hv) (fun z => nomatch z)
theorem nk_tyAt {s : State} (hKn : nk_Kn G s) (j : Nat) {q : ClassId × FieldType} (hj : (nk_tys G)[j]? = some q) : ArrOfT s q.1 q.2 ∧ va_RA s q.1 q.2 := hKn.2.1.2 j q hj
theorem nr_iaload {x : Option Nat} {i : Int32} {F : Int32 → Option (nk_H × α)} (d : decode cc pc = .ok (.iaload, 1)) (kk : ∀ v, nk_Sim G l own cc nL ret fr lo ini en (pc + 1) lv (.inl v :: st) h (F v)) : nk_Sim G l own cc nL ret fr lo ini en pc lv (.inl i :: .inr x :: st) h ((nk_aI 1 h x i).bind F) := by
  refine nk_bind (fun v hv => nk_pure (fun p e R s m args below meth c H locs cells slots Q ls X hR hl k9 => ?_) (kk v))
  cases x with
  | none => cases hv
  | some a =>
    by_cases hm : nk_K h a = 1 ∧ ¬ i < 0 ∧ i.toNatClampNeg < nk_L h a
    · have hv2 : nk_I h a i.toNatClampNeg = v := Option.some.inj ((if_pos hm).symm.trans hv)
      obtain ⟨hc, h0, hlt⟩ := hm
      have hcell := (hR.2.2.2.1 a (by omega) (by omega)).2.2
      rw [hc] at hcell
      exact W.iald (v := .int v) X.1 X.2.1 hcell ((nk_tyAt X.2.2.2.2.2.2.1 0 rfl).1 _ _) (fun q => by cases q) (by rw [arrV_size]; exact fun q => q.elim h0 (Nat.not_le.mpr hlt)) (by rw [arrV_read _ _ hlt, ← hv2]; rfl) rfl rfl d (k9 ls hl)
    · exact absurd ((if_neg hm).symm.trans hv) (fun z => nomatch z)
theorem nr_baload {x : Option Nat} {i : Int32} {F : Int32 → Option (nk_H × α)} (d : decode cc pc = .ok (.baload, 1)) (kk : ∀ v, nk_Sim G l own cc nL ret fr lo ini en (pc + 1) lv (.inl v :: st) h (F v)) : nk_Sim G l own cc nL ret fr lo ini en pc lv (.inl i :: .inr x :: st) h ((nk_aI 2 h x i).bind F) := by
  refine nk_bind (fun v hv => nk_pure (fun p e R s m args below meth c H locs cells slots Q ls X hR hl k9 => ?_) (kk v))
  cases x with
  | none => cases hv
  | some a =>
    by_cases hm : nk_K h a = 2 ∧ ¬ i < 0 ∧ i.toNatClampNeg < nk_L h a
    · have hv2 : nk_I h a i.toNatClampNeg = v := Option.some.inj ((if_pos hm).symm.trans hv)
      obtain ⟨hc, h0, hlt⟩ := hm
      have hcell := (hR.2.2.2.1 a (by omega) (by omega)).2.2
      rw [hc] at hcell
      exact W.zald (v := .int v) X.1 X.2.1 hcell ((nk_tyAt X.2.2.2.2.2.2.1 1 rfl).1 _ _) (fun q => by cases q) (by rw [arrV_size]; exact fun q => q.elim h0 (Nat.not_le.mpr hlt)) (by rw [arrV_read _ _ hlt, ← hv2]; rfl) rfl rfl d (k9 ls hl)
    · exact absurd ((if_neg hm).symm.trans hv) (fun z => nomatch z)
theorem nr_aaload (j : Nat) {x : Option Nat} {i : Int32} {F : Option Nat → Option (nk_H × α)} (d : decode cc pc = .ok (.aaload, 1)) (hj : j = 3 ∨ j = 4 ∨ j = 5) (kk : ∀ v, nk_Sim G l own cc nL ret fr lo ini en (pc + 1) lv (.inr v :: st) h (F v)) : nk_Sim G l own cc nL ret fr lo ini en pc lv (.inl i :: .inr x :: st) h ((nk_aP j h x i).bind F) := by
  refine nk_bind (fun v hv => nk_pure (fun p e R s m args below meth c H locs cells slots Q ls X hR hl k9 => ?_) (kk v))
  cases x with
  | none => cases hv
  | some a =>
    by_cases hm : nk_K h a = j ∧ ¬ i < 0 ∧ i.toNatClampNeg < nk_L h a
    · have hv2 : nk_P h a i.toNatClampNeg = v := Option.some.inj ((if_pos hm).symm.trans hv)
      obtain ⟨hc, h0, hlt⟩ := hm
      have hcell := (hR.2.2.2.1 a (by omega) (by omega)).2.2
      rw [hc] at hcell
      rcases hj with rfl | rfl | rfl
      · exact W.aald (v := va_rf v) (ty := .object "NotaryKiosk$Chain") X.1 X.2.1 hcell ((nk_tyAt X.2.2.2.2.2.2.1 2 rfl).1 _ _) rfl (fun q => by cases q) (by rw [arrV_size]; exact fun q => q.elim h0 (Nat.not_le.mpr hlt)) (by rw [arrV_read _ _ hlt, ← hv2]; rfl) rfl rfl d (k9 ls hl)
      · exact W.aald (v := va_rf v) (ty := .object "java/lang/Object") X.1 X.2.1 hcell ((nk_tyAt X.2.2.2.2.2.2.1 3 rfl).1 _ _) rfl (fun q => by cases q) (by rw [arrV_size]; exact fun q => q.elim h0 (Nat.not_le.mpr hlt)) (by rw [arrV_read _ _ hlt, ← hv2]; rfl) rfl rfl d (k9 ls hl)
      · exact W.aald (v := va_rf v) (ty := .array .int) X.1 X.2.1 hcell ((nk_tyAt X.2.2.2.2.2.2.1 4 rfl).1 _ _) rfl (fun q => by cases q) (by rw [arrV_size]; exact fun q => q.elim h0 (Nat.not_le.mpr hlt)) (by rw [arrV_read _ _ hlt, ← hv2]; rfl) rfl rfl d (k9 ls hl)
    · exact absurd ((if_neg hm).symm.trans hv) (fun z => nomatch z)
theorem nr_iastore {x : Option Nat} {i v : Int32} {F : nk_H → Option (nk_H × α)} (d : decode cc pc = .ok (.iastore, 1)) (kk : ∀ h1, nk_Sim G l own cc nL ret fr lo ini en (pc + 1) lv st h1 (F h1)) : nk_Sim G l own cc nL ret fr lo ini en pc lv (.inl v :: .inl i :: .inr x :: st) h ((nk_wI h x i v).bind F) := by
  refine nk_bind (fun h1 hv => ?_)
  cases x with
  | none => cases hv
  | some a =>
    by_cases hm : nk_K h a = 1 ∧ ¬ i < 0 ∧ i.toNatClampNeg < nk_L h a
    · have hv2 : nk_sI h a i.toNatClampNeg v = h1 := Option.some.inj ((if_pos hm).symm.trans hv)
      subst hv2
      obtain ⟨hc, h0, hlt⟩ := hm
      refine nk_heap (nk_N_sI h a _ v) (nk_S_sI h a _ v) (fun p e R s m args below meth c H locs cells slots Q ls X hR hl hq k9 => ?_) (kk _)
      have hA := hR.2.2.2.1 a (by omega) (by omega)
      have hcell := hA.2.2
      have hcell2 := hcell
      rw [hc] at hcell2
      refine W.iast X.1 X.2.1 hcell2 ((nk_tyAt X.2.2.2.2.2.2.1 0 rfl).1 _ _) (fun q => by cases q) (by rw [arrV_size]; exact fun q => q.elim h0 (Nat.not_le.mpr hlt)) rfl rfl d fun H1 e1 z o => ?_
      rw [arrV_store] at e1
      exact k9 H1 _ (nk_R_aI hR (by omega) (by omega) (Or.inl ⟨by omega, rfl⟩) z o (by rw [hc]; exact e1)) (nk_fr_app hq hA.1)
    · exact absurd ((if_neg hm).symm.trans hv) (fun z => nomatch z)
theorem nr_bastore {x : Option Nat} {i v : Int32} {F : nk_H → Option (nk_H × α)} (d : decode cc pc = .ok (.bastore, 1)) (kk : ∀ h1, nk_Sim G l own cc nL ret fr lo ini en (pc + 1) lv st h1 (F h1)) : nk_Sim G l own cc nL ret fr lo ini en pc lv (.inl v :: .inl i :: .inr x :: st) h ((nk_wZ h x i v).bind F) := by
  refine nk_bind (fun h1 hv => ?_)
  cases x with
  | none => cases hv
  | some a =>
    by_cases hm : nk_K h a = 2 ∧ ¬ i < 0 ∧ i.toNatClampNeg < nk_L h a
    · have hv2 : nk_sI h a i.toNatClampNeg (vp_nar .boolean v) = h1 := Option.some.inj ((if_pos hm).symm.trans hv)
      subst hv2
      obtain ⟨hc, h0, hlt⟩ := hm
      refine nk_heap (nk_N_sI h a _ _) (nk_S_sI h a _ _) (fun p e R s m args below meth c H locs cells slots Q ls X hR hl hq k9 => ?_) (kk _)
      have hA := hR.2.2.2.1 a (by omega) (by omega)
      have hcell := hA.2.2
      have hcell2 := hcell
      rw [hc] at hcell2
      refine W.zast X.1 X.2.1 hcell2 ((nk_tyAt X.2.2.2.2.2.2.1 1 rfl).1 _ _) (fun q => by cases q) (by rw [arrV_size]; exact fun q => q.elim h0 (Nat.not_le.mpr hlt)) rfl rfl d fun H1 e1 z o => ?_
      rw [arrV_store] at e1
      exact k9 H1 _ (nk_R_aI hR (by omega) (by omega) (Or.inl ⟨by omega, rfl⟩) z o (by rw [hc]; exact e1)) (nk_fr_app hq hA.1)
    · exact absurd ((if_neg hm).symm.trans hv) (fun z => nomatch z)
theorem nr_alen {x : Option Nat} {F : Int32 → Option (nk_H × α)} (d : decode cc pc = .ok (.arraylength, 1)) (kk : ∀ v, nk_Sim G l own cc nL ret fr lo ini en (pc + 1) lv (.inl v :: st) h (F v)) : nk_Sim G l own cc nL ret fr lo ini en pc lv (.inr x :: st) h ((nk_len h x).bind F) := by
  refine nk_bind (fun v hv => nk_pure (fun p e R s m args below meth c H locs cells slots Q ls X hR hl k9 => ?_) (kk v))
  cases x with
  | none => cases hv
  | some a =>
    by_cases hm : 1 ≤ nk_K h a ∧ nk_K h a ≤ 6
    · have hv2 : Int32.ofNat (nk_L h a) = v := Option.some.inj ((if_pos hm).symm.trans hv)
      have hcell := (hR.2.2.2.1 a hm.1 hm.2).2.2
      have hE : ∃ ty, s.isArrayOf (arrV (nk_gA G (nk_K h a)) (nk_L h a) (nk_el h (nk_K h a) a)) ty := by
        have : nk_K h a = 1 ∨ nk_K h a = 2 ∨ nk_K h a = 3 ∨ nk_K h a = 4 ∨ nk_K h a = 5 ∨ nk_K h a = 6 := by omega
        rcases this with e1 | e1 | e1 | e1 | e1 | e1 <;> rw [e1]
        · exact ⟨_, (nk_tyAt X.2.2.2.2.2.2.1 0 rfl).1 _ _⟩
        · exact ⟨_, (nk_tyAt X.2.2.2.2.2.2.1 1 rfl).1 _ _⟩
        · exact ⟨_, (nk_tyAt X.2.2.2.2.2.2.1 2 rfl).1 _ _⟩
        · exact ⟨_, (nk_tyAt X.2.2.2.2.2.2.1 3 rfl).1 _ _⟩
        · exact ⟨_, (nk_tyAt X.2.2.2.2.2.2.1 4 rfl).1 _ _⟩
        · exact ⟨_, (nk_tyAt X.2.2.2.2.2.2.1 5 rfl).1 _ _⟩
      obtain ⟨ty, hty⟩ := hE
      exact W.alen (n := v) X.1 X.2.1 hcell hty (by rw [arrV_size, ← hv2] <;> rfl) rfl rfl d (k9 ls hl)
    · by_cases hm2 : nk_K h a = 20
      · have hv2 : (0 : Int32) = v := Option.some.inj ((if_pos hm2).symm.trans ((if_neg hm).symm.trans hv))
        have ha : a = nk_gE G := hR.2.2.2.2.2.1 a hm2
        obtain ⟨cell, c1, c2, c3⟩ := X.2.2.2.2.2.2.1.2.2.2.2.2.2.2.1
        have hlt : nk_gE G < (nk_gH G).size := (Array.getElem?_eq_some_iff.mp c1).1
        exact W.alen (n := v) X.1 X.2.1 (by rw [ha, hR.2.2.1 _ hlt]; exact c1) c2 (by rw [c3, ← hv2] <;> rfl) rfl rfl d (k9 ls hl)
      · exact absurd ((if_neg hm2).symm.trans ((if_neg hm).symm.trans hv)) (fun z => nomatch z)
end NKR
end
section
section NKX
variable {p : Program} {l : Launch} {e : Env} {R : Room} {s : State} {m : MethodId} {args : Array Value} {below : List Frame} {meth : Method} {c : Code} {H : Heap} {locs : List Loc} {cells slots : Nat}
variable {mc ms : Nat} {free : Addr → Prop} {ls : Array Slot} {rest : List Value} {Qc : Array Value → State → Outcome → State → Prop} {XC : String → State → State → Prop}
/-! the two laws of a throw, with how many cells there are behind it (out of the kit's vx_throwS, vx_throwSW) -/
theorem nk_throwS {cc : ByteArray} {pc : Nat} (hexec : p.tables.exec = Jvm.exec) (hb : c.code = cc) (hl : l.stackTraces = false) {own cls text : String} {names : List String} {ik is ic mc ms sa : Nat} {A : Nat → Prop}
    (hown : s.vm.findClass own = some m.cls) (hcls : Bundle.fit cls = true) (hnames : ∀ n ∈ names, Bundle.fit n = true)
    (hk : (Cond.classLink own ik cls).before args s = true) (hini : (Cond.initialized cls).before args s = true) (hstr : vk_R own is text sa s) (hat : ∀ w ∈ vx_atS own ic cls names, w.before args s = true)
    (hgood : ∀ w ∈ Cond.classLink own ik cls :: Cond.initialized cls :: vx_atS own ic cls names, vx_ot w = true)
    (hU : vx_Zq Bundle.tN "UNASSIGNED_STACK" Bundle.steD A s s.heap) (hN : vx_Zq Bundle.tN "SUPPRESSED_SENTINEL" Bundle.listD A s s.heap) (hS : va_S A s.heap H locs) (hsize : ls.size = c.maxLocals)
    (d0 : decode cc pc = .ok (.new ik, 3)) (d3 : decode cc (pc + 3) = .ok (.dup, 1)) (d4 : decode cc (pc + 4) = .ok (.ldc is, 2)) (d6 : decode cc (pc + 6) = .ok (.invokespecial ic, 3)) (d9 : decode cc (pc + 9) = .ok (.athrow, 1))
    (hout : ∀ x ∈ c.exceptionTable.toList, covers x (pc + 9) = false)
    (hRframes : names.length + 3 < R.frames) (hRlocals : (rest.map fun v => v.category).sum + (13 * (names.length + 1) + 43) ≤ R.locals) (hRcells : cells + 1 ≤ R.cells) (hRslots : slots + 6 ≤ R.slots) (hlocks : meth.locks = false)
    (hx : ∀ t : State, s.vm.Alike t.vm → t.heap.size = H.size + 1 → (∀ q : Nat, q < H.size → t.heap[q]? = H[q]?) → XC cls s t)
    (hf : ∀ z ∈ locs, free z.base) (hc : cells + 1 ≤ mc) (hs : slots + 6 ≤ ms) :
    W p l e R s m args below meth c H locs cells slots (vx_MQ below Qc XC args s mc ms free) (F0 m pc ls rest) := by
  intro T hT X
  have htr : e.platform.stackTraces = false := (show e.platform.stackTraces = l.stackTraces by rw [X.admits.platform]).trans hl
  have Y := vx_rebase X (R' := { frames := R.frames, locals := R.locals, cells := 1, slots := 6 }) (Nat.le_refl _) (Nat.le_refl _) hRcells hRslots
  obtain ⟨s', hA⟩ : ∃ z, z = (T.setVm s.vm).setFrames (.invoking m args :: below) := ⟨_, rfl⟩
  rw [← hA] at Y
  have hvm : s'.vm = s.vm := by rw [hA]; rfl
  have hhp : s'.heap = H := by rw [hA]; exact hT
  have hW0 : s.WarmedH s'.vm := by rw [hvm]; exact State.WarmedH.refl s
  have hat' : ∀ w ∈ vx_atS own ic cls names, w.before args s' = true := fun w hw => vx_ot_at hW0 hvm.symm (hgood w (List.mem_cons_of_mem _ (List.mem_cons_of_mem _ hw))) (hat w hw)
  have hk' : (Cond.classLink own ik cls).before args s' = true := vx_ot_at hW0 hvm.symm (hgood _ List.mem_cons_self) hk
  have hini' : (Cond.initialized cls).before args s' = true := vx_ot_at hW0 hvm.symm (hgood _ (List.mem_cons_of_mem _ List.mem_cons_self)) hini
  have hU' : vx_Zq Bundle.tN "UNASSIGNED_STACK" Bundle.steD A s' s'.heap := by rw [hhp]; exact vx_Zq.moved hW0.alike (hU.kept hS.2.1)
  have hN' : vx_Zq Bundle.tN "SUPPRESSED_SENTINEL" Bundle.listD A s' s'.heap := by rw [hhp]; exact vx_Zq.moved hW0.alike (hN.kept hS.2.1)
  have h : ∀ w ∈ Bundle.ownAtoms own ic cls names, w.before args s' = true := vx_own hat' (vx_isRefq hU'.1) (vx_isRefq hN'.1) hU'.2.word hN'.2.word
  have hown' : s'.vm.findClass own = some m.cls := by rw [hvm]; exact hown
  have hins : (Cond.instantiable cls 6).before args s' = true := h _ (by simp [Bundle.ownAtoms])
  obtain ⟨vm₁, cX, kX, hfX, hkX, -, -, X₁, st1⟩ := Y.newCold hexec (own := own) (C := cls) (index := ik) (n := 6) hown' hk' hins hini'
    (g := F0 m pc ls rest) rfl (by rw [hb]; exact d0) (Nat.le_refl _) (Nat.le_refl _)
  generalize hT1 : (T.setVm vm₁).pushCell { cls := cX, slots := kX.instanceTypes.map defaultValue, vm := .none } = T1 at X₁ st1
  have hcat : (Value.ref T.heap.size).category = 1 := rfl
  have hcellA : T1.heap[T.heap.size]? = some (freshCell cX kX) := by rw [← hT1]; exact State.heap_pushCell_size _ _
  have d3' : decode c.code (pc + 3) = .ok (.dup, 1) := by rw [hb]; exact d3
  have d4' : decode c.code (pc + 4) = .ok (.ldc is, 2) := by rw [hb]; exact d4
  have hstr' : vk_R own is text sa s' := vk_R.warm hW0 hstr
  obtain ⟨U, hsteps, hrun, hend, hW, hsame, ce, hce, hO⟩ := X₁.ctorThrowS hexec htr (own := own) (cls := cls) (names := names) (ic := ic) hown' hcls hnames h (fun x hx => nomatch hx) hfX hkX hcellA (by rw [hhp, hT]; exact Nat.le_refl _) (msg := .ref sa) rfl
    (g := { method := m, pc := pc + 6, locals := ls, stack := .ref sa :: .ref T.heap.size :: .ref T.heap.size :: rest, locked := none }) rfl hsize rfl rfl (rest := rest) rfl
    (by rw [hb]; exact d6) (by rw [hb]; exact d9) hout hRframes (by simp only [List.map_cons, List.sum_cons, hcat]; omega) hlocks
  obtain ⟨f1, f2⟩ := vx_frame hsame
  rw [hhp] at f1 f2
  have hsz9 : U.heap.size = H.size + 1 := by
    have h1 : T.heap.size < U.heap.size := (Array.getElem?_eq_some_iff.mp hce).1
    have h2 : U.heap.size ≤ s'.heap.size + 1 := hsame.2.2.1
    rw [hhp] at h2
    rw [hT] at h1
    omega
  have hWs : s.WarmedH U.vm := State.WarmedH.trans hW0 hW
  have hcl : s.vm.findClass cls = some ce.cls := by
    have h9 := hO.cls
    rw [hvm] at h9
    exact h9
  have hall : s.sameButNew ({ U with vm := s.vm } : State) locs mc ms := by
    subst hA
    obtain ⟨e1, e2⟩ := hsame
    rw [State.setFrames_setFrames] at e1
    have h2 : (T.setVm s.vm).sameButNew ({ U with vm := s.vm } : State) [] (0 + 1) (0 + 6) := ⟨e1, e2⟩
    have h3 := X.same.trans h2
    rw [List.append_nil] at h3
    exact h3.mono hc hs
  refine ⟨U, ?_, .threw T.heap.size, hrun, hend, Or.inr ⟨T.heap.size, rfl, cls, ce, locs, hx U hWs.alike hsz9 (fun q hq => f2 q hq (fun z hz => nomatch hz)), hce, hO.vm, hcl, hWs, hall, hf⟩⟩
  refine st1 _ ?_
  show Steps p.tables e below (T1.setTop { method := m, pc := pc + 3, locals := ls, stack := .ref T.heap.size :: rest, locked := none }) _
  jvm_step X₁.here [X₁.here.top, hexec, d3', Value.category]
  exact X₁.ldcString hexec (own := own) (text := text) (index := is) (a := sa) hown' hstr'.1 hstr'.2
    (g := { method := m, pc := pc + 4, locals := ls, stack := .ref T.heap.size :: .ref T.heap.size :: rest, locked := none }) rfl d4' _ hsteps
theorem nk_throwSW {cc : ByteArray} {pc : Nat} (hexec : p.tables.exec = Jvm.exec) (hb : c.code = cc) (hl : l.stackTraces = false) {own cls text : String} {names : List String} {ik is ic mc ms sa : Nat} {A : Nat → Prop}
    (hown : s.vm.findClass own = some m.cls) (hcls : Bundle.fit cls = true) (hnames : ∀ n ∈ names, Bundle.fit n = true)
    (hk : (Cond.classLink own ik cls).before args s = true) (hini : (Cond.initialized cls).before args s = true) (hstr : vk_R own is text sa s) (hat : ∀ w ∈ vx_atS own ic cls names, w.before args s = true)
    (hgood : ∀ w ∈ Cond.classLink own ik cls :: Cond.initialized cls :: vx_atS own ic cls names, vx_ot w = true)
    (hU : vx_Zq Bundle.tN "UNASSIGNED_STACK" Bundle.steD A s s.heap) (hN : vx_Zq Bundle.tN "SUPPRESSED_SENTINEL" Bundle.listD A s s.heap) (hS : va_S A s.heap H locs) (hsize : ls.size = c.maxLocals)
    (d0 : decode cc pc = .ok (.new ik, 3)) (d3 : decode cc (pc + 3) = .ok (.dup, 1)) (d4 : decode cc (pc + 4) = .ok (.ldc_w is, 3)) (d7 : decode cc (pc + 7) = .ok (.invokespecial ic, 3)) (d10 : decode cc (pc + 10) = .ok (.athrow, 1))
    (hout : ∀ x ∈ c.exceptionTable.toList, covers x (pc + 10) = false)
    (hRframes : names.length + 3 < R.frames) (hRlocals : (rest.map fun v => v.category).sum + (13 * (names.length + 1) + 43) ≤ R.locals) (hRcells : cells + 1 ≤ R.cells) (hRslots : slots + 6 ≤ R.slots) (hlocks : meth.locks = false)
    (hx : ∀ t : State, s.vm.Alike t.vm → t.heap.size = H.size + 1 → (∀ q : Nat, q < H.size → t.heap[q]? = H[q]?) → XC cls s t)
    (hf : ∀ z ∈ locs, free z.base) (hc : cells + 1 ≤ mc) (hs : slots + 6 ≤ ms) :
    W p l e R s m args below meth c H locs cells slots (vx_MQ below Qc XC args s mc ms free) (F0 m pc ls rest) := by
  intro T hT X
  have htr : e.platform.stackTraces = false := (show e.platform.stackTraces = l.stackTraces by rw [X.admits.platform]).trans hl
  have Y := vx_rebase X (R' := { frames := R.frames, locals := R.locals, cells := 1, slots := 6 }) (Nat.le_refl _) (Nat.le_refl _) hRcells hRslots
  obtain ⟨s', hA⟩ : ∃ z, z = (T.setVm s.vm).setFrames (.invoking m args :: below) := ⟨_, rfl⟩
  rw [← hA] at Y
  have hvm : s'.vm = s.vm := by rw [hA]; rfl
  have hhp : s'.heap = H := by rw [hA]; exact hT
  have hW0 : s.WarmedH s'.vm := by rw [hvm]; exact State.WarmedH.refl s
  have hat' : ∀ w ∈ vx_atS own ic cls names, w.before args s' = true := fun w hw => vx_ot_at hW0 hvm.symm (hgood w (List.mem_cons_of_mem _ (List.mem_cons_of_mem _ hw))) (hat w hw)
  have hk' : (Cond.classLink own ik cls).before args s' = true := vx_ot_at hW0 hvm.symm (hgood _ List.mem_cons_self) hk
  have hini' : (Cond.initialized cls).before args s' = true := vx_ot_at hW0 hvm.symm (hgood _ (List.mem_cons_of_mem _ List.mem_cons_self)) hini
  have hU' : vx_Zq Bundle.tN "UNASSIGNED_STACK" Bundle.steD A s' s'.heap := by rw [hhp]; exact vx_Zq.moved hW0.alike (hU.kept hS.2.1)
  have hN' : vx_Zq Bundle.tN "SUPPRESSED_SENTINEL" Bundle.listD A s' s'.heap := by rw [hhp]; exact vx_Zq.moved hW0.alike (hN.kept hS.2.1)
  have h : ∀ w ∈ Bundle.ownAtoms own ic cls names, w.before args s' = true := vx_own hat' (vx_isRefq hU'.1) (vx_isRefq hN'.1) hU'.2.word hN'.2.word
  have hown' : s'.vm.findClass own = some m.cls := by rw [hvm]; exact hown
  have hins : (Cond.instantiable cls 6).before args s' = true := h _ (by simp [Bundle.ownAtoms])
  obtain ⟨vm₁, cX, kX, hfX, hkX, -, -, X₁, st1⟩ := Y.newCold hexec (own := own) (C := cls) (index := ik) (n := 6) hown' hk' hins hini'
    (g := F0 m pc ls rest) rfl (by rw [hb]; exact d0) (Nat.le_refl _) (Nat.le_refl _)
  generalize hT1 : (T.setVm vm₁).pushCell { cls := cX, slots := kX.instanceTypes.map defaultValue, vm := .none } = T1 at X₁ st1
  have hcat : (Value.ref T.heap.size).category = 1 := rfl
  have hcellA : T1.heap[T.heap.size]? = some (freshCell cX kX) := by rw [← hT1]; exact State.heap_pushCell_size _ _
  have d3' : decode c.code (pc + 3) = .ok (.dup, 1) := by rw [hb]; exact d3
  have d4' : decode c.code (pc + 4) = .ok (.ldc_w is, 3) := by rw [hb]; exact d4
  have hstr' : vk_R own is text sa s' := vk_R.warm hW0 hstr
  obtain ⟨U, hsteps, hrun, hend, hW, hsame, ce, hce, hO⟩ := X₁.ctorThrowS hexec htr (own := own) (cls := cls) (names := names) (ic := ic) hown' hcls hnames h (fun x hx => nomatch hx) hfX hkX hcellA (by rw [hhp, hT]; exact Nat.le_refl _) (msg := .ref sa) rfl
    (g := { method := m, pc := pc + 7, locals := ls, stack := .ref sa :: .ref T.heap.size :: .ref T.heap.size :: rest, locked := none }) rfl hsize rfl rfl (rest := rest) rfl
    (by rw [hb]; exact d7) (by rw [hb]; exact d10) hout hRframes (by simp only [List.map_cons, List.sum_cons, hcat]; omega) hlocks
  obtain ⟨f1, f2⟩ := vx_frame hsame
  rw [hhp] at f1 f2
  have hsz9 : U.heap.size = H.size + 1 := by
    have h1 : T.heap.size < U.heap.size := (Array.getElem?_eq_some_iff.mp hce).1
    have h2 : U.heap.size ≤ s'.heap.size + 1 := hsame.2.2.1
    rw [hhp] at h2
    rw [hT] at h1
    omega
  have hWs : s.WarmedH U.vm := State.WarmedH.trans hW0 hW
  have hcl : s.vm.findClass cls = some ce.cls := by
    have h9 := hO.cls
    rw [hvm] at h9
    exact h9
  have hall : s.sameButNew ({ U with vm := s.vm } : State) locs mc ms := by
    subst hA
    obtain ⟨e1, e2⟩ := hsame
    rw [State.setFrames_setFrames] at e1
    have h2 : (T.setVm s.vm).sameButNew ({ U with vm := s.vm } : State) [] (0 + 1) (0 + 6) := ⟨e1, e2⟩
    have h3 := X.same.trans h2
    rw [List.append_nil] at h3
    exact h3.mono hc hs
  refine ⟨U, ?_, .threw T.heap.size, hrun, hend, Or.inr ⟨T.heap.size, rfl, cls, ce, locs, hx U hWs.alike hsz9 (fun q hq => f2 q hq (fun z hz => nomatch hz)), hce, hO.vm, hcl, hWs, hall, hf⟩⟩
  refine st1 _ ?_
  show Steps p.tables e below (T1.setTop { method := m, pc := pc + 3, locals := ls, stack := .ref T.heap.size :: rest, locked := none }) _
  jvm_step X₁.here [X₁.here.top, hexec, d3', Value.category]
  exact X₁.ldcStringW hexec (own := own) (text := text) (index := is) (a := sa) hown' hstr'.1 hstr'.2
    (g := { method := m, pc := pc + 4, locals := ls, stack := .ref T.heap.size :: .ref T.heap.size :: rest, locked := none }) rfl d4' _ hsteps
end NKX
/-! ===== makings, ends, throws, calls ===== -/
section NKC
variable {α : Type} {G : nk_G} {l : Launch} {own : String} {cc : ByteArray} {nL : Nat} {ret : Option FieldType} {fr lo : Nat} {ini : Bool} {en : α → Option Value ⊕ String} {pc : Nat} {lv lv2 : List (Nat × nk_V)} {st : List nk_V} {h : nk_H} {f fA fB : Option (nk_H × α)}
theorem nr_new {i w : Nat} (ci : Nat) {q : vw_C} (hq : nk_cl[ci]? = some q) (d : decode cc pc = .ok (.new i, 3)) (w1 : Cond.classLink own i q.1 ∈ nk_T) (w2 : Cond.instantiable q.1 q.2.2 ∈ nk_T) (w3 : Cond.initialized q.1 ∈ nk_T) (hw : q.2.2 = w)
    (k : nk_Sim G l own cc nL ret fr lo ini en (pc + 3) lv (.inr (some (nk_N h)) :: st) (nk_al h (ci + 7) 0 w) f) : nk_Sim G l own cc nL ret fr lo ini en pc lv st h f := by
  subst hw
  refine nk_new (fun p e R s m args below meth c H locs cells slots Q ls X hR hl hc hs k9 => ?_) k
  have hKn := X.2.2.2.2.2.2.1.2.1.1 ci q hq
  obtain ⟨hin, ⟨ty, hty, hdef⟩, -⟩ := nk_cls ci q hq
  have hts : ∀ w ∈ nk_T, w.before args s = true := fun w hw => X.2.2.2.2.2.2.1.use hw args
  refine W.newcK X.1 X.2.1 X.2.2.2.2.2.1 (hts _ w1) (hts _ w2) (hts _ w3) rfl d hc hs hKn.2.1 rfl fun H1 kC hkC e1 z1 o1 => ?_
  have hci : ci < 13 := (List.getElem?_eq_some_iff.mp hq).1
  have := k9 H1 (nk_R_al hR z1 o1 (by omega) (fun _ h2 => by omega) (fun ci' q' h1 h2 => by
    have e9 : ci' = ci := by omega
    subst e9
    cases hq.symm.trans h2
    rw [← hR.1]
    refine (u_born ty hts hin hKn hkC e1 hty).to (fun j hj => ?_)
    rw [hdef j hj, hR.1]
    unfold nk_fv
    rw [nk_P_al, nk_I_al, nk_u1_eq, nk_u1_eq]))
  rw [← hR.1] at this
  exact this
theorem nk_arr0 (G : nk_G) (h : nk_H) (H1 : Heap) (c n w : Nat) (x : Value) (h1 : 1 ≤ c) (h6 : c ≤ 6) (hx : ∀ j, nk_el (nk_al h c n w) c (nk_N h) j = x) (e : H1[nk_N h]? = some (arrV (nk_gA G c) n (fun _ => x))) : H1[nk_N h]? = some (arrV (nk_gA G c) n (nk_el (nk_al h c n w) c (nk_N h))) := by
  rw [e]
  congr 2
  funext j
  exact (hx j).symm
theorem nr_newarray {n : Int32} {at9 : ArrayType} (c : Nat) {F : nk_H → Option (nk_H × α)} (hc : (c = 1 ∧ at9 = .int) ∨ (c = 2 ∧ at9 = .boolean)) (d : decode cc pc = .ok (.newarray at9, 2)) (w : Cond.arrayClass (newarray.typeOf at9) ∈ nk_T)
    (k : ∀ h1, nk_Sim G l own cc nL ret fr lo ini en (pc + 2) lv (.inr (some (nk_N h)) :: st) h1 (F h1)) : nk_Sim G l own cc nL ret fr lo ini en pc lv (.inl n :: st) h ((nk_na c h n).bind F) := by
  refine nk_bind (fun h1 hv => ?_)
  by_cases hm : ¬ n < 0 ∧ n.toNatClampNeg ≤ 65536
  · have hv2 : nk_al h c n.toNatClampNeg n.toNatClampNeg = h1 := Option.some.inj ((if_pos hm).symm.trans hv)
    subst hv2
    refine nk_new (fun p e R s m args below meth cd H locs cells slots Q ls X hR hl hcl hsl k9 => ?_) (k _)
    have hts : ∀ w ∈ nk_T, w.before args s = true := fun w hw => X.2.2.2.2.2.2.1.use hw args
    have hb : n.toNatClampNeg * componentBytes (newarray.typeOf at9) ≤ 536870912 := by
      have h8 : componentBytes (newarray.typeOf at9) ≤ 8 := by
        rcases hc with ⟨-, rfl⟩ | ⟨-, rfl⟩ <;> decide
      exact Nat.le_trans (Nat.mul_le_mul hm.2 h8) (Nat.le_of_ble_eq_true rfl)
    refine va_newaK X.1 X.2.1 (hts _ w) rfl d rfl hm.1 rfl hb hcl hsl hR.1 (fun H1 cA e1 z1 o1 _ hnm => ?_)
    refine k9 H1 (nk_R_al hR (by rw [z1, hR.1]) (fun x hx => o1 x (by rw [← hR.1]; exact hx)) (by rcases hc with ⟨rfl, -⟩ | ⟨rfl, -⟩ <;> decide) (fun h1 h6 => ?_) (fun ci q h1 _ => by rcases hc with ⟨rfl, -⟩ | ⟨rfl, -⟩ <;> omega))
    rcases hc with ⟨rfl, rfl⟩ | ⟨rfl, rfl⟩
    · have e9 : cA = nk_gA G 1 := Option.some.inj (hnm.symm.trans (nk_tyAt X.2.2.2.2.2.2.1 0 rfl).2)
      rw [e9] at e1
      exact nk_arr0 G h H1 1 _ _ _ (by omega) (by omega) (fun j => by unfold nk_el; rw [nk_I_al, nk_u1_eq]; rfl) e1
    · have e9 : cA = nk_gA G 2 := Option.some.inj (hnm.symm.trans (nk_tyAt X.2.2.2.2.2.2.1 1 rfl).2)
      rw [e9] at e1
      exact nk_arr0 G h H1 2 _ _ _ (by omega) (by omega) (fun j => by unfold nk_el; rw [nk_I_al, nk_u1_eq]; rfl) e1
  · exact absurd ((if_neg hm).symm.trans hv) (fun z => nomatch z)
theorem nr_anewarray {n : Int32} {i : Nat} (c : Nat) {C : String} {F : nk_H → Option (nk_H × α)} (hc : (c = 3 ∧ C = "NotaryKiosk$Chain") ∨ (c = 4 ∧ C = "java/lang/Object")) (d : decode cc pc = .ok (.anewarray i, 3)) (w : Cond.classLink own i C ∈ nk_T)
    (k : ∀ h1, nk_Sim G l own cc nL ret fr lo ini en (pc + 3) lv (.inr (some (nk_N h)) :: st) h1 (F h1)) : nk_Sim G l own cc nL ret fr lo ini en pc lv (.inl n :: st) h ((nk_na c h n).bind F) := by
  refine nk_bind (fun h1 hv => ?_)
  by_cases hm : ¬ n < 0 ∧ n.toNatClampNeg ≤ 65536
  · have hv2 : nk_al h c n.toNatClampNeg n.toNatClampNeg = h1 := Option.some.inj ((if_pos hm).symm.trans hv)
    subst hv2
    refine nk_new (fun p e R s m args below meth cd H locs cells slots Q ls X hR hl hcl hsl k9 => ?_) (k _)
    have hts : ∀ w ∈ nk_T, w.before args s = true := fun w hw => X.2.2.2.2.2.2.1.use hw args
    have hov : (Cond.arrayOver (.object C)).before args s = true := by
      rcases hc with ⟨-, rfl⟩ | ⟨-, rfl⟩
      · exact va_AO.use X.2.2.2.2.2.2.1.2.2.1.1
      · exact va_AO.use X.2.2.2.2.2.2.1.2.2.1.2.1
    have h1 : H.size = nk_N h := hR.1
    refine W.anew X.1 X.2.1 X.2.2.2.2.2.1 (hts _ w) hov rfl d rfl hm.1 (Nat.le_trans (Nat.mul_le_mul_right 4 hm.2) (Nat.le_of_ble_eq_true rfl)) hcl hsl (fun cA kA comp f1 f2 f3 f4 => ?_)
    have hR1 : nk_R G (nk_al h c n.toNatClampNeg n.toNatClampNeg) (H.push { cls := cA, slots := Array.replicate n.toNatClampNeg .null, vm := .none }) := by
      refine nk_R_al hR (by simp) (fun x hx => by rw [Array.getElem?_push, if_neg (Nat.ne_of_lt hx)]) (by rcases hc with ⟨rfl, -⟩ | ⟨rfl, -⟩ <;> decide) (fun _ _ => ?_) (fun ci q h1 _ => by rcases hc with ⟨rfl, -⟩ | ⟨rfl, -⟩ <;> omega)
      have e1 : (H.push { cls := cA, slots := Array.replicate n.toNatClampNeg .null, vm := .none })[nk_N h]? = some (arrV cA n.toNatClampNeg (fun _ => .null)) := by
        rw [← arrV_new, ← h1]; simp
      rcases hc with ⟨rfl, rfl⟩ | ⟨rfl, rfl⟩
      · obtain ⟨_, _, _, _, _, g4⟩ := (nk_tyAt X.2.2.2.2.2.2.1 2 rfl).2
        have e9 : cA = nk_gA G 3 := Option.some.inj (f1.symm.trans g4)
        rw [e9] at e1 ⊢
        exact nk_arr0 G h _ 3 _ _ _ (by omega) (by omega) (fun j => by unfold nk_el; rw [nk_P_al, nk_u1_eq]; rfl) e1
      · obtain ⟨_, _, _, _, _, g4⟩ := (nk_tyAt X.2.2.2.2.2.2.1 3 rfl).2
        have e9 : cA = nk_gA G 4 := Option.some.inj (f1.symm.trans g4)
        rw [e9] at e1 ⊢
        exact nk_arr0 G h _ 4 _ _ _ (by omega) (by omega) (fun j => by unfold nk_el; rw [nk_P_al, nk_u1_eq]; rfl) e1
    have := k9 _ hR1
    rw [← h1] at this
    exact this
  · exact absurd ((if_neg hm).symm.trans hv) (fun z => nomatch z)
/-- ends -/
theorem nk_end {r : α} {v : Option Value} (he : en r = .inl v) (step : ∀ (p : Program) (e : Env) (R : Room) (s : State) (m : MethodId) (args : Array Value) (below : List Frame) (meth : Method) (c : Code) (H : Heap) (locs : List Loc) (cells slots : Nat) (Qc : Array Value → State → Outcome → State → Prop) (ls : Array Slot), nk_X G l own cc nL ret fr lo ini p R s m meth c → nk_R G h H → (∀ q ∈ locs, nk_fr G q.base) →
      (∀ t : State, t.heap = H → s.WarmedH t.vm → Qc args s (.returned v) t) → W p l e R s m args below meth c H locs cells slots (MQ below Qc args s cells slots (nk_fr G)) (F0 m pc ls (nk_vs st))) : nk_Sim G l own cc nL ret fr lo ini en pc lv st h (some (h, r)) := by
  intro h' r' hf
  cases hf
  refine ⟨Nat.le_refl _, Nat.le_refl _, fun p e R s m args below meth c X sb b1 b2 b3 b4 H ls locs hR hl hq => ?_⟩
  refine vx_ret (step p e R s m args below meth c H locs _ _ _ ls X hR hq (fun t ht _ => ?_))
  exact ⟨by rw [ht]; exact hR, v, he, rfl⟩
theorem nr_iret {r : α} {x : Int32} (he : en r = .inl (some (.int x))) (hret : ret = some .int) (d : decode cc pc = .ok (.ireturn, 1)) : nk_Sim G l own cc nL ret fr lo ini en pc lv [.inl x] h (some (h, r)) :=
  nk_end he (fun p e R s m args below meth c H locs cells slots Qc ls X hR hq k => W.iret X.1 X.2.1 (by rw [X.2.2.2.1]; exact hret) k hq d X.2.2.2.2.1)
theorem nr_vret {r : α} (he : en r = .inl none) (hret : ret = none) (d : decode cc pc = .ok (.return_, 1)) : nk_Sim G l own cc nL ret fr lo ini en pc lv [] h (some (h, r)) :=
  nk_end he (fun p e R s m args below meth c H locs cells slots Qc ls X hR hq k => W.vret X.1 X.2.1 (by rw [X.2.2.2.1]; exact hret) k hq d X.2.2.2.2.1)
theorem nr_aret {r : α} {x : Option Nat} {rt : FieldType} (he : en r = .inl (some (va_rf x))) (hret : ret = some rt) (hrt : (∃ n, rt = .object n) ∨ ∃ t, rt = .array t) (d : decode cc pc = .ok (.areturn, 1)) : nk_Sim G l own cc nL ret fr lo ini en pc lv [.inr x] h (some (h, r)) :=
  nk_end he (fun p e R s m args below meth c H locs cells slots Qc ls X hR hq k => W.aret X.1 X.2.1 (by rw [X.2.2.2.1]; exact hret) hrt (va_rf_or x) k hq d X.2.2.2.2.1)
/-- a boolean's end -/
def nk_zr {β : Type} (x : Int32) (r : nk_H × β) : Option (nk_H × β) := if vp_nar .boolean x = x then some r else none
theorem nr_zret {r : α} {x : Int32} (he : en r = .inl (some (.int x))) (hret : ret = some .boolean) (d : decode cc pc = .ok (.ireturn, 1)) : nk_Sim G l own cc nL ret fr lo ini en pc lv [.inl x] h (nk_zr x (h, r)) := by
  unfold nk_zr
  by_cases hm : vp_nar .boolean x = x
  · rw [if_pos hm]
    exact nk_end he (fun p e R s m args below meth c H locs cells slots Qc ls X hR hq k => W.zret X.1 X.2.1 (ty := .boolean) (by rw [X.2.2.2.1]; exact hret) (congrArg Value.int hm) k hq d X.2.2.2.2.1)
  · rw [if_neg hm]
    exact nk_none
theorem nk_vaS {p : Program} {R : Room} {s : State} {m : MethodId} {meth : Method} {c : Code} {H : Heap} {locs : List Loc} (X : nk_X G l own cc nL ret fr lo ini p R s m meth c) (hR : nk_R G h H) (b1 : s.heap.size ≤ nk_N h) (hq : ∀ q ∈ locs, nk_fr G q.base) : va_S (nk_fr G) s.heap H locs := by
  refine ⟨by rw [hR.1]; exact b1, fun q h1 h2 => ?_, hq⟩
  have h3 : q < (nk_gH G).size := Nat.not_le.mp h2
  rw [hR.2.2.1 q h3, X.2.2.2.2.2.2.2.1.2 q h3]
/-- throw new E(text) -/
theorem nr_throw {r : α} {ik is ic : Nat} {cls text : String} (he : en r = .inr cls) (hcls : Bundle.fit cls = true) (wk : Cond.classLink own ik cls ∈ nk_T) (wi : Cond.initialized cls ∈ nk_T) (ws : (own, is, text) ∈ nk_strs) (wa : ∀ w ∈ vx_atS own ic cls ["java/lang/RuntimeException", "java/lang/Exception"], w ∈ nk_T) (wg : (Cond.classLink own ik cls :: Cond.initialized cls :: vx_atS own ic cls ["java/lang/RuntimeException", "java/lang/Exception"]).all vx_ot = true)
    (d0 : decode cc pc = .ok (.new ik, 3)) (d3 : decode cc (pc + 3) = .ok (.dup, 1)) (d4 : decode cc (pc + 4) = .ok (.ldc is, 2)) (d6 : decode cc (pc + 6) = .ok (.invokespecial ic, 3)) (d9 : decode cc (pc + 9) = .ok (.athrow, 1)) (hfr : 6 ≤ fr) (hlo : st.length + 82 ≤ lo) (ho : nk_nl own cc := by exact Or.inl (by decide)) :
    nk_Sim G l own cc nL ret fr lo ini en pc lv st h (some (nk_al h 0 0 6, r)) := by
  intro h' r' hf
  cases hf
  refine ⟨by rw [nk_N_al]; omega, by rw [nk_S_al]; omega, fun p e R s m args below meth c X sb b1 b2 b3 b4 H ls locs hR hl hq => ?_⟩
  rw [nk_N_al] at b3 ⊢
  rw [nk_S_al] at b4 ⊢
  have X9 := X
  obtain ⟨hx, hb, hml, hr, hlk, hown, hKn, hG, hRf, hRl, htab, hst, hin⟩ := X9
  have hts : ∀ w ∈ nk_T, w.before args s = true := fun w hw => hKn.use hw args
  obtain ⟨sa, hsa⟩ := hKn.2.2.2.1 _ ws
  have hkeep : ∀ a : Nat, a < (nk_gH G).size → ¬ nk_fr G a → s.heap[a]? = (nk_gH G)[a]? := fun a ha _ => hG.2 a ha
  refine nk_throwS (A := nk_fr G) (sa := sa) (text := text) (names := ["java/lang/RuntimeException", "java/lang/Exception"]) hx hb hst hown hcls (by decide) (hts _ wk) (hts _ wi) hsa (fun w hw => hts w (wa w hw)) (fun w hw => List.all_eq_true.mp wg w hw) (vx_Zq.kept hKn.2.2.2.2.1 hkeep) (vx_Zq.kept hKn.2.2.2.2.2.1 hkeep) (nk_vaS X hR b1 hq) (by rw [hl.1, hml]) d0 d3 d4 d6 d9 (fun x hx9 => (htab.1 ho x hx9).elim) (by show 2 + 3 < R.frames; omega) (by rw [nk_sum]; show st.length + (13 * 3 + 43) ≤ R.locals; omega) (by omega) (by omega) hlk (fun t _ hz ho => ⟨?_, he⟩) hq (by omega) (by omega)
  exact nk_R_al hR hz ho (by decide) (fun h1 _ => by omega) (fun ci q h1 _ => by omega)
theorem nr_throwW {r : α} {ik is ic : Nat} {cls text : String} (he : en r = .inr cls) (hcls : Bundle.fit cls = true) (wk : Cond.classLink own ik cls ∈ nk_T) (wi : Cond.initialized cls ∈ nk_T) (ws : (own, is, text) ∈ nk_strs) (wa : ∀ w ∈ vx_atS own ic cls ["java/lang/RuntimeException", "java/lang/Exception"], w ∈ nk_T) (wg : (Cond.classLink own ik cls :: Cond.initialized cls :: vx_atS own ic cls ["java/lang/RuntimeException", "java/lang/Exception"]).all vx_ot = true)
    (d0 : decode cc pc = .ok (.new ik, 3)) (d3 : decode cc (pc + 3) = .ok (.dup, 1)) (d4 : decode cc (pc + 4) = .ok (.ldc_w is, 3)) (d6 : decode cc (pc + 7) = .ok (.invokespecial ic, 3)) (d9 : decode cc (pc + 10) = .ok (.athrow, 1)) (hfr : 6 ≤ fr) (hlo : st.length + 82 ≤ lo) (ho : nk_nl own cc := by exact Or.inl (by decide)) :
    nk_Sim G l own cc nL ret fr lo ini en pc lv st h (some (nk_al h 0 0 6, r)) := by
  intro h' r' hf
  cases hf
  refine ⟨by rw [nk_N_al]; omega, by rw [nk_S_al]; omega, fun p e R s m args below meth c X sb b1 b2 b3 b4 H ls locs hR hl hq => ?_⟩
  rw [nk_N_al] at b3 ⊢
  rw [nk_S_al] at b4 ⊢
  have X9 := X
  obtain ⟨hx, hb, hml, hr, hlk, hown, hKn, hG, hRf, hRl, htab, hst, hin⟩ := X9
  have hts : ∀ w ∈ nk_T, w.before args s = true := fun w hw => hKn.use hw args
  obtain ⟨sa, hsa⟩ := hKn.2.2.2.1 _ ws
  have hkeep : ∀ a : Nat, a < (nk_gH G).size → ¬ nk_fr G a → s.heap[a]? = (nk_gH G)[a]? := fun a ha _ => hG.2 a ha
  refine nk_throwSW (A := nk_fr G) (sa := sa) (text := text) (names := ["java/lang/RuntimeException", "java/lang/Exception"]) hx hb hst hown hcls (by decide) (hts _ wk) (hts _ wi) hsa (fun w hw => hts w (wa w hw)) (fun w hw => List.all_eq_true.mp wg w hw) (vx_Zq.kept hKn.2.2.2.2.1 hkeep) (vx_Zq.kept hKn.2.2.2.2.2.1 hkeep) (nk_vaS X hR b1 hq) (by rw [hl.1, hml]) d0 d3 d4 d6 d9 (fun x hx9 => (htab.1 ho x hx9).elim) (by show 2 + 3 < R.frames; omega) (by rw [nk_sum]; show st.length + (13 * 3 + 43) ≤ R.locals; omega) (by omega) (by omega) hlk (fun t _ hz ho => ⟨?_, he⟩) hq (by omega) (by omega)
  exact nk_R_al hR hz ho (by decide) (fun h1 _ => by omega) (fun ci q h1 _ => by omega)
/-- objectInit -/
theorem nr_objInit {i : Nat} {a : Nat} (d : decode cc pc = .ok (.invokespecial i, 3)) (w1 : Cond.methodLink own i objectInit ∈ nk_T) (w2 : Cond.instanceMethod objectInit ∈ nk_T) (w3 : Cond.code objectInit ⟨#[0xb1]⟩ 1 none ∈ nk_T) (hfr : 1 ≤ fr) (hlo : st.length + 12 ≤ lo) (k : nk_Sim G l own cc nL ret fr lo ini en (pc + 3) lv st h f) : nk_Sim G l own cc nL ret fr lo ini en pc lv (.inr (some a) :: st) h f :=
  nk_pure (fun p e R s m args below meth c H locs cells slots Q ls X hR hl kk => by
    have hKn := X.2.2.2.2.2.2.1
    have h1 : fr ≤ R.frames := X.2.2.2.2.2.2.2.2.1
    have h2 : lo ≤ R.locals := X.2.2.2.2.2.2.2.2.2.1
    exact W.objInit X.1 X.2.1 X.2.2.2.2.2.1 (hKn.use w1 args) (hKn.use w2 args) (hKn.use w3 args) rfl (by rw [X.2.2.1]; exact hl.1) rfl d (by omega) (by show 2 * 0 + ((nk_vs st).map fun v => v.category).sum + 12 ≤ R.locals; rw [nk_sum]; omega) (kk ls hl)) k
end NKC
end
section
/-! ===== calls: a contract at a call site; what goes on behind it ===== -/
def nk_th {β γ : Type} (x : nk_H × (β ⊕ String)) (K : nk_H → β → Option (nk_H × (γ ⊕ String))) : Option (nk_H × (γ ⊕ String)) := match x.2 with
  | .inl v => K x.1 v
  | .inr E => some (x.1, .inr E)
/-- a method's own words: its code, its class's start, its name -/
def nk_My (y : MethodName) (cc : ByteArray) (nL : Nat) (ret : Option FieldType) (n : Nat) : Prop := Cond.code y cc nL ret ∈ nk_T ∧ Cond.initialized y.cls ∈ nk_T ∧ (y.cls ≠ "java/lang/invoke/MethodHandle" ∧ y.cls ≠ "java/lang/invoke/VarHandle") ∧ (parseMethodDescriptor y.desc).map (fun d => d.parameters.length) = some n
/-- a call that runs: what the machine does there, in the pictures' words -/
def nk_Go {β : Type} (G : nk_G) (l : Launch) (own : String) (cc : ByteArray) (nL : Nat) (ret : Option FieldType) (fr lo : Nat) (ini : Bool) (pc : Nat) (lv : List (Nat × nk_V)) (st0 st : List nk_V) (h : nk_H) (en2 : β → Option Value ⊕ String) (g : Option (nk_H × β)) : Prop :=
  ∀ (h1 : nk_H) (r : β), g = some (h1, r) → nk_N h ≤ nk_N h1 ∧ nk_S h ≤ nk_S h1 ∧
    ∀ (p : Program) (e : Env) (R : Room) (s : State) (m : MethodId) (args : Array Value) (below : List Frame) (meth : Method) (c : Code), nk_X G l own cc nL ret fr lo ini p R s m meth c →
    ∀ (cells slots : Nat), cells + (nk_N h1 - nk_N h) ≤ R.cells → slots + (nk_S h1 - nk_S h) ≤ R.slots →
    ∀ (H : Heap) (ls : Array Slot) (locs : List Loc), nk_R G h H → lv_has ls nL (nk_lv lv) →
      ∃ a : Array Value, vx_Run p l e R s m args below meth c H locs cells slots (nk_N h1 - nk_N h) (nk_S h1 - nk_S h) (F0 m pc ls (nk_vs st0)) (nk_vs st) (nk_Qc G h1 (en2 r) a) (nk_XC G h1 (en2 r)) (nk_fr G)
section NKG
variable {α β : Type} {G : nk_G} {l : Launch} {own : String} {cc : ByteArray} {nL : Nat} {ret : Option FieldType} {fr lo : Nat} {ini : Bool} {en : α → Option Value ⊕ String} {en2 : β → Option Value ⊕ String} {pc : Nat} {lv : List (Nat × nk_V)} {st0 st : List nk_V} {h : nk_H} {g : Option (nk_H × β)}
theorem nk_call {F : nk_H × β → Option (nk_H × α)} (go : nk_Go G l own cc nL ret fr lo ini pc lv st0 st h en2 g)
    (kk : ∀ (h1 : nk_H) (r : β) (v : Option Value), en2 r = .inl v → ∃ t : List nk_V, v.toList = nk_vs t ∧ nk_Sim G l own cc nL ret fr lo ini en (pc + 3) lv (t ++ st) h1 (F (h1, r)))
    (kx : ∀ (h1 : nk_H) (r : β) (E : String), en2 r = .inr E → nk_nl own cc ∧ ∃ r' : α, F (h1, r) = some (h1, r') ∧ en r' = .inr E) : nk_Sim G l own cc nL ret fr lo ini en pc lv st0 h (g.bind F) := by
  intro h' r' hf
  cases hg : g with
  | none => rw [hg] at hf; cases hf
  | some x =>
    obtain ⟨h1, r⟩ := x
    rw [hg] at hf
    have hf2 : F (h1, r) = some (h', r') := hf
    obtain ⟨g1, g2, g3⟩ := go h1 r hg
    cases ho : en2 r with
    | inl v =>
      obtain ⟨t, ht, k⟩ := kk h1 r v ho
      obtain ⟨k1, k2, k3⟩ := k h' r' hf2
      refine ⟨Nat.le_trans g1 k1, Nat.le_trans g2 k2, fun p e R s m args below meth c X sb b1 b2 b3 b4 H ls locs hR hl hq => ?_⟩
      obtain ⟨a, hrun⟩ := g3 p e R s m args below meth c X (nk_N h - s.heap.size) (nk_S h - sb) (by omega) (by omega) H ls locs hR hl
      intro T hT X0
      rcases hrun T hT X0 with ⟨w, st₀, t9, T', L, h0, X', hL, e1, e2, ⟨hR1, v9, hv, hw⟩, stp⟩ | ⟨q, st₀, t9, T', L, E, ce, h0, X', hL, e1, e2, ⟨hR1, hv⟩, -⟩
      · rw [ho] at hv
        cases hv
        cases hw
        have k4 := k3 p e R s m args below meth c X sb (by omega) (by omega) b3 b4 t9.heap ls (locs ++ L) hR1 hl (fun q hq9 => (List.mem_append.mp hq9).elim (hq q) (hL q))
        rw [show nk_N h1 - s.heap.size = nk_N h - s.heap.size + (nk_N h1 - nk_N h) by omega, show nk_S h1 - sb = nk_S h - sb + (nk_S h1 - nk_S h) by omega] at k4
        obtain ⟨t2, a1, b9⟩ := k4 T' e1 X'
        refine ⟨t2, stp t2 ?_, b9⟩
        show Steps p.tables e below (T'.setTop (F0 m (pc + 3) ls (v.toList ++ nk_vs st))) t2
        rw [ht]
        have e5 : nk_vs (t ++ st) = nk_vs t ++ nk_vs st := List.map_append
        rw [← e5]
        exact a1
      · rw [ho] at hv; cases hv
    | inr E =>
      obtain ⟨hnl, r9, hF, hen⟩ := kx h1 r E ho
      rw [hF] at hf2
      cases hf2
      refine ⟨g1, g2, fun p e R s m args below meth c X sb b1 b2 b3 b4 H ls locs hR hl hq => ?_⟩
      obtain ⟨a, hrun⟩ := g3 p e R s m args below meth c X (nk_N h - s.heap.size) (nk_S h - sb) (by omega) (by omega) H ls locs hR hl
      intro T hT X0
      rcases hrun T hT X0 with ⟨w, st₀, t9, T', L, h0, X', hL, e1, e2, ⟨hR1, v9, hv, hw⟩, -⟩ | ⟨q, st₀, t9, T', L, E9, ce, h0, X', hL, e1, e2, ⟨hR1, hv⟩, hce, hcv, hcl, stp⟩
      · rw [ho] at hv; cases hv
      · rw [ho] at hv
        cases hv
        obtain ⟨hx, hb, hml, hr, hlk, hown, hKn, hG, hRf, hRl, htab, hst, hin⟩ := X
        have k4 : vx_W p l e R s m args below meth c T'.heap (locs ++ L) (nk_N h - s.heap.size + (nk_N h' - nk_N h)) (nk_S h - sb + (nk_S h' - nk_S h)) (vx_MQ below (nk_Qc G h' (en r')) (nk_XC G h' (en r')) args s (nk_N h' - s.heap.size) (nk_S h' - sb) (nk_fr G)) (F0 m pc ls (nk_vs st)) q :=
          vx_out (E := E) (fun x hx9 => (htab.1 hnl x hx9).elim) hlk (by rw [e1]; exact hce) hcv hcl (fun t ht _ => ⟨by rw [ht, e1]; exact hR1, hen⟩) (fun q hq9 => (List.mem_append.mp hq9).elim (hq q) (hL q)) (by omega) (by omega)
        obtain ⟨t2, a1, b9⟩ := k4 T' rfl X'
        exact ⟨t2, stp.trans a1, b9⟩
theorem nk_goV {F : nk_H × Unit → Option (nk_H × α)} {g : Option (nk_H × Unit)} (go : nk_Go G l own cc nL ret fr lo ini pc lv st0 st h nk_eV g) (kk : ∀ h1, nk_Sim G l own cc nL ret fr lo ini en (pc + 3) lv st h1 (F (h1, ()))) : nk_Sim G l own cc nL ret fr lo ini en pc lv st0 h (g.bind F) :=
  nk_call go (fun h1 r v hv => by cases hv; exact ⟨[], rfl, kk h1⟩) (fun h1 r E hE => nomatch hE)
theorem nk_goI {F : nk_H × Int32 → Option (nk_H × α)} {g : Option (nk_H × Int32)} (go : nk_Go G l own cc nL ret fr lo ini pc lv st0 st h nk_eI g) (kk : ∀ h1 v, nk_Sim G l own cc nL ret fr lo ini en (pc + 3) lv (.inl v :: st) h1 (F (h1, v))) : nk_Sim G l own cc nL ret fr lo ini en pc lv st0 h (g.bind F) :=
  nk_call go (fun h1 r v hv => by cases hv; exact ⟨[.inl r], rfl, kk h1 r⟩) (fun h1 r E hE => nomatch hE)
theorem nk_goR {F : nk_H × Option Nat → Option (nk_H × α)} {g : Option (nk_H × Option Nat)} (go : nk_Go G l own cc nL ret fr lo ini pc lv st0 st h nk_eR g) (kk : ∀ h1 v, nk_Sim G l own cc nL ret fr lo ini en (pc + 3) lv (.inr v :: st) h1 (F (h1, v))) : nk_Sim G l own cc nL ret fr lo ini en pc lv st0 h (g.bind F) :=
  nk_call go (fun h1 r v hv => by cases hv; exact ⟨[.inr r], rfl, kk h1 r⟩) (fun h1 r E hE => nomatch hE)
end NKG
section NKT
variable {γ : Type} {G : nk_G} {l : Launch} {own : String} {cc : ByteArray} {nL : Nat} {ret : Option FieldType} {fr lo : Nat} {ini : Bool} {en : γ ⊕ String → Option Value ⊕ String} {pc : Nat} {lv : List (Nat × nk_V)} {st0 st : List nk_V} {h : nk_H}
theorem nk_goVt {K : nk_H → Unit → Option (nk_H × (γ ⊕ String))} {g : Option (nk_H × (Unit ⊕ String))} (go : nk_Go G l own cc nL ret fr lo ini pc lv st0 st h nk_eVt g) (hen : ∀ E, en (.inr E) = .inr E) (hnl : nk_nl own cc) (kk : ∀ h1, nk_Sim G l own cc nL ret fr lo ini en (pc + 3) lv st h1 (K h1 ())) : nk_Sim G l own cc nL ret fr lo ini en pc lv st0 h (g.bind fun x => nk_th x K) :=
  nk_call go (fun h1 r v hv => by
    cases r with
    | inl u => cases hv; exact ⟨[], rfl, kk h1⟩
    | inr E => cases hv) (fun h1 r E hE => by
    cases r with
    | inl u => cases hE
    | inr E9 => cases hE; exact ⟨hnl, .inr E, rfl, hen E⟩)
theorem nk_goIt {K : nk_H → Int32 → Option (nk_H × (γ ⊕ String))} {g : Option (nk_H × (Int32 ⊕ String))} (go : nk_Go G l own cc nL ret fr lo ini pc lv st0 st h nk_eIt g) (hen : ∀ E, en (.inr E) = .inr E) (hnl : nk_nl own cc) (kk : ∀ h1 v, nk_Sim G l own cc nL ret fr lo ini en (pc + 3) lv (.inl v :: st) h1 (K h1 v)) : nk_Sim G l own cc nL ret fr lo ini en pc lv st0 h (g.bind fun x => nk_th x K) :=
  nk_call go (fun h1 r v hv => by
    cases r with
    | inl u => cases hv; exact ⟨[.inl u], rfl, kk h1 u⟩
    | inr E => cases hv) (fun h1 r E hE => by
    cases r with
    | inl u => cases hE
    | inr E9 => cases hE; exact ⟨hnl, .inr E, rfl, hen E⟩)
end NKT
section NKM
variable {β : Type} {G : nk_G} {l : Launch} {own : String} {cc : ByteArray} {nL : Nat} {ret : Option FieldType} {fr lo : Nat} {ini : Bool} {en2 : β → Option Value ⊕ String} {pc : Nat} {lv : List (Nat × nk_V)} {st0 st : List nk_V} {h : nk_H} {g : Option (nk_H × β)} {y : MethodName} {c2 : ByteArray} {n2 fr2 lo2 : Nat} {r2 : Option FieldType} {vs : List nk_V} {i n : Nat}
theorem nk_par {n9 : Nat} (h9 : (parseMethodDescriptor y.desc).map (fun d => d.parameters.length) = some n9) : ∀ sig, parseMethodDescriptor y.desc = some sig → n9 = sig.parameters.length := by
  intro sig hs
  rw [hs] at h9
  exact (Option.some.inj h9).symm
theorem nk_revs (vs st : List nk_V) : nk_vs (vs.reverse ++ st) = (nk_vs vs).reverse ++ nk_vs st := by
  unfold nk_vs
  rw [List.map_append, List.map_reverse]
theorem nk_stS {p : Program} {R : Room} {s : State} {m : MethodId} {meth : Method} {c : Code} {H : Heap} (X : nk_X G l own cc nL ret fr lo ini p R s m meth c) (hR : nk_R G h H) (as : Array Value) (has : as = (nk_vs vs).toArray) : ∀ U : State, U.heap = H → s.WarmedH U.vm → nk_Pc G h vs as U := by
  intro U hU hW
  exact ⟨has, by rw [hU]; exact hR, X.2.2.2.2.2.2.1.warm hW⟩
theorem nk_cB {p : Program} {R : Room} {s : State} {m : MethodId} {meth : Method} {c : Code} {mc ms : Nat} (args : Array Value) (X : nk_X G l own cc nL ret fr lo ini p R s m meth c) (hy : nk_My y c2 n2 r2 n) (wl : Cond.methodLink own i y ∈ nk_T) (hfr : fr2 + 1 ≤ fr) (hlo : 8 + (n2 + 11) + lo2 ≤ lo) :
    CallB R s args own i y c2 n2 r2 [Cond.code y c2 n2 r2] { frames := fr2, cells := mc, slots := ms, locals := lo2 } mc ms n := by
  have hKn := X.2.2.2.2.2.2.1
  have h1 : fr ≤ R.frames := X.2.2.2.2.2.2.2.2.1
  have h2 : lo ≤ R.locals := X.2.2.2.2.2.2.2.2.2.1
  exact ⟨rfl, rfl, by show fr2 + 1 ≤ R.frames; omega, by show 8 + (n2 + 11) + lo2 ≤ R.locals; omega, fun w hw a' U hW => by
    rw [List.mem_singleton.mp hw]
    exact (hKn.warm hW).use hy.1 a', List.mem_singleton.mpr rfl, hKn.use hy.1 args, hKn.use hy.2.1 args, hy.2.2.1, nk_par hy.2.2.2, hKn.use wl args⟩
theorem nk_cN {host : String} {p : Program} {R : Room} {s : State} {m : MethodId} {meth : Method} {c : Code} {mc ms : Nat} (args : Array Value) (X : nk_X G l own cc nL ret fr lo ini p R s m meth c) (hy : nk_My y c2 n2 r2 n) (wl : Cond.methodLinkNest own i y host ∈ nk_T) (hfr : fr2 + 1 ≤ fr) (hlo : 8 + (n2 + 11) + lo2 ≤ lo) :
    va_CN R s args own i y host c2 n2 r2 [Cond.code y c2 n2 r2] { frames := fr2, cells := mc, slots := ms, locals := lo2 } mc ms n := by
  have hKn := X.2.2.2.2.2.2.1
  have h1 : fr ≤ R.frames := X.2.2.2.2.2.2.2.2.1
  have h2 : lo ≤ R.locals := X.2.2.2.2.2.2.2.2.2.1
  exact ⟨⟨rfl, rfl, by show fr2 + 1 ≤ R.frames; omega, by show 8 + (n2 + 11) + lo2 ≤ R.locals; omega, fun w hw a' U hW => by
    rw [List.mem_singleton.mp hw]
    exact (hKn.warm hW).use hy.1 a', List.mem_singleton.mpr rfl⟩, hKn.use hy.1 args, hKn.use hy.2.1 args, hy.2.2.1, nk_par hy.2.2.2, hKn.use wl args⟩
/-- a static method -/
theorem nk_callS (con : nk_Con G l y c2 n2 r2 fr2 lo2 en2 vs h g) (d : decode cc pc = .ok (.invokestatic i, 3)) (hy : nk_My y c2 n2 r2 n) (ws : Cond.static y ∈ nk_T) (wl : Cond.methodLink own i y ∈ nk_T) (hst : st0 = vs.reverse ++ st) (hn : vs.length = n) (h8 : st.length ≤ 8) (hfr : fr2 + 1 ≤ fr) (hlo : 8 + (n2 + 11) + lo2 ≤ lo) : nk_Go G l own cc nL ret fr lo ini pc lv st0 st h en2 g := by
  subst hst
  intro h1 r hg
  obtain ⟨g1, g2, hM⟩ := con h1 r hg
  refine ⟨g1, g2, fun p e R s m args below meth c X cells slots hc hs H ls locs hR hl => ?_⟩
  have hKn := X.2.2.2.2.2.2.1
  exact ⟨_, vx_runS (Ts := []) (own := own) (cc := cc) (nL := nL) (As := nk_vs vs) ⟨X.1, X.2.1, X.2.2.1, X.2.2.2.2.2.1, fun w hw => nomatch hw⟩ hM ⟨nk_cB args X hy wl hfr hlo, hKn.use ws args⟩ ⟨nk_blind G h vs, nk_stS X hR _ rfl⟩ rfl (by rw [← hn]; exact List.length_map _) hl.1 (nk_revs vs st) (lv_room (by rw [nk_sum]; exact h8)) d ⟨hc, hs⟩⟩
theorem nk_callSN {host : String} (con : nk_Con G l y c2 n2 r2 fr2 lo2 en2 vs h g) (d : decode cc pc = .ok (.invokestatic i, 3)) (hy : nk_My y c2 n2 r2 n) (ws : Cond.static y ∈ nk_T) (wl : Cond.methodLinkNest own i y host ∈ nk_T) (hst : st0 = vs.reverse ++ st) (hn : vs.length = n) (h8 : st.length ≤ 8) (hfr : fr2 + 1 ≤ fr) (hlo : 8 + (n2 + 11) + lo2 ≤ lo) : nk_Go G l own cc nL ret fr lo ini pc lv st0 st h en2 g := by
  subst hst
  intro h1 r hg
  obtain ⟨g1, g2, hM⟩ := con h1 r hg
  refine ⟨g1, g2, fun p e R s m args below meth c X cells slots hc hs H ls locs hR hl => ?_⟩
  have hKn := X.2.2.2.2.2.2.1
  exact ⟨_, vx_runSN (Ts := []) (own := own) (cc := cc) (nL := nL) (As := nk_vs vs) ⟨X.1, X.2.1, X.2.2.1, X.2.2.2.2.2.1, fun w hw => nomatch hw⟩ hM ⟨nk_cN args X hy wl hfr hlo, hKn.use ws args, trivial⟩ ⟨nk_blind G h vs, nk_stS X hR _ rfl⟩ rfl (by rw [← hn]; exact List.length_map _) hl.1 (nk_revs vs st) (lv_room (by rw [nk_sum]; exact h8)) d ⟨hc, hs⟩⟩
/-- a constructor -/
theorem nk_callI {a : Nat} (con : nk_Con G l y c2 n2 none fr2 lo2 en2 (.inr (some a) :: vs) h g) (d : decode cc pc = .ok (.invokespecial i, 3)) (hy : nk_My y c2 n2 none n) (hy1 : y.name = "<init>") (wi : Cond.instanceMethod y ∈ nk_T) (wl : Cond.methodLink own i y ∈ nk_T) (hst : st0 = vs.reverse ++ .inr (some a) :: st) (hn : vs.length = n) (h8 : st.length ≤ 8) (hfr : fr2 + 1 ≤ fr) (hlo : 8 + (n2 + 11) + lo2 ≤ lo) : nk_Go G l own cc nL ret fr lo ini pc lv st0 st h en2 g := by
  subst hst
  intro h1 r hg
  obtain ⟨g1, g2, hM⟩ := con h1 r hg
  refine ⟨g1, g2, fun p e R s m args below meth c X cells slots hc hs H ls locs hR hl => ?_⟩
  have hKn := X.2.2.2.2.2.2.1
  exact ⟨_, vx_runI (Ts := []) (own := own) (cc := cc) (nL := nL) (b := a) (As := nk_vs vs) ⟨X.1, X.2.1, X.2.2.1, X.2.2.2.2.2.1, fun w hw => nomatch hw⟩ hM ⟨nk_cB args X hy wl hfr hlo, hy1, hKn.use wi args⟩ ⟨nk_blind G h _, nk_stS X hR _ rfl⟩ rfl (by rw [← hn]; exact List.length_map _) hl.1 (nk_revs vs _) (lv_room (by rw [nk_sum]; exact h8)) d ⟨hc, hs⟩⟩
theorem nk_callIN {host : String} {a : Nat} (con : nk_Con G l y c2 n2 none fr2 lo2 en2 (.inr (some a) :: vs) h g) (d : decode cc pc = .ok (.invokespecial i, 3)) (hy : nk_My y c2 n2 none n) (hy1 : y.name = "<init>") (wi : Cond.instanceMethod y ∈ nk_T) (wl : Cond.methodLinkNest own i y host ∈ nk_T) (hst : st0 = vs.reverse ++ .inr (some a) :: st) (hn : vs.length = n) (h8 : st.length ≤ 8) (hfr : fr2 + 1 ≤ fr) (hlo : 8 + (n2 + 11) + lo2 ≤ lo) : nk_Go G l own cc nL ret fr lo ini pc lv st0 st h en2 g := by
  subst hst
  intro h1 r hg
  obtain ⟨g1, g2, hM⟩ := con h1 r hg
  refine ⟨g1, g2, fun p e R s m args below meth c X cells slots hc hs H ls locs hR hl => ?_⟩
  have hKn := X.2.2.2.2.2.2.1
  exact ⟨_, vx_runIN (Ts := []) (own := own) (cc := cc) (nL := nL) (b := a) (As := nk_vs vs) ⟨X.1, X.2.1, X.2.2.1, X.2.2.2.2.2.1, fun w hw => nomatch hw⟩ hM ⟨nk_cN args X hy wl hfr hlo, hy1, hKn.use wi args⟩ ⟨nk_blind G h _, nk_stS X hR _ rfl⟩ rfl (by rw [← hn]; exact List.length_map _) hl.1 (nk_revs vs _) (lv_room (by rw [nk_sum]; exact h8)) d ⟨hc, hs⟩⟩
/-- the receiver's cell -/
theorem nk_recv {s : State} {H : Heap} (hKn : nk_Kn G s) (hR : nk_R G h H) {a ci : Nat} {q : vw_C} (hk : nk_K h a = ci + 7) (hq : nk_cl[ci]? = some q) : ∃ cell : Cell, H[a]? = some cell ∧ cell.vm.isStatics = false ∧ s.vm.findClass q.1 = some cell.cls := by
  obtain ⟨cell, q1, q2, q3, q4⟩ := (hR.2.2.2.2.1 a ci q hk hq).2.2
  exact ⟨cell, q1, by rw [q3]; rfl, by rw [q2]; exact (hKn.2.1.1 ci q hq).2.1⟩
/-- a method of the receiver's own class -/
theorem nk_callV {a ci : Nat} {q : vw_C} (con : nk_Con G l y c2 n2 r2 fr2 lo2 en2 (.inr (some a) :: vs) h g) (d : decode cc pc = .ok (.invokevirtual i, 3)) (hk : nk_K h a = ci + 7) (hq : nk_cl[ci]? = some q) (hC : q.1 = y.cls) (hy : nk_My y c2 n2 r2 n) (wi : Cond.instanceMethod y ∈ nk_T) (wse : Cond.selects y.cls y y ∈ nk_T) (wl : Cond.methodLink own i y ∈ nk_T) (hst : st0 = vs.reverse ++ .inr (some a) :: st) (hn : vs.length = n) (h8 : st.length ≤ 8) (hfr : fr2 + 1 ≤ fr) (hlo : 8 + (n2 + 11) + lo2 ≤ lo) : nk_Go G l own cc nL ret fr lo ini pc lv st0 st h en2 g := by
  subst hst
  intro h1 r hg
  obtain ⟨g1, g2, hM⟩ := con h1 r hg
  refine ⟨g1, g2, fun p e R s m args below meth c X cells slots hc hs H ls locs hR hl => ?_⟩
  have hKn := X.2.2.2.2.2.2.1
  exact ⟨_, vx_runV (Ts := []) (own := own) (C := y.cls) (cc := cc) (nL := nL) (b := a) (As := nk_vs vs) ⟨X.1, X.2.1, X.2.2.1, X.2.2.2.2.2.1, fun w hw => nomatch hw⟩ hM ⟨nk_cB args X hy wl hfr hlo, hKn.use wi args, hKn.use wse args⟩ ⟨nk_blind G h _, by rw [← hC]; exact nk_recv hKn hR hk hq, nk_stS X hR _ rfl⟩ rfl (by rw [← hn]; exact List.length_map _) hl.1 (nk_revs vs _) (lv_room (by rw [nk_sum]; exact h8)) d ⟨hc, hs⟩⟩
/-- a method that is named in a class above the receiver's -/
theorem nk_callU {x : MethodName} {owner : String} {a ci : Nat} {q : vw_C} (con : nk_Con G l y c2 n2 r2 fr2 lo2 en2 (.inr (some a) :: vs) h g) (d : decode cc pc = .ok (.invokevirtual i, 3)) (hk : nk_K h a = ci + 7) (hq : nk_cl[ci]? = some q) (hy : nk_My y c2 n2 r2 n) (wi : Cond.instanceMethod y ∈ nk_T) (wse : Cond.selects q.1 x y ∈ nk_T) (wl : Cond.methodLink own i x ∈ nk_T) (wsm : Cond.sameMethod x.cls owner x.name x.desc ∈ nk_T)
    (hx9 : (owner ≠ "java/lang/invoke/MethodHandle" ∧ owner ≠ "java/lang/invoke/VarHandle") ∧ (parseMethodDescriptor x.desc).map (fun d => d.parameters.length) = some n) {c3 : ByteArray} {n3 : Nat} {r3 : Option FieldType} (wd : Cond.instanceMethod ⟨owner, x.name, x.desc⟩ ∈ nk_T) (wd2 : Cond.code ⟨owner, x.name, x.desc⟩ c3 n3 r3 ∈ nk_T)
    (hst : st0 = vs.reverse ++ .inr (some a) :: st) (hn : vs.length = n) (h8 : st.length ≤ 8) (hfr : fr2 + 1 ≤ fr) (hlo : 8 + (n2 + 11) + lo2 ≤ lo) : nk_Go G l own cc nL ret fr lo ini pc lv st0 st h en2 g := by
  subst hst
  intro h1 r hg
  obtain ⟨g1, g2, hM⟩ := con h1 r hg
  refine ⟨g1, g2, fun p e R s m args below meth c X cells slots hc hs H ls locs hR hl => ?_⟩
  have hKn := X.2.2.2.2.2.2.1
  have h1 : fr ≤ R.frames := X.2.2.2.2.2.2.2.2.1
  have h2 : lo ≤ R.locals := X.2.2.2.2.2.2.2.2.2.1
  refine ⟨_, vx_runU (Ts := []) (own := own) (C := q.1) (owner := owner) (x := x) (cc := cc) (nL := nL) (b := a) (As := nk_vs vs) ⟨X.1, X.2.1, X.2.2.1, X.2.2.2.2.2.1, fun w hw => nomatch hw⟩ hM ⟨⟨rfl, rfl, by show fr2 + 1 ≤ R.frames; omega, by show 8 + (n2 + 11) + lo2 ≤ R.locals; omega, fun w hw a' U hW => by
    rw [List.mem_singleton.mp hw]
    exact (hKn.warm hW).use hy.1 a', List.mem_singleton.mpr rfl⟩, hKn.use hy.1 args, hKn.use hy.2.1 args, hx9.1, nk_par (y := x) hx9.2, hKn.use wl args, hKn.use wsm args, va_Decl.of (hKn.use wd args) (hKn.use wd2 args), hKn.use wse args, hKn.use wi args⟩ ⟨nk_blind G h _, nk_recv hKn hR hk hq, nk_stS X hR _ rfl⟩ rfl (by rw [← hn]; exact List.length_map _) hl.1 (nk_revs vs _) (lv_room (by rw [nk_sum]; exact h8)) d ⟨hc, hs⟩⟩
/-- a receiver's kind, asked -/
def nk_rcv (ks : List Nat) (h : nk_H) (p : Option Nat) : Option Nat := p.bind fun a => if nk_K h a ∈ ks then some a else none
end NKM
section NKE
variable {α : Type} {G : nk_G} {l : Launch} {own : String} {cc : ByteArray} {nL : Nat} {ret : Option FieldType} {fr lo : Nat} {ini : Bool} {en : α → Option Value ⊕ String} {pc : Nat} {lv : List (Nat × nk_V)} {st : List nk_V} {h : nk_H}
/-- the receiver is there, and of a kind -/
theorem nr_rcv {ks : List Nat} {pre : List nk_V} {x : Option Nat} {F : Nat → Option (nk_H × α)} (kk : ∀ a : Nat, nk_K h a ∈ ks → nk_Sim G l own cc nL ret fr lo ini en pc lv (pre ++ .inr (some a) :: st) h (F a)) : nk_Sim G l own cc nL ret fr lo ini en pc lv (pre ++ .inr x :: st) h ((nk_rcv ks h x).bind F) := by
  refine nk_bind (fun v hv => ?_)
  cases x with
  | none => cases hv
  | some a =>
    by_cases hm : nk_K h a ∈ ks
    · have e : a = v := Option.some.inj ((if_pos hm).symm.trans hv)
      subst e
      exact kk a hm
    · exact absurd ((if_neg hm).symm.trans hv) (fun z => nomatch z)
/-- from a body's walk to the method's contract -/
theorem nk_con {y : MethodName} {vs : List nk_V} {f : Option (nk_H × α)} (hy : plainName y.cls = true) (hl0 : l.flags = flags0) (hlen : vs.length ≤ nL) (hini : ini = true → y.name = "<init>")
    (k : nk_Sim G l y.cls cc nL ret fr lo ini en 0 (vs.zipIdx.map fun q => (q.2, q.1)) [] h f) (hnl : nk_nl y.cls cc := by exact Or.inl (by decide)) (hnh : y.cls = "NotaryKioskLaw" → ∀ q ∈ nk_hhl, q.1 ≠ cc := by exact fun e9 => absurd e9 (by decide)) : nk_Con G l y cc nL ret fr lo en vs h f := by
  intro h' r hf
  obtain ⟨k1, k2, k3⟩ := k h' r hf
  refine ⟨k1, k2, vx_ofW (ws' := []) hy rfl ?_⟩
  intro p e s m args below meth c s₁ B hml htab ⟨hargs, hR, hKn⟩
  subst hargs
  have hb9 : s.heap.size = nk_N h := hR.1
  have hsl : lg_sl (nk_vs vs) = (nk_vs vs).map Slot.val := nk_sl vs
  have hh : lv_has ((lg_sl (nk_vs vs) ++ List.replicate (nL - (lg_sl (nk_vs vs)).length) Slot.unset).toArray) nL (lv_args 0 (nk_vs vs)) := lv_entry (nk_vs vs) (by rw [hsl]; simpa [nk_vs] using hlen)
  have hargs : lv_args 0 (nk_vs vs) = nk_lv (vs.zipIdx.map fun q => (q.2, q.1)) := nk_args vs 0
  rw [hargs] at hh
  have X : nk_X G l y.cls cc nL ret fr lo ini p (headSpec [Cond.code y cc nL ret] { frames := fr, cells := nk_N h' - nk_N h, slots := nk_S h' - nk_S h, locals := lo }).room s m meth c :=
    ⟨B.exec, B.bytes, hml, B.returns, B.notSynchronized, findClass_of_methodNamed B.named, hKn, ⟨by rw [hb9]; exact hR.2.1, hR.2.2.1⟩, Nat.le_refl _, Nat.le_refl _, ⟨fun _ => htab, fun e9 q hq he => absurd he (hnh e9 q hq)⟩, nk_noTrace hl0, fun hi => by rw [(name_of_methodNamed B.named B.method).1]; exact hini hi⟩
  have := k3 p e _ s m (nk_vs vs).toArray below meth c X (nk_S h) (by omega) (Nat.le_refl _) (by rw [hb9]; exact Nat.le_refl _) (Nat.le_refl _) s.heap _ [] hR hh (fun q hq => nomatch hq)
  rw [hb9, Nat.sub_self, Nat.sub_self] at this
  rw [lg_entry_eq]
  exact this
end NKE
end
section
/-! ===== calls in the functions' words; casts; Math ===== -/
def nk_do {β γ : Type} (g : Option (nk_H × β)) (K : nk_H → β → Option γ) : Option γ := g.bind fun x => K x.1 x.2
def nk_dt {β γ : Type} (g : Option (nk_H × (β ⊕ String))) (K : nk_H → β → Option (nk_H × (γ ⊕ String))) : Option (nk_H × (γ ⊕ String)) := g.bind fun x => nk_th x K
section NKG
variable {α : Type} {G : nk_G} {l : Launch} {own : String} {cc : ByteArray} {nL : Nat} {ret : Option FieldType} {fr lo : Nat} {ini : Bool} {en : α → Option Value ⊕ String} {pc : Nat} {lv : List (Nat × nk_V)} {st0 st : List nk_V} {h : nk_H}
theorem nr_doV {K : nk_H → Unit → Option (nk_H × α)} {g : Option (nk_H × Unit)} (go : nk_Go G l own cc nL ret fr lo ini pc lv st0 st h nk_eV g) (kk : ∀ h1 v, nk_Sim G l own cc nL ret fr lo ini en (pc + 3) lv st h1 (K h1 v)) : nk_Sim G l own cc nL ret fr lo ini en pc lv st0 h (nk_do g K) :=
  nk_goV go (fun h1 => kk h1 ())
theorem nr_doI {K : nk_H → Int32 → Option (nk_H × α)} {g : Option (nk_H × Int32)} (go : nk_Go G l own cc nL ret fr lo ini pc lv st0 st h nk_eI g) (kk : ∀ h1 v, nk_Sim G l own cc nL ret fr lo ini en (pc + 3) lv (.inl v :: st) h1 (K h1 v)) : nk_Sim G l own cc nL ret fr lo ini en pc lv st0 h (nk_do g K) :=
  nk_goI go kk
theorem nr_doR {K : nk_H → Option Nat → Option (nk_H × α)} {g : Option (nk_H × Option Nat)} (go : nk_Go G l own cc nL ret fr lo ini pc lv st0 st h nk_eR g) (kk : ∀ h1 v, nk_Sim G l own cc nL ret fr lo ini en (pc + 3) lv (.inr v :: st) h1 (K h1 v)) : nk_Sim G l own cc nL ret fr lo ini en pc lv st0 h (nk_do g K) :=
  nk_goR go kk
end NKG
section NKT
variable {γ : Type} {G : nk_G} {l : Launch} {own : String} {cc : ByteArray} {nL : Nat} {ret : Option FieldType} {fr lo : Nat} {ini : Bool} {en : γ ⊕ String → Option Value ⊕ String} {pc : Nat} {lv : List (Nat × nk_V)} {st0 st : List nk_V} {h : nk_H}
theorem nr_dtV {K : nk_H → Unit → Option (nk_H × (γ ⊕ String))} {g : Option (nk_H × (Unit ⊕ String))} (go : nk_Go G l own cc nL ret fr lo ini pc lv st0 st h nk_eVt g) (hen : ∀ E, en (.inr E) = .inr E) (kk : ∀ h1 v, nk_Sim G l own cc nL ret fr lo ini en (pc + 3) lv st h1 (K h1 v)) (hnl : nk_nl own cc := by exact Or.inl (by decide)) : nk_Sim G l own cc nL ret fr lo ini en pc lv st0 h (nk_dt g K) :=
  nk_goVt go hen hnl (fun h1 => kk h1 ())
theorem nr_dtI {K : nk_H → Int32 → Option (nk_H × (γ ⊕ String))} {g : Option (nk_H × (Int32 ⊕ String))} (go : nk_Go G l own cc nL ret fr lo ini pc lv st0 st h nk_eIt g) (hen : ∀ E, en (.inr E) = .inr E) (kk : ∀ h1 v, nk_Sim G l own cc nL ret fr lo ini en (pc + 3) lv (.inl v :: st) h1 (K h1 v)) (hnl : nk_nl own cc := by exact Or.inl (by decide)) : nk_Sim G l own cc nL ret fr lo ini en pc lv st0 h (nk_dt g K) :=
  nk_goIt go hen hnl kk
end NKT
/-- a cast: of null, or of a kind -/
def nk_cc (ks : List Nat) (h : nk_H) (p : Option Nat) : Option Unit := match p with
  | none => some ()
  | some a => if nk_K h a ∈ ks then some () else none
section NKR
variable {α : Type} {G : nk_G} {l : Launch} {own : String} {cc : ByteArray} {nL : Nat} {ret : Option FieldType} {fr lo : Nat} {ini : Bool} {en : α → Option Value ⊕ String} {pc : Nat} {lv lv2 : List (Nat × nk_V)} {st : List nk_V} {h : nk_H} {f : Option (nk_H × α)}
/-- the kinds that a class's name admits: by the same name, or by a word -/
def nk_Ca (nm : String) : List Nat → Prop
  | [] => True
  | c :: t => (∃ (ci : Nat) (q : vw_C), c = ci + 7 ∧ nk_cl[ci]? = some q ∧ (q.1 = nm ∨ Cond.castable q.1 nm ∈ nk_T)) ∧ nk_Ca nm t
theorem nk_Ca.get {nm : String} {ks : List Nat} (h : nk_Ca nm ks) {c : Nat} (hc : c ∈ ks) : ∃ (ci : Nat) (q : vw_C), c = ci + 7 ∧ nk_cl[ci]? = some q ∧ (q.1 = nm ∨ Cond.castable q.1 nm ∈ nk_T) := by
  induction ks with
  | nil => cases hc
  | cons d t ih =>
    rcases List.mem_cons.mp hc with rfl | hc
    · exact h.1
    · exact ih h.2 hc
theorem nr_cast {i : Nat} {nm : String} {ks : List Nat} {x : Option Nat} {F : Unit → Option (nk_H × α)} (d : decode cc pc = .ok (.checkcast i, 3)) (wl : Cond.classLink own i nm ∈ nk_T) (w : nk_Ca nm ks) (kk : nk_Sim G l own cc nL ret fr lo ini en (pc + 3) lv (.inr x :: st) h (F ())) : nk_Sim G l own cc nL ret fr lo ini en pc lv (.inr x :: st) h ((nk_cc ks h x).bind F) := by
  refine nk_bind (fun v hv => nk_pure (fun p e R s m args below meth c H locs cells slots Q ls X hR hl k9 => ?_) kk)
  have hKn := X.2.2.2.2.2.2.1
  cases x with
  | none => exact lv_castN X.1 X.2.1 d (k9 ls hl)
  | some a =>
    by_cases hm : nk_K h a ∈ ks
    · obtain ⟨ci, q, e1, hq, hc⟩ := w.get hm
      have hr := nk_recv hKn hR e1 hq
      rcases hc with hc | hc
      · exact va_castE X.1 X.2.1 X.2.2.2.2.2.1 (hKn.use wl args) (by rw [← hc]; exact hr) d (k9 ls hl)
      · exact va_castY X.1 X.2.1 X.2.2.2.2.2.1 (hKn.use wl args) (hKn.use hc #[]) hr d (k9 ls hl)
    · exact absurd ((if_neg hm).symm.trans hv) (fun z => nomatch z)
theorem nr_max {i : Nat} {x y : Int32} (d : decode cc pc = .ok (.invokestatic i, 3)) (wl : Cond.methodLink own i Lib.Math.max.name ∈ nk_T) (ws : Cond.static Lib.Math.max.name ∈ nk_T) (wi : Cond.initialized "java/lang/Math" ∈ nk_T) (wc : Cond.code Lib.Math.max.name Lib.Math.max.code 2 (some .int) ∈ nk_T) (hfr : 1 ≤ fr) (hlo : st.length + 13 ≤ lo) (kk : nk_Sim G l own cc nL ret fr lo ini en (pc + 3) lv (.inl (if x < y then y else x) :: st) h f) : nk_Sim G l own cc nL ret fr lo ini en pc lv (.inl y :: .inl x :: st) h f := by
  intro h' r hf
  obtain ⟨k1, k2, k3⟩ := kk h' r hf
  refine ⟨k1, k2, fun p e R s m args below meth c X sb b1 b2 b3 b4 H ls locs hR hl hq => ?_⟩
  have hKn := X.2.2.2.2.2.2.1
  have g1 : fr ≤ R.frames := X.2.2.2.2.2.2.2.2.1
  have g2 : lo ≤ R.locals := X.2.2.2.2.2.2.2.2.2.1
  exact va_mmax X.1 X.2.1 (by rw [X.2.2.1]; exact hl.1.symm) X.2.2.2.2.2.1 (hKn.use wl args) (hKn.use ws args) (hKn.use wi args) (hKn.use wc args) (by omega) (by show ((nk_vs st).map fun v => v.category).sum + 13 ≤ R.locals; rw [nk_sum]; omega) (by omega) (by omega) d (k3 p e R s m args below meth c X sb b1 b2 b3 b4 H ls locs hR hl hq)
theorem nr_min {i : Nat} {x y : Int32} (d : decode cc pc = .ok (.invokestatic i, 3)) (wl : Cond.methodLink own i Lib.Math.min.name ∈ nk_T) (ws : Cond.static Lib.Math.min.name ∈ nk_T) (wi : Cond.initialized "java/lang/Math" ∈ nk_T) (wc : Cond.code Lib.Math.min.name Lib.Math.min.code 2 (some .int) ∈ nk_T) (hfr : 1 ≤ fr) (hlo : st.length + 13 ≤ lo) (kk : nk_Sim G l own cc nL ret fr lo ini en (pc + 3) lv (.inl (if y < x then y else x) :: st) h f) : nk_Sim G l own cc nL ret fr lo ini en pc lv (.inl y :: .inl x :: st) h f := by
  intro h' r hf
  obtain ⟨k1, k2, k3⟩ := kk h' r hf
  refine ⟨k1, k2, fun p e R s m args below meth c X sb b1 b2 b3 b4 H ls locs hR hl hq => ?_⟩
  have hKn := X.2.2.2.2.2.2.1
  have g1 : fr ≤ R.frames := X.2.2.2.2.2.2.2.2.1
  have g2 : lo ≤ R.locals := X.2.2.2.2.2.2.2.2.2.1
  exact va_mmin X.1 X.2.1 (by rw [X.2.2.1]; exact hl.1.symm) X.2.2.2.2.2.1 (hKn.use wl args) (hKn.use ws args) (hKn.use wi args) (hKn.use wc args) (by omega) (by show ((nk_vs st).map fun v => v.category).sum + 13 ≤ R.locals; rw [nk_sum]; omega) (by omega) (by omega) d (k3 p e R s m args below meth c X sb b1 b2 b3 b4 H ls locs hR hl hq)
end NKR

/-! ===== calls that may throw, where nothing catches: no answer is claimed if they do; a remainder by what may be 0 ===== -/
def nk_st {γ : Type} (g : Option (nk_H × (γ ⊕ String))) : Option (nk_H × γ) := g.bind fun x => match x.2 with
  | .inl v => some (x.1, v)
  | .inr _ => none
theorem nk_st_some {γ : Type} {g : Option (nk_H × (γ ⊕ String))} {h1 : nk_H} {r : γ} (e : nk_st g = some (h1, r)) : g = some (h1, .inl r) := by
  cases g with
  | none => cases e
  | some x =>
    obtain ⟨h2, r2⟩ := x
    cases r2 with
    | inl v => cases e; rfl
    | inr E => cases e
def nk_nz (v : Int32) : Option Unit := if v = 0 then none else some ()
section NKY
variable {α : Type} {G : nk_G} {l : Launch} {own : String} {cc : ByteArray} {nL : Nat} {ret : Option FieldType} {fr lo : Nat} {ini : Bool} {en : α → Option Value ⊕ String} {pc : Nat} {lv : List (Nat × nk_V)} {st0 st : List nk_V} {h : nk_H}
theorem nk_goStI {g : Option (nk_H × (Int32 ⊕ String))} (go : nk_Go G l own cc nL ret fr lo ini pc lv st0 st h nk_eIt g) : nk_Go G l own cc nL ret fr lo ini pc lv st0 st h nk_eI (nk_st g) := fun h1 r e => go h1 (.inl r) (nk_st_some e)
theorem nk_goStV {g : Option (nk_H × (Unit ⊕ String))} (go : nk_Go G l own cc nL ret fr lo ini pc lv st0 st h nk_eVt g) : nk_Go G l own cc nL ret fr lo ini pc lv st0 st h nk_eV (nk_st g) := fun h1 r e => go h1 (.inl r) (nk_st_some e)
theorem nr_iremN {x y : Int32} {F : Unit → Option (nk_H × α)} (d : decode cc pc = .ok (.irem, 1)) (k : nk_Sim G l own cc nL ret fr lo ini en (pc + 1) lv (.inl (x - x / y * y) :: st) h (F ())) : nk_Sim G l own cc nL ret fr lo ini en pc lv (.inl y :: .inl x :: st) h ((nk_nz y).bind F) := by
  refine nk_bind (fun v hv => ?_)
  by_cases hy : y = 0
  · unfold nk_nz at hv
    rw [if_pos hy] at hv
    cases hv
  · exact nr_irem d hy k
end NKY
end
section
/-! ===== more rows: new objects, booleans' fields, stores of references, the lists' empty row, class objects, copies, grids ===== -/
section NKB
variable {α : Type} {G : nk_G} {l : Launch} {own : String} {cc : ByteArray} {nL : Nat} {ret : Option FieldType} {fr lo : Nat} {ini : Bool} {en : α → Option Value ⊕ String} {pc : Nat} {lv lv2 : List (Nat × nk_V)} {st : List nk_V} {h : nk_H} {f : Option (nk_H × α)}
theorem nr_newb {i w : Nat} (ci : Nat) {q : vw_C} {F : nk_H → Option (nk_H × α)} (hq : nk_cl[ci]? = some q) (d : decode cc pc = .ok (.new i, 3)) (w1 : Cond.classLink own i q.1 ∈ nk_T) (w2 : Cond.instantiable q.1 q.2.2 ∈ nk_T) (w3 : Cond.initialized q.1 ∈ nk_T) (hw : q.2.2 = w)
    (k : ∀ h1, nk_Sim G l own cc nL ret fr lo ini en (pc + 3) lv (.inr (some (nk_N h)) :: st) h1 (F h1)) : nk_Sim G l own cc nL ret fr lo ini en pc lv st h ((some (nk_al h (ci + 7) 0 w)).bind F) :=
  nr_new ci hq d w1 w2 w3 hw (k _)
/-- a boolean's field -/
def nk_pZ (ks : List Nat) (k : Nat) (h : nk_H) (p : Option Nat) (v : Int32) : Option nk_H := p.bind fun a => if nk_K h a ∈ ks ∧ (v = 0 ∨ v = 1) then some (nk_sI h a k v) else none
def nk_Fz (own : String) (ini : Bool) (k : Nat) : List Nat → Prop
  | [] => True
  | c :: t => (∀ (ci : Nat) (q : vw_C), c = ci + 7 → nk_cl[ci]? = some q → ((q.2.1 k).2.2.2 = false ∨ ((q.2.1 k).2.2.2 = true ∧ ini = true ∧ (q.2.1 k).1 = own)) ∧ parseFieldDescriptor (q.2.1 k).2.2.1 = some .boolean ∧ nk_rf ci k = false) ∧ nk_Fz own ini k t
theorem nk_Fz.get {k : Nat} {ks : List Nat} (h : nk_Fz own ini k ks) {c : Nat} (hc : c ∈ ks) : ∀ (ci : Nat) (q : vw_C), c = ci + 7 → nk_cl[ci]? = some q → ((q.2.1 k).2.2.2 = false ∨ ((q.2.1 k).2.2.2 = true ∧ ini = true ∧ (q.2.1 k).1 = own)) ∧ parseFieldDescriptor (q.2.1 k).2.2.1 = some .boolean ∧ nk_rf ci k = false := by
  induction ks with
  | nil => cases hc
  | cons d t ih =>
    rcases List.mem_cons.mp hc with rfl | hc
    · exact h.1
    · exact ih h.2 hc
theorem nr_putZ {i : Nat} (ks : List Nat) (k : Nat) {x : Option Nat} {v : Int32} {F : nk_H → Option (nk_H × α)} (d : decode cc pc = .ok (.putfield i, 3)) (w : nk_Fk own i k false ks) (w2 : nk_Fz own ini k ks) (kk : ∀ h1, nk_Sim G l own cc nL ret fr lo ini en (pc + 3) lv st h1 (F h1)) : nk_Sim G l own cc nL ret fr lo ini en pc lv (.inl v :: .inr x :: st) h ((nk_pZ ks k h x v).bind F) := by
  refine nk_bind (fun h1 hv => ?_)
  cases x with
  | none => cases hv
  | some a =>
    by_cases hm : nk_K h a ∈ ks ∧ (v = 0 ∨ v = 1)
    · have hv2 : nk_sI h a k v = h1 := Option.some.inj ((if_pos hm).symm.trans hv)
      subst hv2
      obtain ⟨ci, e1, hF, hrf⟩ := w.get hm.1
      refine nk_heap (nk_N_sI h a k v) (nk_S_sI h a k v) (fun p e R s m args below meth c H locs cells slots Q ls X hR hl hq k9 => ?_) (kk _)
      refine nk_wput (args := args) (ini := ini) (v := .int v) X.1 X.2.1 X.2.2.2.2.2.1 X.2.2.2.2.2.2.1 hR X.2.2.2.2.2.2.2.2.2.2.2.2 e1 hF (fun q hq9 => ?_) d (fun H1 i9 q hq9 z o hB => ?_)
      · obtain ⟨g1, g2, g3⟩ := w2.get hm.1 ci q e1 hq9
        refine ⟨g1, .boolean, g2, ?_⟩
        rcases hm.2 with rfl | rfl <;> exact ⟨by decide, by decide⟩
      · exact k9 H1 _ (nk_R_sI hR e1 hq9 hrf z o hB) (nk_fr_app hq (hR.2.2.2.2.1 a ci q e1 hq9).1)
    · exact absurd ((if_neg hm).symm.trans hv) (fun z => nomatch z)
/-- what an array of references may take: a Chain's, or any object's -/
def nk_okv (c : Nat) (h : nk_H) (v : Option Nat) : Bool := match v with
  | none => true
  | some y => if c = 3 then nk_K h y == 9 else decide (7 ≤ nk_K h y) && decide (nk_K h y ≤ 19)
def nk_wP (c : Nat) (h : nk_H) (p : Option Nat) (i : Int32) (v : Option Nat) : Option nk_H := p.bind fun a => if nk_K h a = c ∧ ¬ i < 0 ∧ i.toNatClampNeg < nk_L h a ∧ nk_okv c h v = true then some (nk_sP h a i.toNatClampNeg v) else none
def nk_Ob : List Cond := nk_cl.map fun q => Cond.castable q.1 "java/lang/Object"
theorem nk_ob : ∀ w ∈ nk_Ob, w ∈ nk_T := nk_ins [1151, 1160, 1147, 1161, 1159, 1158, 1152, 1149, 1150, 1156, 1157, 1148, 1148] (by decide +kernel) (by decide +kernel)
/-- the element's cell and class, and that the array may hold it -/
theorem nk_asg {s : State} {H : Heap} (c : Nat) (hc : c = 3 ∨ c = 4) (hKn : nk_Kn G s) (hR : nk_R G h H) {y : Nat} (hy : nk_okv c h (some y) = true) {comp : ClassId} (hcomp : s.vm.findClass (if c = 3 then "NotaryKiosk$Chain" else "java/lang/Object") = some comp) :
    ∃ cv : Cell, H[y]? = some cv ∧ cv.vm.isStatics = false ∧ (∃ kC, s.vm.classes[cv.cls]? = some kC) ∧ s.vm.assignable cv.cls comp = true := by
  rcases hc with rfl | rfl
  · have hk : nk_K h y = 2 + 7 := by simpa [nk_okv] using hy
    obtain ⟨cv, g1, g2, g3⟩ := nk_recv hKn hR hk (q := (RX1, TX1, 2)) rfl
    have hcls := (hKn.2.1.1 2 _ rfl).2
    have e1 : comp = (nk_gD G).1 2 := Option.some.inj (hcomp.symm.trans hcls.1)
    have e2 : cv.cls = (nk_gD G).1 2 := Option.some.inj (g3.symm.trans hcls.1)
    obtain ⟨kC, hkC, -⟩ := hcls.2
    exact ⟨cv, g1, g2, ⟨kC, by rw [e2]; exact hkC⟩, by rw [e1, e2]; exact va_assign hcls⟩
  · have hk : 7 ≤ nk_K h y ∧ nk_K h y ≤ 19 := by simpa [nk_okv] using hy
    obtain ⟨ci, hci⟩ : ∃ ci, nk_K h y = ci + 7 := ⟨nk_K h y - 7, by omega⟩
    have hlt : ci < nk_cl.length := by show ci < 13; omega
    obtain ⟨q, hq⟩ : ∃ q, nk_cl[ci]? = some q := ⟨nk_cl[ci], List.getElem?_eq_getElem hlt⟩
    obtain ⟨cv, g1, g2, g3⟩ := nk_recv hKn hR hci hq
    have hw : Cond.castable q.1 "java/lang/Object" ∈ nk_T := nk_ob _ (List.mem_map.mpr ⟨q, List.mem_of_getElem? hq, rfl⟩)
    obtain ⟨c0, t1, f1, f2, f3⟩ := Cond.castable_spec (hKn.use hw #[])
    cases g3.symm.trans f1
    cases hcomp.symm.trans f2
    obtain ⟨kC, hkC, -⟩ := Vm.findClass_spec g3
    exact ⟨cv, g1, g2, ⟨kC, hkC⟩, f3⟩
theorem nr_aastore (c : Nat) (hc : c = 3 ∨ c = 4) {x v : Option Nat} {i : Int32} {F : nk_H → Option (nk_H × α)} (d : decode cc pc = .ok (.aastore, 1)) (kk : ∀ h1, nk_Sim G l own cc nL ret fr lo ini en (pc + 1) lv st h1 (F h1)) : nk_Sim G l own cc nL ret fr lo ini en pc lv (.inr v :: .inl i :: .inr x :: st) h ((nk_wP c h x i v).bind F) := by
  refine nk_bind (fun h1 hv => ?_)
  cases x with
  | none => cases hv
  | some a =>
    by_cases hm : nk_K h a = c ∧ ¬ i < 0 ∧ i.toNatClampNeg < nk_L h a ∧ nk_okv c h v = true
    · have hv2 : nk_sP h a i.toNatClampNeg v = h1 := Option.some.inj ((if_pos hm).symm.trans hv)
      subst hv2
      obtain ⟨hk, h0, hlt, hok⟩ := hm
      refine nk_heap (nk_N_sP h a _ v) (nk_S_sP h a _ v) (fun p e R s m args below meth cd H locs cells slots Q ls X hR hl hq k9 => ?_) (kk _)
      have hKn := X.2.2.2.2.2.2.1
      have h36 : 3 ≤ nk_K h a ∧ nk_K h a ≤ 5 := by omega
      have hA := hR.2.2.2.1 a (by omega) (by omega)
      have hcell := hA.2.2
      have fin : ∀ (H1 : Heap) (i9 : Nat), H1[a]? = some ((arrV (nk_gA G (nk_K h a)) (nk_L h a) (nk_el h (nk_K h a) a)).setSlot i.toNatClampNeg (va_rf v)) → H1.size = H.size → (∀ q, q ≠ a → H1[q]? = H[q]?) → W p l e R s m args below meth cd H1 (locs ++ [⟨a, i9⟩]) cells slots Q (F0 m (pc + 1) ls (nk_vs st)) := by
        intro H1 i9 e1 z o
        rw [arrV_store] at e1
        exact k9 H1 _ (nk_R_aP hR h36.1 h36.2 z o e1) (nk_fr_app hq hA.1)
      have hin : ¬ (i < 0 ∨ (arrV (nk_gA G (nk_K h a)) (nk_L h a) (nk_el h (nk_K h a) a)).slots.size ≤ i.toNatClampNeg) := by rw [arrV_size]; exact fun q => q.elim h0 (Nat.not_le.mpr hlt)
      have hT : ∃ E : String, E = (if c = 3 then "NotaryKiosk$Chain" else "java/lang/Object") ∧ ArrOfT s (nk_gA G (nk_K h a)) (.object E) ∧ va_RA s (nk_gA G (nk_K h a)) (.object E) := by
        rw [hk]
        rcases hc with rfl | rfl
        · exact ⟨_, rfl, nk_tyAt hKn 2 rfl⟩
        · exact ⟨_, rfl, nk_tyAt hKn 3 rfl⟩
      obtain ⟨E, hE, t1, t2⟩ := hT
      cases v with
      | none => exact va_WaastN (C := E) X.1 X.2.1 hcell (t1 _ _) (fun q => by cases q) hin rfl rfl d fun H1 e1 z o => fin H1 _ e1 z o
      | some y =>
        obtain ⟨kA, comp, k1, k2, k3, -⟩ := t2
        obtain ⟨kE, hkE, -⟩ := Vm.findClass_spec k3
        obtain ⟨cv, g1, g2, ⟨kC, hkC⟩, g4⟩ := nk_asg c hc hKn hR hok (by rw [← hE]; exact k3)
        exact W.aast X.1 X.2.1 hcell (fun q h => by cases h) (fun h => by cases h) k1 k2 rfl hkE ⟨h0, by rw [arrV_size]; exact hlt⟩ g1 (fun q h => by rw [h] at g2; cases g2) hkC g4 rfl rfl d fun H1 e1 z o => fin H1 _ e1 z o
    · exact absurd ((if_neg hm).symm.trans hv) (fun z => nomatch z)
/-- the static empty row of the lists -/
theorem nr_gete {i : Nat} (d : decode cc pc = .ok (.getstatic i, 3)) (w : Cond.fieldLink own i "java/util/ArrayList" "DEFAULTCAPACITY_EMPTY_ELEMENTDATA" "[Ljava/lang/Object;" ∈ nk_T) (kk : nk_Sim G l own cc nL ret fr lo ini en (pc + 3) lv (.inr (some (nk_E h)) :: st) h f) : nk_Sim G l own cc nL ret fr lo ini en pc lv st h f := by
  intro h' r hf
  obtain ⟨k1, k2, k3⟩ := kk h' r hf
  refine ⟨k1, k2, fun p e R s m args below meth c X sb b1 b2 b3 b4 H ls locs hR hl hq => ?_⟩
  have hKn := X.2.2.2.2.2.2.1
  have hkeep : ∀ a : Nat, a < (nk_gH G).size → ¬ nk_fr G a → s.heap[a]? = (nk_gH G)[a]? := fun a ha _ => X.2.2.2.2.2.2.2.1.2 a ha
  refine va_gets X.1 X.2.1 (va_Z.kept hKn.2.2.2.2.2.2.1 hkeep) (nk_vaS X hR b1 hq) X.2.2.2.2.2.1 (hKn.use w args) (fun x hx => hx) d ?_
  rw [← hR.2.2.2.2.2.2.1]
  exact k3 p e R s m args below meth c X sb b1 b2 b3 b4 H ls locs hR hl hq
/-- the class object of Object[] -/
theorem nr_ldcM {i : Nat} (d : decode cc pc = .ok (.ldc i, 2)) (w : Cond.classLink own i "[Ljava/lang/Object;" ∈ nk_T) (kk : nk_Sim G l own cc nL ret fr lo ini en (pc + 2) lv (.inr (some (nk_M h)) :: st) h f) : nk_Sim G l own cc nL ret fr lo ini en pc lv st h f :=
  nk_pure (fun p e R s m args below meth c H locs cells slots Q ls X hR hl k9 => by
    have hKn := X.2.2.2.2.2.2.1
    have hM := hKn.2.2.2.2.2.2.2.2.2.2.1
    refine va_ldcM X.1 X.2.1 X.2.2.2.2.2.1 (hKn.use w args) hM d ?_
    rw [← hR.2.2.2.2.2.2.2]
    exact k9 ls hl) kk
/-- the class object of an Object[] -/
def nk_gc (h : nk_H) (p : Option Nat) : Option (Option Nat) := p.bind fun a => if nk_K h a = 4 then some (some (nk_M h)) else none
theorem nr_getC {i : Nat} {x : Option Nat} {F : Option Nat → Option (nk_H × α)} (d : decode cc pc = .ok (.invokevirtual i, 3)) (w : Cond.methodLink own i ⟨"java/lang/Object", "getClass", "()Ljava/lang/Class;"⟩ ∈ nk_T)
    (w1 : Cond.declares ⟨"java/lang/Object", "getClass", "()Ljava/lang/Class;"⟩ ∈ nk_T) (w2 : Cond.selects "[Ljava/lang/Object;" ⟨"java/lang/Object", "getClass", "()Ljava/lang/Class;"⟩ ⟨"java/lang/Object", "getClass", "()Ljava/lang/Class;"⟩ ∈ nk_T) (w3 : Cond.instanceMethod ⟨"java/lang/Object", "getClass", "()Ljava/lang/Class;"⟩ ∈ nk_T) (w4 : Cond.native ⟨"java/lang/Object", "getClass", "()Ljava/lang/Class;"⟩ ∈ nk_T)
    (hfr : 1 ≤ fr) (hlo : st.length + 14 ≤ lo) (kk : ∀ v, nk_Sim G l own cc nL ret fr lo ini en (pc + 3) lv (.inr v :: st) h (F v)) : nk_Sim G l own cc nL ret fr lo ini en pc lv (.inr x :: st) h ((nk_gc h x).bind F) := by
  refine nk_bind (fun v hv => nk_pure (fun p e R s m args below meth c H locs cells slots Q ls X hR hl k9 => ?_) (kk v))
  cases x with
  | none => cases hv
  | some a =>
    by_cases hm : nk_K h a = 4
    · have hv2 : some (nk_M h) = v := Option.some.inj ((if_pos hm).symm.trans hv)
      have hKn := X.2.2.2.2.2.2.1
      have g1 : fr ≤ R.frames := X.2.2.2.2.2.2.2.2.1
      have g2 : lo ≤ R.locals := X.2.2.2.2.2.2.2.2.2.1
      have hcell := (hR.2.2.2.1 a (by omega) (by omega)).2.2
      rw [hm] at hcell
      have hnm : s.vm.findClass "[Ljava/lang/Object;" = some (nk_gA G 4) := va_nmO (nk_tyAt hKn 3 rfl).2 (by decide +kernel)
      refine va_getC X.1 X.2.1 (by rw [X.2.2.1]; exact hl.1.symm) X.2.2.2.2.2.1 (hKn.use w args) (hKn.use w1 args) (hKn.use w2 args) (hKn.use w3 args) (hKn.use w4 args) hKn.2.2.2.2.2.2.2.2.2.2.1 ⟨_, hcell, rfl, hnm⟩ (by omega) (by show ((nk_vs st).map fun v => v.category).sum + 14 ≤ R.locals; rw [nk_sum]; omega) d ?_
      rw [← hR.2.2.2.2.2.2.2]
      rw [← hv2] at k9
      exact k9 ls hl
    · exact absurd ((if_neg hm).symm.trans hv) (fun z => nomatch z)
/-- copies between arrays -/
def nk_cI (h : nk_H) (a : Nat) (f : Nat → Int32) : nk_H := (h.1, nk_u1 h.2.1 a f, h.2.2)
def nk_cP (h : nk_H) (a : Nat) (f : Nat → Option Nat) : nk_H := (h.1, h.2.1, nk_u1 h.2.2.1 a f, h.2.2.2)
def nk_rg (h : nk_H) (a0 a : Nat) (sp dp n : Int32) : Bool := !decide (sp < 0) && !decide (dp < 0) && !decide (n < 0) && decide (sp.toNatClampNeg + n.toNatClampNeg ≤ nk_L h a0) && decide (dp.toNatClampNeg + n.toNatClampNeg ≤ nk_L h a)
def nk_cpI (h : nk_H) (p0 : Option Nat) (sp : Int32) (p : Option Nat) (dp n : Int32) : Option nk_H := p0.bind fun a0 => p.bind fun a => if nk_K h a0 = 1 ∧ nk_K h a = 1 ∧ a0 ≠ a ∧ nk_rg h a0 a sp dp n = true then some (nk_cI h a (va_cpy (nk_I h a0) (nk_I h a) sp.toNatClampNeg dp.toNatClampNeg n.toNatClampNeg)) else none
def nk_cpP (h : nk_H) (p0 : Option Nat) (sp : Int32) (p : Option Nat) (dp n : Int32) : Option nk_H := p0.bind fun a0 => p.bind fun a => if nk_K h a0 = 4 ∧ nk_K h a = 4 ∧ a0 ≠ a ∧ nk_rg h a0 a sp dp n = true ∧ (List.range n.toNatClampNeg).all (fun j => nk_okv 4 h (nk_P h a0 (sp.toNatClampNeg + j))) = true then some (nk_cP h a (va_cpy (nk_P h a0) (nk_P h a) sp.toNatClampNeg dp.toNatClampNeg n.toNatClampNeg)) else none
theorem nk_toI {z : Int32} (hz : ¬ z < 0) : z.toInt = (z.toNatClampNeg : Int) := by
  have hz0 : (0 : Int) ≤ z.toInt := by
    have := Int32.not_lt.mp hz
    simpa using Int32.le_iff_toInt_le.mp this
  show z.toInt = ((z.toInt.toNat : Nat) : Int)
  omega
/-- a copy's step -/
theorem nk_acpy {p : Program} {e : Env} {R : Room} {s : State} {m : MethodId} {args : Array Value} {below : List Frame} {meth : Method} {c : Code} {H : Heap} {locs : List Loc} {cells slots : Nat} {Q : State → Prop} {ls : Array Slot} {i : Nat} (X : nk_X G l own cc nL ret fr lo ini p R s m meth c) (hls : ls.size = nL) {kd : Nat} (hkd : kd = 1 ∨ kd = 4) {a0 a n0 n1 : Nat} {f g : Nat → Value} {sp dp n : Int32}
    (w1 : Cond.methodLink own i arraycopyName ∈ nk_T) (w2 : Cond.native arraycopyName ∈ nk_T) (w3 : Cond.static arraycopyName ∈ nk_T) (w4 : Cond.initialized "java/lang/System" ∈ nk_T)
    (hc0 : H[a0]? = some (arrV (nk_gA G kd) n0 f)) (hc1 : H[a]? = some (arrV (nk_gA G kd) n1 g)) (h1 : ¬ sp < 0) (h2 : ¬ dp < 0) (h3 : ¬ n < 0) (h4 : sp.toNatClampNeg + n.toNatClampNeg ≤ n0) (h5 : dp.toNatClampNeg + n.toNatClampNeg ≤ n1)
    (hel : ∀ j, j < n.toNatClampNeg → (kd = 1 ∧ ∃ x, f (sp.toNatClampNeg + j) = .int x) ∨ (kd = 4 ∧ (f (sp.toNatClampNeg + j) = .null ∨ ∃ y : Nat, f (sp.toNatClampNeg + j) = .ref y ∧ ∃ cv : Cell, H[y]? = some cv ∧ cv.vm.isStatics = false ∧ (∃ kC, s.vm.classes[cv.cls]? = some kC) ∧ ∀ comp, s.vm.findClass "java/lang/Object" = some comp → s.vm.assignable cv.cls comp = true)))
    (hfr : 1 ≤ fr) (hlo : st.length + 24 ≤ lo) (d : decode cc pc = .ok (.invokestatic i, 3))
    (kk : ∀ (H1 : Heap) (locs1 : List Loc), H1[a]? = some (arrV (nk_gA G kd) n1 (va_cpy f g sp.toNatClampNeg dp.toNatClampNeg n.toNatClampNeg)) → H1.size = H.size → (∀ q, q ≠ a → H1[q]? = H[q]?) → (∀ z ∈ locs1, z ∈ locs ∨ z.base = a) → W p l e R s m args below meth c H1 locs1 cells slots Q (F0 m (pc + 3) ls (nk_vs st))) :
    W p l e R s m args below meth c H locs cells slots Q (F0 m pc ls (.int n :: .int dp :: .ref a :: .int sp :: .ref a0 :: nk_vs st)) := by
  have hKn := X.2.2.2.2.2.2.1
  have g1 : fr ≤ R.frames := X.2.2.2.2.2.2.2.2.1
  have g2 : lo ≤ R.locals := X.2.2.2.2.2.2.2.2.2.1
  have hT9 : ∃ ty : FieldType, ArrOfT s (nk_gA G kd) ty ∧ va_RA s (nk_gA G kd) ty ∧ ((kd = 1 ∧ ty = .int) ∨ (kd = 4 ∧ ty = .object "java/lang/Object")) := by
    rcases hkd with rfl | rfl
    · exact ⟨_, (nk_tyAt hKn 0 rfl).1, (nk_tyAt hKn 0 rfl).2, Or.inl ⟨rfl, rfl⟩⟩
    · exact ⟨_, (nk_tyAt hKn 3 rfl).1, (nk_tyAt hKn 3 rfl).2, Or.inr ⟨rfl, rfl⟩⟩
  obtain ⟨ty, hArr, hRA, hty⟩ := hT9
  obtain ⟨-, k0, hk0, cm0, hkk0⟩ := hArr n0 f
  obtain ⟨-, k1, hk1, cm1, hkk1⟩ := hArr n1 g
  intro T hT X9
  obtain ⟨vm', X', step⟩ := X9.arraycopy X.1 X.2.2.2.2.2.1 (hKn.use w1 args) (hKn.use w2 args) (hKn.use w3 args) (hKn.use w4 args) (src := a0) (dst := a) (cs := arrV (nk_gA G kd) n0 f) (cd := arrV (nk_gA G kd) n1 g) (srcPos := sp) (destPos := dp) (n := n) (by rw [hT]; exact hc0) (by rw [hT]; exact hc1)
    (fun _ h => by cases h) (fun _ h => by cases h) (fun h => by cases h) (fun h => by cases h) hk0 hk1 hkk0 hkk1 (by rcases hty with ⟨-, rfl⟩ | ⟨-, rfl⟩ <;> rfl) h1 h2 h3
    (by rw [nk_toI h1, nk_toI h3, arrV_size]; omega)
    (by rw [nk_toI h2, nk_toI h3, arrV_size]; omega)
    (fun vm₁ hal j hj => by
      have e : (arrV (nk_gA G kd) n0 f).slots.getD (sp.toNatClampNeg + j) .null = f (sp.toNatClampNeg + j) := by
        rw [Array.getD_eq_getD_getElem?, arrV_read _ _ (by omega)]
        rfl
      rw [e]
      rcases hel j hj with ⟨e1, x, e2⟩ | ⟨e1, hv⟩
      · rcases hty with ⟨-, rfl⟩ | ⟨e3, -⟩
        · rw [e2]; exact ⟨rfl, trivial⟩
        · omega
      · rcases hty with ⟨e3, -⟩ | ⟨-, rfl⟩
        · omega
        · rcases hv with e2 | ⟨y, e2, cv, q1, q2, ⟨kC, hkC⟩, q4⟩
          · rw [e2]; exact ⟨rfl, trivial⟩
          · rw [e2]
            obtain ⟨kA, comp, r1, r2, r3, -⟩ := hRA
            cases hk1.symm.trans r1
            cases hkk1.symm.trans r2
            obtain ⟨kE, hkE, -⟩ := Vm.findClass_spec r3
            obtain ⟨kC', hkC', -⟩ := hal.2.2 _ _ hkC
            obtain ⟨kE', hkE', -⟩ := hal.2.2 _ _ hkE
            refine ⟨rfl, cv, (show T.heap[y]? = some cv by rw [hT]; exact q1), (fun q h => by rw [h] at q2; cases q2), ⟨kC', hkC'⟩, ?_, ?_⟩
            · exact ⟨kE', hkE'⟩
            · show vm₁.assignable _ _ = true
              rw [hal.assignable]
              exact q4 _ r3)
    (g := F0 m pc ls (.int n :: .int dp :: .ref a :: .int sp :: .ref a0 :: nk_vs st)) rfl (by rw [X.2.2.1]; exact hls) (rest := nk_vs st) rfl (by rw [X.2.1]; exact d) (by omega) (by
      have hw : nativeFrameWords "java/lang/System" "arraycopy" 5 + 11 ≤ 24 := by decide
      show 2 * 0 + ((nk_vs st).map fun v => v.category).sum + _ ≤ _
      rw [nk_sum]
      omega)
  have e1 : copied (arrV (nk_gA G kd) n0 f) (arrV (nk_gA G kd) n1 g) sp dp n = arrV (nk_gA G kd) n1 (va_cpy f g sp.toNatClampNeg dp.toNatClampNeg n.toNatClampNeg) := va_copied (fun z => z) _ _ f g h4
  rw [e1] at X' step
  have hlt : a < H.size := (Array.getElem?_eq_some_iff.mp hc1).1
  have hheap : ((T.setVm vm').setCell a (arrV (nk_gA G kd) n1 (va_cpy f g sp.toNatClampNeg dp.toNatClampNeg n.toNatClampNeg))).heap = H.setIfInBounds a (arrV (nk_gA G kd) n1 (va_cpy f g sp.toNatClampNeg dp.toNatClampNeg n.toNatClampNeg)) := by rw [← hT]; rfl
  obtain ⟨t, a1, b1⟩ := kk _ _ (by simp [Array.getElem?_setIfInBounds, hlt]) (by simp) (fun q hq => by simp [Array.getElem?_setIfInBounds, Ne.symm hq]) (fun z hz => by
    rcases List.mem_append.mp hz with h | h
    · exact Or.inl h
    · obtain ⟨z9, -, hz9⟩ := List.mem_map.mp h
      exact Or.inr (by rw [← hz9])) _ hheap X'
  exact ⟨t, step t a1, b1⟩
theorem nk_rg_spec {h : nk_H} {a0 a : Nat} {sp dp n : Int32} (hr : nk_rg h a0 a sp dp n = true) : ¬ sp < 0 ∧ ¬ dp < 0 ∧ ¬ n < 0 ∧ sp.toNatClampNeg + n.toNatClampNeg ≤ nk_L h a0 ∧ dp.toNatClampNeg + n.toNatClampNeg ≤ nk_L h a := by
  unfold nk_rg at hr
  simp only [Bool.and_eq_true, decide_eq_true_eq, Bool.not_eq_true', decide_eq_false_iff_not] at hr
  obtain ⟨⟨⟨⟨a1, a2⟩, a3⟩, a4⟩, a5⟩ := hr
  exact ⟨a1, a2, a3, a4, a5⟩
theorem nr_acpI {i : Nat} {x0 x : Option Nat} {sp dp n : Int32} {F : nk_H → Option (nk_H × α)} (d : decode cc pc = .ok (.invokestatic i, 3)) (w1 : Cond.methodLink own i arraycopyName ∈ nk_T) (w2 : Cond.native arraycopyName ∈ nk_T) (w3 : Cond.static arraycopyName ∈ nk_T) (w4 : Cond.initialized "java/lang/System" ∈ nk_T) (hfr : 1 ≤ fr) (hlo : st.length + 24 ≤ lo)
    (kk : ∀ h1, nk_Sim G l own cc nL ret fr lo ini en (pc + 3) lv st h1 (F h1)) : nk_Sim G l own cc nL ret fr lo ini en pc lv (.inl n :: .inl dp :: .inr x :: .inl sp :: .inr x0 :: st) h ((nk_cpI h x0 sp x dp n).bind F) := by
  refine nk_bind (fun h1 hv => ?_)
  cases x0 with
  | none => cases hv
  | some a0 =>
  cases x with
  | none => cases hv
  | some a =>
    by_cases hm : nk_K h a0 = 1 ∧ nk_K h a = 1 ∧ a0 ≠ a ∧ nk_rg h a0 a sp dp n = true
    · have hv2 := Option.some.inj ((if_pos hm).symm.trans hv)
      subst hv2
      obtain ⟨m1, m2, m3, m4⟩ := hm
      obtain ⟨r1, r2, r3, r4, r5⟩ := nk_rg_spec m4
      refine nk_heap (h1 := nk_cI h a (va_cpy (nk_I h a0) (nk_I h a) sp.toNatClampNeg dp.toNatClampNeg n.toNatClampNeg)) (pc' := pc + 3) (st' := st) rfl rfl (fun p e R s m args below meth c H locs cells slots Q ls X hR hl hq k9 => ?_) (kk _)
      have hA0 := hR.2.2.2.1 a0 (by omega) (by omega)
      have hA1 := hR.2.2.2.1 a (by omega) (by omega)
      have c0 := hA0.2.2
      have c1 := hA1.2.2
      rw [m1] at c0
      rw [m2] at c1
      refine nk_acpy (kd := 1) X hl.1 (Or.inl rfl) w1 w2 w3 w4 c0 c1 r1 r2 r3 r4 r5 (fun j _ => Or.inl ⟨rfl, _, rfl⟩) hfr hlo d (fun H1 locs1 e1 z o hz => k9 H1 locs1 ?_ (fun q hq9 => (hz q hq9).elim (hq q) (fun e9 => by rw [e9]; exact hA1.1)))
      refine nk_R1 (a := a) hR ⟨rfl, rfl⟩ rfl rfl rfl (fun x j e => congrFun (nk_u1_ne _ _ _ e) j) (fun _ _ _ => rfl) z o hA1.1 (fun _ _ => ?_) (fun ci q h9 _ => by omega)
      rw [e1, m2]
      congr 2
      funext j
      show va_cpy (nk_el h 1 a0) (nk_el h 1 a) _ _ _ j = Value.int (nk_u1 (nk_I h) a _ a j)
      rw [nk_u1_eq]
      unfold va_cpy
      by_cases e9 : dp.toNatClampNeg ≤ j ∧ j < dp.toNatClampNeg + n.toNatClampNeg
      · rw [if_pos e9, if_pos e9]; rfl
      · rw [if_neg e9, if_neg e9]; rfl
    · exact absurd ((if_neg hm).symm.trans hv) (fun z => nomatch z)
theorem nr_acpP {i : Nat} {x0 x : Option Nat} {sp dp n : Int32} {F : nk_H → Option (nk_H × α)} (d : decode cc pc = .ok (.invokestatic i, 3)) (w1 : Cond.methodLink own i arraycopyName ∈ nk_T) (w2 : Cond.native arraycopyName ∈ nk_T) (w3 : Cond.static arraycopyName ∈ nk_T) (w4 : Cond.initialized "java/lang/System" ∈ nk_T) (hfr : 1 ≤ fr) (hlo : st.length + 24 ≤ lo)
    (kk : ∀ h1, nk_Sim G l own cc nL ret fr lo ini en (pc + 3) lv st h1 (F h1)) : nk_Sim G l own cc nL ret fr lo ini en pc lv (.inl n :: .inl dp :: .inr x :: .inl sp :: .inr x0 :: st) h ((nk_cpP h x0 sp x dp n).bind F) := by
  refine nk_bind (fun h1 hv => ?_)
  cases x0 with
  | none => cases hv
  | some a0 =>
  cases x with
  | none => cases hv
  | some a =>
    by_cases hm : nk_K h a0 = 4 ∧ nk_K h a = 4 ∧ a0 ≠ a ∧ nk_rg h a0 a sp dp n = true ∧ (List.range n.toNatClampNeg).all (fun j => nk_okv 4 h (nk_P h a0 (sp.toNatClampNeg + j))) = true
    · have hv2 := Option.some.inj ((if_pos hm).symm.trans hv)
      subst hv2
      obtain ⟨m1, m2, m3, m4, m5⟩ := hm
      obtain ⟨r1, r2, r3, r4, r5⟩ := nk_rg_spec m4
      refine nk_heap (h1 := nk_cP h a (va_cpy (nk_P h a0) (nk_P h a) sp.toNatClampNeg dp.toNatClampNeg n.toNatClampNeg)) (pc' := pc + 3) (st' := st) rfl rfl (fun p e R s m args below meth c H locs cells slots Q ls X hR hl hq k9 => ?_) (kk _)
      have hKn := X.2.2.2.2.2.2.1
      have hA0 := hR.2.2.2.1 a0 (by omega) (by omega)
      have hA1 := hR.2.2.2.1 a (by omega) (by omega)
      have c0 := hA0.2.2
      have c1 := hA1.2.2
      rw [m1] at c0
      rw [m2] at c1
      refine nk_acpy (kd := 4) X hl.1 (Or.inr rfl) w1 w2 w3 w4 c0 c1 r1 r2 r3 r4 r5 (fun j hj => Or.inr ⟨rfl, ?_⟩) hfr hlo d (fun H1 locs1 e1 z o hz => k9 H1 locs1 ?_ (fun q hq9 => (hz q hq9).elim (hq q) (fun e9 => by rw [e9]; exact hA1.1)))
      · have h9 := List.all_eq_true.mp m5 j (List.mem_range.mpr hj)
        have e9 : nk_el h 4 a0 (sp.toNatClampNeg + j) = va_rf (nk_P h a0 (sp.toNatClampNeg + j)) := rfl
        rw [e9]
        cases hy : nk_P h a0 (sp.toNatClampNeg + j) with
        | none => exact Or.inl rfl
        | some y =>
          rw [hy] at h9
          refine Or.inr ⟨y, rfl, ?_⟩
          obtain ⟨kA, comp, k1, k2, k3, -⟩ := (nk_tyAt hKn 3 rfl).2
          obtain ⟨cv, q1, q2, q3, q4⟩ := nk_asg 4 (Or.inr rfl) hKn hR h9 (comp := comp) k3
          exact ⟨cv, q1, q2, q3, fun comp9 h8 => by
            cases k3.symm.trans h8
            exact q4⟩
      · refine nk_R1 (a := a) hR ⟨rfl, rfl⟩ rfl rfl rfl (fun _ _ _ => rfl) (fun x j e => congrFun (nk_u1_ne _ _ _ e) j) z o hA1.1 (fun _ _ => ?_) (fun ci q h9 _ => by omega)
        rw [e1, m2]
        congr 2
        funext j
        show va_cpy (nk_el h 4 a0) (nk_el h 4 a) _ _ _ j = va_rf (nk_u1 (nk_P h) a _ a j)
        rw [nk_u1_eq]
        unfold va_cpy
        by_cases e9 : dp.toNatClampNeg ≤ j ∧ j < dp.toNatClampNeg + n.toNatClampNeg
        · rw [if_pos e9, if_pos e9]; rfl
        · rw [if_neg e9, if_neg e9]; rfl
    · exact absurd ((if_neg hm).symm.trans hv) (fun z => nomatch z)
/-- a grid of ints: its outer row, then its inner rows -/
def nk_mn (h : nk_H) (n k : Nat) : nk_H :=
  (fun x => if x = nk_N h then 5 else if nk_N h < x ∧ x ≤ nk_N h + n then 1 else nk_K h x,
   fun x j => if nk_N h ≤ x ∧ x ≤ nk_N h + n then 0 else nk_I h x j,
   fun x j => if x = nk_N h then (if j < n then some (nk_N h + 1 + j) else none) else if nk_N h < x ∧ x ≤ nk_N h + n then none else nk_P h x j,
   fun x => if x = nk_N h then n else if nk_N h < x ∧ x ≤ nk_N h + n then k else nk_L h x,
   nk_N h + 1 + n, nk_S h + n + n * k, nk_E h, nk_M h)
def nk_mna (h : nk_H) (n k : Int32) : Option nk_H := if ¬ n < 0 ∧ ¬ k < 0 ∧ n.toNatClampNeg ≤ 65536 ∧ k.toNatClampNeg ≤ 65536 then some (nk_mn h n.toNatClampNeg k.toNatClampNeg) else none
theorem nk_R_mn {n k : Nat} {H H1 : Heap} (hR : nk_R G h H) (z : H1.size = H.size + 1 + n) (o : ∀ x : Nat, x < H.size → H1[x]? = H[x]?)
    (e1 : H1[H.size]? = some (arrV (nk_gA G 5) n (fun j => va_rf (if j < n then some (H.size + 1 + j) else none)))) (e2 : ∀ j, j < n → H1[H.size + 1 + j]? = some (arrV (nk_gA G 1) k (fun _ => .int 0))) : nk_R G (nk_mn h n k) H1 := by
  obtain ⟨r1, r2, r3, r4, r5, r6⟩ := hR
  rw [r1] at z o e1 e2
  have hN : nk_N (nk_mn h n k) = nk_N h + 1 + n := rfl
  have hK : ∀ x, nk_K (nk_mn h n k) x = if x = nk_N h then 5 else if nk_N h < x ∧ x ≤ nk_N h + n then 1 else nk_K h x := fun _ => rfl
  have hL : ∀ x, nk_L (nk_mn h n k) x = if x = nk_N h then n else if nk_N h < x ∧ x ≤ nk_N h + n then k else nk_L h x := fun _ => rfl
  have hI : ∀ x j, nk_I (nk_mn h n k) x j = if nk_N h ≤ x ∧ x ≤ nk_N h + n then 0 else nk_I h x j := fun _ _ => rfl
  have hP : ∀ x j, nk_P (nk_mn h n k) x j = if x = nk_N h then (if j < n then some (nk_N h + 1 + j) else none) else if nk_N h < x ∧ x ≤ nk_N h + n then none else nk_P h x j := fun _ _ => rfl
  refine ⟨by rw [z, hN], by rw [hN]; omega, fun x hx => by rw [o x (by omega)]; exact r3 x hx, fun x h1 h2 => ?_, fun x ci q h1 h2 => ?_, ⟨fun x hx => ?_, r6.2.1, r6.2.2⟩⟩
  · by_cases c1 : x = nk_N h
    · subst c1
      rw [hK, if_pos rfl, hL, if_pos rfl, e1]
      refine ⟨r2, by rw [hN]; omega, ?_⟩
      congr 2
      funext j
      show _ = va_rf (nk_P (nk_mn h n k) (nk_N h) j)
      rw [hP, if_pos rfl]
    · by_cases c2 : nk_N h < x ∧ x ≤ nk_N h + n
      · obtain ⟨j, rfl⟩ : ∃ j, x = nk_N h + 1 + j := ⟨x - nk_N h - 1, by omega⟩
        rw [hK, if_neg c1, if_pos c2, hL, if_neg c1, if_pos c2, e2 j (by omega)]
        refine ⟨by omega, by rw [hN]; omega, ?_⟩
        congr 2
        funext i
        show _ = Value.int (nk_I (nk_mn h n k) (nk_N h + 1 + j) i)
        rw [hI, if_pos (by omega)]
      · rw [hK, if_neg c1, if_neg c2] at h1 h2 ⊢
        obtain ⟨q1, q2, q3⟩ := r4 x h1 h2
        rw [hL, if_neg c1, if_neg c2, o x q2, q3]
        refine ⟨q1, by rw [hN]; omega, ?_⟩
        rw [nk_el_other (h1 := nk_mn h n k) (h := h) (a := x) _ (fun j => by rw [hI, if_neg (by omega)]) (fun j => by rw [hP, if_neg c1, if_neg c2])]
  · by_cases c1 : x = nk_N h
    · rw [hK, if_pos c1] at h1; omega
    · by_cases c2 : nk_N h < x ∧ x ≤ nk_N h + n
      · rw [hK, if_neg c1, if_pos c2] at h1; omega
      · rw [hK, if_neg c1, if_neg c2] at h1
        obtain ⟨q1, q2, q3⟩ := r5 x ci q h1 h2
        refine ⟨q1, by rw [hN]; omega, ?_⟩
        rw [nk_fv_other (h1 := nk_mn h n k) (h := h) (a := x) _ (fun j => by rw [hI, if_neg (by omega)]) (fun j => by rw [hP, if_neg c1, if_neg c2])]
        exact q3.kept (o x q2)
  · by_cases c1 : x = nk_N h
    · rw [hK, if_pos c1] at hx; omega
    · by_cases c2 : nk_N h < x ∧ x ≤ nk_N h + n
      · rw [hK, if_neg c1, if_pos c2] at hx; omega
      · rw [hK, if_neg c1, if_neg c2] at hx
        exact r6.1 x hx
theorem nr_grid {i : Nat} {n k : Int32} {F : nk_H → Option (nk_H × α)} (d : decode cc pc = .ok (.multianewarray i 2, 4)) (w : Cond.classLink own i "[[I" ∈ nk_T) (w1 : Cond.arrayClass .int ∈ nk_T)
    (kk : ∀ h1, nk_Sim G l own cc nL ret fr lo ini en (pc + 4) lv (.inr (some (nk_N h)) :: st) h1 (F h1)) : nk_Sim G l own cc nL ret fr lo ini en pc lv (.inl k :: .inl n :: st) h ((nk_mna h n k).bind F) := by
  refine nk_bind (fun h1 hv => ?_)
  by_cases hm : ¬ n < 0 ∧ ¬ k < 0 ∧ n.toNatClampNeg ≤ 65536 ∧ k.toNatClampNeg ≤ 65536
  · have hv2 : nk_mn h n.toNatClampNeg k.toNatClampNeg = h1 := Option.some.inj ((if_pos hm).symm.trans hv)
    subst hv2
    obtain ⟨m1, m2, m3, m4⟩ := hm
    intro h' r hf
    obtain ⟨k1, k2, k3⟩ := kk _ h' r hf
    have eN : nk_N (nk_mn h n.toNatClampNeg k.toNatClampNeg) = nk_N h + 1 + n.toNatClampNeg := rfl
    have eS : nk_S (nk_mn h n.toNatClampNeg k.toNatClampNeg) = nk_S h + n.toNatClampNeg + n.toNatClampNeg * k.toNatClampNeg := rfl
    rw [eN] at k1 k3
    rw [eS] at k2 k3
    refine ⟨by omega, by omega, fun p e R s m args below meth c X sb b1 b2 b3 b4 H ls locs hR hl hq => ?_⟩
    have hKn := X.2.2.2.2.2.2.1
    intro T hT X9
    obtain ⟨vm₁, cA, comp, -, fA, fC, hO, -, X', step⟩ := X9.multianewarray2F (ty := .int) X.1 X.2.2.2.2.2.1 (hKn.use w args) (by
        have h8 : nk_AOA s := hKn.2.2.1.2.2
        simpa [nk_AOA, Cond.before, Cond.holds, Cond.value] using h8) (hKn.use w1 args) (g := F0 m pc ls (.int k :: .int n :: nk_vs st)) rfl (by rw [X.2.1]; exact d) rfl m1 m2 (Nat.le_trans (Nat.mul_le_mul_right 4 m3) (Nat.le_of_ble_eq_true rfl)) (Nat.le_trans (Nat.mul_le_mul_right _ m4) (Nat.le_of_ble_eq_true rfl)) (Nat.le_trans m4 (Nat.le_of_ble_eq_true rfl)) rfl rfl (by omega) (by omega)
    generalize hF : Jvm.Free.Multi.fill (T.setVm vm₁) cA comp n.toNatClampNeg k.toNatClampNeg (defaultValue .int) n.toNatClampNeg = F9 at X' step
    have hTh : (T.setVm vm₁).heap = H := hT
    obtain ⟨f1, f2, -, -⟩ := Jvm.Free.Multi.fill_facts (T.setVm vm₁) cA comp n.toNatClampNeg k.toNatClampNeg (defaultValue .int) n.toNatClampNeg
    rw [hF, hTh] at f1 f2
    have hold : ∀ x : Nat, x < H.size → F9.heap[x]? = H[x]? := fun x hx => by
      have := Jvm.Free.Multi.fill_old (T.setVm vm₁) cA comp n.toNatClampNeg k.toNatClampNeg (defaultValue .int) (a := x) (by rw [hTh]; exact hx) n.toNatClampNeg
      rw [hF, hTh] at this
      exact this
    have hcA : cA = nk_gA G 5 := Option.some.inj (fA.symm.trans (nk_tyAt hKn 4 rfl).2)
    have hcI : comp = nk_gA G 1 := Option.some.inj (fC.symm.trans (nk_tyAt hKn 0 rfl).2)
    have hrow : ∀ j : Nat, j < n.toNatClampNeg → F9.heap[H.size + 1 + j]? = some (arrV (nk_gA G 1) k.toNatClampNeg (fun _ => .int 0)) := fun j hj => by
      have := Jvm.Free.Multi.fill_inner (T.setVm vm₁) cA comp n.toNatClampNeg k.toNatClampNeg (defaultValue .int) n.toNatClampNeg j hj
      rw [hF, hTh, hcI] at this
      rw [this, ← arrV_new]
      rfl
    rw [vr_outer, hcA] at f2
    have hR1 := nk_R_mn (k := k.toNatClampNeg) hR f1 hold f2 hrow
    have k4 := k3 p e R s m args below meth c X sb (by omega) (by omega) b3 b4 F9.heap ls locs hR1 hl hq
    rw [show nk_N h + 1 + n.toNatClampNeg - s.heap.size = nk_N h - s.heap.size + 1 + n.toNatClampNeg by omega, show nk_S h + n.toNatClampNeg + n.toNatClampNeg * k.toNatClampNeg - sb = nk_S h - sb + n.toNatClampNeg + n.toNatClampNeg * k.toNatClampNeg by omega] at k4
    obtain ⟨t, a1, b9⟩ := k4 F9 rfl X'
    refine ⟨t, step t ?_, b9⟩
    have e9 : T.heap.size = nk_N h := by rw [hT]; exact hR.1
    rw [e9]
    exact a1
  · exact absurd ((if_neg hm).symm.trans hv) (fun z => nomatch z)
end NKB
end
section
/-! ===== the law's own rows: its methods that catch; longs; the script; the switch ===== -/
def nk_IX : String := "java/lang/IndexOutOfBoundsException"
def nk_IA : String := "java/lang/IllegalArgumentException"
def nk_IS : String := "java/lang/IllegalStateException"
abbrev nk_Hs : Type := List ((Nat × Nat × Nat × Nat) × String)
/-- which row of a table takes a class, counted from n -/
def nk_kx : nk_Hs → Nat → String → Option Nat
  | [], _, _ => none
  | z :: t, n, E => if E = z.2 then some n else nk_kx t (n + 1) E
theorem nk_kx_spec : ∀ (hs : nk_Hs) (n : Nat) (E : String) (r : Nat), nk_kx hs n E = some r → ∃ (pre : nk_Hs) (x : (Nat × Nat × Nat × Nat) × String) (suf : nk_Hs), hs = pre ++ x :: suf ∧ x.2 = E ∧ (∀ z ∈ pre, z.2 ≠ E) ∧ r = n + pre.length
  | [], _, _, _, h => nomatch h
  | z :: t, n, E, r, h => by
    by_cases e : E = z.2
    · have h2 : n = r := Option.some.inj ((if_pos e).symm.trans h)
      exact ⟨[], z, t, rfl, e.symm, (fun _ hz => nomatch hz), h2.symm⟩
    · have h2 : nk_kx t (n + 1) E = some r := (if_neg e).symm.trans h
      obtain ⟨pre, x, suf, h3, h4, h5, h6⟩ := nk_kx_spec t (n + 1) E r h2
      refine ⟨z :: pre, x, suf, by rw [h3]; rfl, h4, fun y hy => ?_, by rw [h6, List.length_cons]; omega⟩
      rcases List.mem_cons.mp hy with rfl | hy
      · exact fun e2 => e e2.symm
      · exact h5 y hy
/-- a handler: it stores the thrown object and answers -9999999 -/
def nk_hdAt (cc : ByteArray) (nL hpc : Nat) : Prop :=
  ∃ k i : Nat, decode cc hpc = .ok (.astore k, 2) ∧ k < nL ∧ decode cc (hpc + 2) = .ok (.ldc i, 2) ∧ Cond.constant "NotaryKioskLaw" i (-9999999) ∈ nk_T ∧ decode cc (hpc + 4) = .ok (.ireturn, 1)
def nk_Hok (own : String) (cc : ByteArray) (nL pc : Nat) : nk_Hs → Nat → Prop
  | [], _ => True
  | z :: t, n => (z.1.1 ≤ pc ∧ pc < z.1.2.1 ∧ z.1.2.2.2 ≠ 0 ∧ Cond.classLink own z.1.2.2.2 z.2 ∈ nk_T ∧ z.2 ∈ [nk_IX, nk_IA, nk_IS] ∧ nk_hdAt cc nL z.1.2.2.1) ∧ nk_Hok own cc nL pc t (n + 1)
theorem nk_Hok.at {own : String} {cc : ByteArray} {nL pc : Nat} {x : (Nat × Nat × Nat × Nat) × String} {suf : nk_Hs} : ∀ {pre : nk_Hs} {n : Nat}, nk_Hok own cc nL pc (pre ++ x :: suf) n →
    (∀ z ∈ pre, z.1.2.2.2 ≠ 0 ∧ Cond.classLink own z.1.2.2.2 z.2 ∈ nk_T ∧ z.2 ∈ [nk_IX, nk_IA, nk_IS]) ∧ (x.1.1 ≤ pc ∧ pc < x.1.2.1 ∧ x.1.2.2.2 ≠ 0 ∧ Cond.classLink own x.1.2.2.2 x.2 ∈ nk_T ∧ x.2 ∈ [nk_IX, nk_IA, nk_IS] ∧ nk_hdAt cc nL x.1.2.2.1)
  | [], n, h => ⟨(fun _ hz => nomatch hz), h.1⟩
  | z :: t, n, h => by
    obtain ⟨a, b⟩ := nk_Hok.at (pre := t) (n := n + 1) h.2
    refine ⟨fun y hy => ?_, ?_⟩
    · rcases List.mem_cons.mp hy with rfl | hy
      · exact ⟨h.1.2.2.1, h.1.2.2.2.1, h.1.2.2.2.2.1⟩
      · exact a y hy
    · exact b
theorem nk_ca_IX : Cond.castable nk_IX nk_IX ∈ nk_T := nk_in (i := 222) (by decide +kernel) rfl
theorem nk_ca_IA : Cond.castable nk_IA nk_IA ∈ nk_T := nk_in (i := 290) (by decide +kernel) rfl
theorem nk_ca_IS : Cond.castable nk_IS nk_IS ∈ nk_T := nk_in (i := 316) (by decide +kernel) rfl
theorem nk_ca3 {E : String} (h : E ∈ [nk_IX, nk_IA, nk_IS]) : Cond.castable E E ∈ nk_T := by
  simp only [List.mem_cons, List.not_mem_nil, or_false] at h
  rcases h with rfl | rfl | rfl
  · exact nk_ca_IX
  · exact nk_ca_IA
  · exact nk_ca_IS
theorem nk_nc3 {E F : String} (h : E ∈ [nk_IX, nk_IA, nk_IS]) (h2 : F ∈ [nk_IX, nk_IA, nk_IS]) (hne : F ≠ E) : (E, F) ∈ nk_ncs := by
  simp only [List.mem_cons, List.not_mem_nil, or_false] at h h2
  rcases h with rfl | rfl | rfl <;> rcases h2 with rfl | rfl | rfl <;> first | exact absurd rfl hne | decide +kernel
section NKL
variable {β : Type} {G : nk_G} {l : Launch} {cc : ByteArray} {nL : Nat} {ret : Option FieldType} {fr lo : Nat} {ini : Bool} {en2 : β → Option Value ⊕ String} {pc : Nat} {lv : List (Nat × nk_V)} {st0 st : List nk_V} {h : nk_H} {g : Option (nk_H × β)}
theorem nk_handler {hpc : Nat} (hd : nk_hdAt cc nL hpc) (hret : ret = some .int) (q : Nat) (h1 : nk_H) : nk_Sim G l "NotaryKioskLaw" cc nL ret fr lo ini nk_eI hpc lv [.inr (some q)] h1 (some (h1, (-9999999))) := by
  obtain ⟨k, i, d1, d2, d3, w, d4⟩ := hd
  exact nr_astore d1 d2 rfl (nr_ldc d3 w (nr_iret rfl hret d4))
/-- a call whose throws are caught -/
theorem nk_callW (hs : nk_Hs) {F : nk_H × β → Option (nk_H × Int32)} (go : nk_Go G l "NotaryKioskLaw" cc nL ret fr lo ini pc lv st0 st h en2 g)
    (kk : ∀ (h1 : nk_H) (r : β) (v : Option Value), en2 r = .inl v → ∃ t : List nk_V, v.toList = nk_vs t ∧ nk_Sim G l "NotaryKioskLaw" cc nL ret fr lo ini nk_eI (pc + 3) lv (t ++ st) h1 (F (h1, r)))
    (kx : ∀ (h1 : nk_H) (r : β) (E : String), en2 r = .inr E → F (h1, r) = (nk_kx hs 1 E).map fun _ => (h1, (-9999999)))
    (hret : ret = some .int) (hm : (cc, hs.map Prod.fst) ∈ nk_hhl) (hok : nk_Hok "NotaryKioskLaw" cc nL pc hs 1) : nk_Sim G l "NotaryKioskLaw" cc nL ret fr lo ini nk_eI pc lv st0 h (g.bind F) := by
  intro h' r' hf
  cases hg : g with
  | none => rw [hg] at hf; cases hf
  | some x =>
    obtain ⟨h1, r⟩ := x
    rw [hg] at hf
    have hf2 : F (h1, r) = some (h', r') := hf
    obtain ⟨g1, g2, g3⟩ := go h1 r hg
    cases ho : en2 r with
    | inl v =>
      obtain ⟨t, ht, k⟩ := kk h1 r v ho
      obtain ⟨k1, k2, k3⟩ := k h' r' hf2
      refine ⟨Nat.le_trans g1 k1, Nat.le_trans g2 k2, fun p e R s m args below meth c X sb b1 b2 b3 b4 H ls locs hR hl hq => ?_⟩
      obtain ⟨a, hrun⟩ := g3 p e R s m args below meth c X (nk_N h - s.heap.size) (nk_S h - sb) (by omega) (by omega) H ls locs hR hl
      intro T hT X0
      rcases hrun T hT X0 with ⟨w, st₀, t9, T', L, h0, X', hL, e1, e2, ⟨hR1, v9, hv, hw⟩, stp⟩ | ⟨q, st₀, t9, T', L, E, ce, h0, X', hL, e1, e2, ⟨hR1, hv⟩, -⟩
      · rw [ho] at hv
        cases hv
        cases hw
        have k4 := k3 p e R s m args below meth c X sb (by omega) (by omega) b3 b4 t9.heap ls (locs ++ L) hR1 hl (fun q hq9 => (List.mem_append.mp hq9).elim (hq q) (hL q))
        rw [show nk_N h1 - s.heap.size = nk_N h - s.heap.size + (nk_N h1 - nk_N h) by omega, show nk_S h1 - sb = nk_S h - sb + (nk_S h1 - nk_S h) by omega] at k4
        obtain ⟨t2, a1, b9⟩ := k4 T' e1 X'
        refine ⟨t2, stp t2 ?_, b9⟩
        show Steps p.tables e below (T'.setTop (F0 m (pc + 3) ls (v.toList ++ nk_vs st))) t2
        rw [ht]
        have e5 : nk_vs (t ++ st) = nk_vs t ++ nk_vs st := List.map_append
        rw [← e5]
        exact a1
      · rw [ho] at hv; cases hv
    | inr E =>
      have hF := kx h1 r E ho
      rw [hF] at hf2
      cases hkx : nk_kx hs 1 E with
      | none => rw [hkx] at hf2; cases hf2
      | some n9 =>
      rw [hkx] at hf2
      cases hf2
      obtain ⟨pre, x, suf, hsp, hxE, hpre, hn9⟩ := nk_kx_spec hs 1 E n9 hkx
      refine ⟨g1, g2, fun p e R s m args below meth c X sb b1 b2 b3 b4 H ls locs hR hl hq => ?_⟩
      obtain ⟨a, hrun⟩ := g3 p e R s m args below meth c X (nk_N h - s.heap.size) (nk_S h - sb) (by omega) (by omega) H ls locs hR hl
      intro T hT X0
      rcases hrun T hT X0 with ⟨w, st₀, t9, T', L, h0, X', hL, e1, e2, ⟨hR1, v9, hv, hw⟩, -⟩ | ⟨q, st₀, t9, T', L, E9, ce, h0, X', hL, e1, e2, ⟨hR1, hv⟩, hce, hcv, hcl, stp⟩
      · rw [ho] at hv; cases hv
      · rw [ho] at hv
        cases hv
        have XX := X
        obtain ⟨hx, hb, hml, hr, hlk, hown, hKn, hG, hRf, hRl, htab, hst, hin⟩ := XX
        have htb := htab.2 rfl _ hm rfl
        subst hsp
        obtain ⟨o1, o2, o3, o4, o5, o6, o7⟩ := hok.at
        rw [hxE] at o5 o6
        unfold nk_rows at htb
        rw [List.map_append, List.map_cons] at htb
        obtain ⟨pre', suf', hs1, hs2, hs3⟩ := List.map_eq_append_iff.mp htb
        obtain ⟨x', suf9, hs4, hs5, hs6⟩ := List.map_eq_cons_iff.mp hs3
        subst hs4
        have ex : x'.startPc = x.1.1 ∧ x'.endPc = x.1.2.1 ∧ x'.handlerPc = x.1.2.2.1 ∧ x'.catchType = x.1.2.2.2 := by
          rw [← hs5]; exact ⟨rfl, rfl, rfl, rfl⟩
        have kS := nk_handler (G := G) (l := l) (ret := ret) (fr := fr) (lo := lo) (ini := ini) (lv := lv) o7 hret q h'
        obtain ⟨-, -, k3⟩ := kS h' _ rfl
        have k4 := k3 p e R s m args below meth c X sb (by omega) (by omega) b3 b4 t9.heap ls (locs ++ L) hR1 hl (fun q hq9 => (List.mem_append.mp hq9).elim (hq q) (hL q))
        rw [show nk_N h' - s.heap.size = nk_N h - s.heap.size + (nk_N h' - nk_N h) by omega, show nk_S h' - sb = nk_S h - sb + (nk_S h' - nk_S h) by omega] at k4
        rw [show nk_N h' - s.heap.size = nk_N h - s.heap.size + (nk_N h' - nk_N h) by omega, show nk_S h' - sb = nk_S h - sb + (nk_S h' - nk_S h) by omega]
        have kC := vx_catch (rest := nk_vs st) (pc := pc) (ls := ls) (name := E) (E := E) (ce := ce) (q := q) (H := t9.heap) (locs := locs ++ L) (cells := nk_N h - s.heap.size + (nk_N h' - nk_N h)) (slots := nk_S h - sb + (nk_S h' - nk_S h)) hown pre' x' suf9 hs1 (fun z hz => by
            have hzm : (z.startPc, z.endPc, z.handlerPc, z.catchType) ∈ List.map Prod.fst pre := by rw [← hs2]; exact List.mem_map.mpr ⟨z, hz, rfl⟩
            obtain ⟨y, hy, hye⟩ := List.mem_map.mp hzm
            obtain ⟨p1, p2, p3⟩ := o1 y hy
            have e9 : z.catchType = y.1.2.2.2 := by rw [hye]
            refine Or.inr ⟨by rw [e9]; exact p1, y.2, by rw [e9]; exact hKn.use p2 args, hKn.2.2.2.2.2.2.2.2.2.2.2 _ (nk_nc3 o6 p3 (hpre y hy))⟩)
          (by unfold covers; rw [ex.1, ex.2.1]; simp [o2, o3]) (by rw [ex.2.2.2]; exact o4) (by rw [ex.2.2.2]; exact hKn.use o5 args) (hKn.use (nk_ca3 o6) args) hce hcv hcl (by rw [ex.2.2.1]; exact k4)
        obtain ⟨t2, a1, b9⟩ := kC T' e1 X'
        exact ⟨t2, stp.trans a1, b9⟩
/-- a try around a call -/
def nk_try {γ : Type} (hs : nk_Hs) (g : Option (nk_H × (γ ⊕ String))) (K : nk_H → γ → Option (nk_H × Int32)) : Option (nk_H × Int32) := g.bind fun x => match x.2 with
  | .inl v => K x.1 v
  | .inr E => (nk_kx hs 1 E).map fun n => (x.1, Int32.ofInt n)
/-- a try around a call, in this law: whatever is thrown, -9999999 -/
def nk_tr {γ : Type} (hs : nk_Hs) (g : Option (nk_H × (γ ⊕ String))) (K : nk_H → γ → Option (nk_H × Int32)) : Option (nk_H × Int32) := g.bind fun x => match x.2 with
  | .inl v => K x.1 v
  | .inr E => (nk_kx hs 1 E).map fun _ => (x.1, (-9999999))
theorem nr_tryI (hs : nk_Hs) {K : nk_H → Int32 → Option (nk_H × Int32)} {g : Option (nk_H × (Int32 ⊕ String))} (go : nk_Go G l "NotaryKioskLaw" cc nL ret fr lo ini pc lv st0 st h nk_eIt g) (hret : ret = some .int) (hm : (cc, hs.map Prod.fst) ∈ nk_hhl) (hok : nk_Hok "NotaryKioskLaw" cc nL pc hs 1)
    (kk : ∀ h1 v, nk_Sim G l "NotaryKioskLaw" cc nL ret fr lo ini nk_eI (pc + 3) lv (.inl v :: st) h1 (K h1 v)) : nk_Sim G l "NotaryKioskLaw" cc nL ret fr lo ini nk_eI pc lv st0 h (nk_tr hs g K) :=
  nk_callW hs go (fun h1 r v hv => by
    cases r with
    | inl u => cases hv; exact ⟨[.inl u], rfl, kk h1 u⟩
    | inr E => cases hv) (fun h1 r E hE => by
    cases r with
    | inl u => cases hE
    | inr E9 => cases hE; rfl) hret hm hok
theorem nr_tryV (hs : nk_Hs) {K : nk_H → Unit → Option (nk_H × Int32)} {g : Option (nk_H × (Unit ⊕ String))} (go : nk_Go G l "NotaryKioskLaw" cc nL ret fr lo ini pc lv st0 st h nk_eVt g) (hret : ret = some .int) (hm : (cc, hs.map Prod.fst) ∈ nk_hhl) (hok : nk_Hok "NotaryKioskLaw" cc nL pc hs 1)
    (kk : ∀ h1, nk_Sim G l "NotaryKioskLaw" cc nL ret fr lo ini nk_eI (pc + 3) lv st h1 (K h1 ())) : nk_Sim G l "NotaryKioskLaw" cc nL ret fr lo ini nk_eI pc lv st0 h (nk_tr hs g K) :=
  nk_callW hs go (fun h1 r v hv => by
    cases r with
    | inl u => cases hv; exact ⟨[], rfl, kk h1⟩
    | inr E => cases hv) (fun h1 r E hE => by
    cases r with
    | inl u => cases hE
    | inr E9 => cases hE; rfl) hret hm hok
/-- the contract of a method with a table; its call -/
def nk_ConW {α : Type} (G : nk_G) (l : Launch) (y : MethodName) (cc : ByteArray) (nL : Nat) (ret : Option FieldType) (hh : List (Nat × Nat × Nat × Nat)) (fr lo : Nat) (en : α → Option Value ⊕ String) (vs : List nk_V) (h : nk_H) (f : Option (nk_H × α)) : Prop :=
  ∀ (h' : nk_H) (r : α), f = some (h', r) → nk_N h ≤ nk_N h' ∧ nk_S h ≤ nk_S h' ∧
    vx_Met l y [Cond.codeWith y cc nL ret hh] { frames := fr, cells := nk_N h' - nk_N h, slots := nk_S h' - nk_S h, locals := lo } (nk_Pc G h vs) (nk_Qc G h' (en r)) (nk_XC G h' (en r)) (nk_N h' - nk_N h) (nk_S h' - nk_S h) (nk_fr G)
theorem nk_conW {α : Type} {en : α → Option Value ⊕ String} {y : MethodName} {hh : List (Nat × Nat × Nat × Nat)} {vs : List nk_V} {f : Option (nk_H × α)} (hy : plainName y.cls = true) (hl0 : l.flags = flags0) (hlen : vs.length ≤ nL) (hini : ini = true → y.name = "<init>") (hnl : y.cls = "NotaryKioskLaw") (hu : ∀ q ∈ nk_hhl, q.1 = cc → hh = q.2)
    (k : nk_Sim G l y.cls cc nL ret fr lo ini en 0 (vs.zipIdx.map fun q => (q.2, q.1)) [] h f) (hnn : ∀ q ∈ nk_nls, q ≠ cc := by decide +kernel) : nk_ConW G l y cc nL ret hh fr lo en vs h f := by
  intro h' r hf
  obtain ⟨k1, k2, k3⟩ := k h' r hf
  refine ⟨k1, k2, vx_ofWH (ws' := []) (maxL := nL) (cc := cc) (ret := ret) (hh := hh) hy rfl ?_⟩
  intro p e s m args below meth c s₁ B hml ⟨hargs, hR, hKn⟩
  subst hargs
  have hb9 : s.heap.size = nk_N h := hR.1
  have hsl : lg_sl (nk_vs vs) = (nk_vs vs).map Slot.val := nk_sl vs
  have hh0 : lv_has ((lg_sl (nk_vs vs) ++ List.replicate (nL - (lg_sl (nk_vs vs)).length) Slot.unset).toArray) nL (lv_args 0 (nk_vs vs)) := lv_entry (nk_vs vs) (by rw [hsl]; simpa [nk_vs] using hlen)
  have hargs : lv_args 0 (nk_vs vs) = nk_lv (vs.zipIdx.map fun q => (q.2, q.1)) := nk_args vs 0
  rw [hargs] at hh0
  obtain ⟨m9, meth9, c9, n1, n2, n3, -, -, n4, -⟩ := Cond.codeWith_spec (atoms_spec (ws := [Cond.codeWith y cc nL ret hh]) B.pre _ List.mem_cons_self)
  cases n1.symm.trans B.named
  cases n2.symm.trans B.method
  have hc9 : c9 = c := Option.some.inj (n3.symm.trans (by
    have h9 := B.here.code
    rw [B.state] at h9
    have h8 : (s.setFrames (.java (entryFrame m (nk_vs vs).toArray nL) :: below)).code? m = meth.code := by
      have h7 := B.method
      simp only [Vm.method?, bind, Option.bind_eq_some_iff] at h7
      obtain ⟨k, hk, hm7⟩ := h7
      simp [State.code?, State.setFrames, hk, hm7]
    exact h8.symm.trans h9))
  subst hc9
  have X : nk_X G l y.cls cc nL ret fr lo ini p (headSpec [Cond.codeWith y cc nL ret hh] { frames := fr, cells := nk_N h' - nk_N h, slots := nk_S h' - nk_S h, locals := lo }).room s m meth c9 :=
    ⟨B.exec, B.bytes, hml, B.returns, B.notSynchronized, findClass_of_methodNamed B.named, hKn, ⟨by rw [hb9]; exact hR.2.1, hR.2.2.1⟩, Nat.le_refl _, Nat.le_refl _, ⟨fun e9 => e9.elim (fun e8 => absurd hnl e8) (fun e8 => absurd rfl (hnn _ e8)), fun _ q hq9 he9 => n4.trans (hu q hq9 he9)⟩, nk_noTrace hl0, fun hi => by rw [(name_of_methodNamed B.named B.method).1]; exact hini hi⟩
  have := k3 p e _ s m (nk_vs vs).toArray below meth c9 X (nk_S h) (by omega) (Nat.le_refl _) (by rw [hb9]; exact Nat.le_refl _) (Nat.le_refl _) s.heap _ [] hR hh0 (fun q hq => nomatch hq)
  rw [hb9, Nat.sub_self, Nat.sub_self] at this
  rw [lg_entry_eq]
  exact this
def nk_MyW (y : MethodName) (cc : ByteArray) (nL : Nat) (ret : Option FieldType) (hh : List (Nat × Nat × Nat × Nat)) (n : Nat) : Prop := Cond.codeWith y cc nL ret hh ∈ nk_T ∧ Cond.initialized y.cls ∈ nk_T ∧ (y.cls ≠ "java/lang/invoke/MethodHandle" ∧ y.cls ≠ "java/lang/invoke/VarHandle") ∧ (parseMethodDescriptor y.desc).map (fun d => d.parameters.length) = some n
theorem nk_callSW {own : String} {y : MethodName} {c2 : ByteArray} {n2 fr2 lo2 i n : Nat} {r2 : Option FieldType} {hh : List (Nat × Nat × Nat × Nat)} {vs : List nk_V} (con : nk_ConW G l y c2 n2 r2 hh fr2 lo2 en2 vs h g) (d : decode cc pc = .ok (.invokestatic i, 3)) (hy : nk_MyW y c2 n2 r2 hh n) (ws : Cond.static y ∈ nk_T) (wl : Cond.methodLink own i y ∈ nk_T) (hst : st0 = vs.reverse ++ st) (hn : vs.length = n) (h8 : st.length ≤ 8) (hfr : fr2 + 1 ≤ fr) (hlo : 8 + (n2 + 11) + lo2 ≤ lo) : nk_Go G l own cc nL ret fr lo ini pc lv st0 st h en2 g := by
  subst hst
  intro h1 r hg
  obtain ⟨g1, g2, hM⟩ := con h1 r hg
  refine ⟨g1, g2, fun p e R s m args below meth c X cells slots hc hs H ls locs hR hl => ?_⟩
  have hKn := X.2.2.2.2.2.2.1
  have h1 : fr ≤ R.frames := X.2.2.2.2.2.2.2.2.1
  have h2 : lo ≤ R.locals := X.2.2.2.2.2.2.2.2.2.1
  exact ⟨_, vx_runSX (Ts := []) (own := own) (cc := cc) (nL := nL) (As := nk_vs vs) (hh := hh) ⟨X.1, X.2.1, X.2.2.1, X.2.2.2.2.2.1, fun w hw => nomatch hw⟩ hM ⟨⟨rfl, rfl, by show fr2 + 1 ≤ R.frames; omega, by show 8 + (n2 + 11) + lo2 ≤ R.locals; omega, fun w hw a' U hW => by
    rw [List.mem_singleton.mp hw]
    exact (hKn.warm hW).use hy.1 a', List.mem_singleton.mpr rfl⟩, hKn.use hy.1 args, hKn.use hy.2.1 args, hy.2.2.1, nk_par (y := y) hy.2.2.2, hKn.use wl args, hKn.use ws args⟩ ⟨nk_blind G h vs, nk_stS X hR _ rfl⟩ rfl (by rw [← hn]; exact List.length_map _) hl.1 (nk_revs vs st) (lv_room (by rw [nk_sum]; exact h8)) d ⟨hc, hs⟩⟩
end NKL
section NKQ
variable {α : Type} {G : nk_G} {l : Launch} {own : String} {cc : ByteArray} {nL : Nat} {ret : Option FieldType} {fr lo : Nat} {ini : Bool} {en : α → Option Value ⊕ String} {pc : Nat} {lv lv2 : List (Nat × nk_V)} {st : List nk_V} {h : nk_H} {f fA fB : Option (nk_H × α)}
/-- an int into an array of longs -/
def nk_wL (h : nk_H) (p : Option Nat) (i v : Int32) : Option nk_H := p.bind fun a => if nk_K h a = 6 ∧ ¬ i < 0 ∧ i.toNatClampNeg < nk_L h a then some (nk_sI h a i.toNatClampNeg v) else none
/-- two ways on, by the heap -/
theorem nk_ite2 {pa pb : Nat} {st2 : List nk_V} (P : Prop) [Decidable P] (step : ∀ (p : Program) (e : Env) (R : Room) (s : State) (m : MethodId) (args : Array Value) (below : List Frame) (meth : Method) (c : Code) (H : Heap) (locs : List Loc) (cells slots : Nat) (Q : State → Prop) (ls : Array Slot), nk_X G l own cc nL ret fr lo ini p R s m meth c → nk_R G h H → lv_has ls nL (nk_lv lv) →
      (P → W p l e R s m args below meth c H locs cells slots Q (F0 m pa ls (nk_vs st2))) → (¬ P → W p l e R s m args below meth c H locs cells slots Q (F0 m pb ls (nk_vs st2))) → W p l e R s m args below meth c H locs cells slots Q (F0 m pc ls (nk_vs st)))
    (ka : P → nk_Sim G l own cc nL ret fr lo ini en pa lv st2 h fA) (kb : ¬ P → nk_Sim G l own cc nL ret fr lo ini en pb lv st2 h fB) : nk_Sim G l own cc nL ret fr lo ini en pc lv st h (if P then fA else fB) := by
  intro h' r hf
  by_cases hP : P
  · rw [if_pos hP] at hf
    obtain ⟨k1, k2, k3⟩ := ka hP h' r hf
    refine ⟨k1, k2, fun p e R s m args below meth c X sb b1 b2 b3 b4 H ls locs hR hl hq => ?_⟩
    exact step p e R s m args below meth c H locs _ _ _ ls X hR hl (fun _ => k3 p e R s m args below meth c X sb b1 b2 b3 b4 H ls locs hR hl hq) (fun n => absurd hP n)
  · rw [if_neg hP] at hf
    obtain ⟨k1, k2, k3⟩ := kb hP h' r hf
    refine ⟨k1, k2, fun p e R s m args below meth c X sb b1 b2 b3 b4 H ls locs hR hl hq => ?_⟩
    exact step p e R s m args below meth c H locs _ _ _ ls X hR hl (fun y => absurd y hP) (fun _ => k3 p e R s m args below meth c X sb b1 b2 b3 b4 H ls locs hR hl hq)
/-- reading an array of longs, that holds ints -/
def nk_rL (h : nk_H) (p : Option Nat) (i : Int32) : Option Int32 := p.bind fun a => if nk_K h a = 6 ∧ ¬ i < 0 ∧ i.toNatClampNeg < nk_L h a then some (nk_I h a i.toNatClampNeg) else none
theorem nk_i64 {x y : Int32} : x.toInt64 = y.toInt64 ↔ x = y := by
  constructor
  · intro e
    have e2 := congrArg Int64.toInt e
    rw [Int32.toInt_toInt64, Int32.toInt_toInt64] at e2
    exact Int32.toInt_inj.mp e2
  · intro e; rw [e]
/-- the script -/
def nk_sx (G : nk_G) (i : Int32) : Option Int32 := if ¬ i < 0 ∧ i.toNatClampNeg < nk_gL G then some (nk_gX G i.toNatClampNeg) else none
theorem nr_sld {i : Int32} {F : Int32 → Option (nk_H × α)} (d : decode cc pc = .ok (.iaload, 1)) (kk : ∀ v, nk_Sim G l own cc nL ret fr lo ini en (pc + 1) lv (.inl v :: st) h (F v)) : nk_Sim G l own cc nL ret fr lo ini en pc lv (.inl i :: .inr (some (nk_gB G)) :: st) h ((nk_sx G i).bind F) := by
  refine nk_bind (fun v hv => ?_)
  by_cases hm : ¬ i < 0 ∧ i.toNatClampNeg < nk_gL G
  · have hv2 : nk_gX G i.toNatClampNeg = v := Option.some.inj ((if_pos hm).symm.trans hv)
    intro h' r hf
    obtain ⟨k1, k2, k3⟩ := kk v h' r hf
    refine ⟨k1, k2, fun p e R s m args below meth c X sb b1 b2 b3 b4 H ls locs hR hl hq => ?_⟩
    have hX := X.2.2.2.2.2.2.1.2.2.2.2.2.2.2.2
    subst hv2
    have hS : va_S (nk_fr G) (nk_gH G) H locs := ⟨by rw [hR.1]; exact hR.2.1, fun q h1 _ => hR.2.2.1 q h1, hq⟩
    exact va_sld X.1 X.2.1 hX.1 hX.2.1 (Nat.not_le.mpr hX.2.1) hS (fun z => z.elim hm.1 (Nat.not_le.mpr hm.2)) d (k3 p e R s m args below meth c X sb b1 b2 b3 b4 H ls locs hR hl hq)
  · exact absurd ((if_neg hm).symm.trans hv) (fun z => nomatch z)
theorem nr_slen (d : decode cc pc = .ok (.arraylength, 1)) (kk : nk_Sim G l own cc nL ret fr lo ini en (pc + 1) lv (.inl (Int32.ofNat (nk_gL G)) :: st) h f) : nk_Sim G l own cc nL ret fr lo ini en pc lv (.inr (some (nk_gB G)) :: st) h f := by
  intro h' r hf
  obtain ⟨k1, k2, k3⟩ := kk h' r hf
  refine ⟨k1, k2, fun p e R s m args below meth c X sb b1 b2 b3 b4 H ls locs hR hl hq => ?_⟩
  have hX := X.2.2.2.2.2.2.1.2.2.2.2.2.2.2.2
  have hS : va_S (nk_fr G) (nk_gH G) H locs := ⟨by rw [hR.1]; exact hR.2.1, fun q h1 _ => hR.2.2.1 q h1, hq⟩
  exact va_slen X.1 X.2.1 hX.1 hX.2.1 (Nat.not_le.mpr hX.2.1) hS d (k3 p e R s m args below meth c X sb b1 b2 b3 b4 H ls locs hR hl hq)
/-- the switch: by the value's place in the list of the targets -/
def nk_sw (L : List (Option (nk_H × α))) (d : Option (nk_H × α)) (x : Int32) : Option (nk_H × α) := if x < 0 then d else L.getD x.toNatClampNeg d
theorem nr_tsw {x : Int32} {dflt hi : Int} {offs : Array Int} {len tgt : Nat} {L : List (Option (nk_H × α))} (d : decode cc pc = .ok (.tableswitch dflt 0 hi offs, len)) (hn : offs.size = L.length) (hhi : hi + 1 = L.length) (ht : (pc : Int) + dflt = (tgt : Int)) (kd : nk_Sim G l own cc nL ret fr lo ini en tgt lv st h f)
    (ks : ∀ (j : Nat) (g : Option (nk_H × α)), L[j]? = some g → ∃ (off : Int) (t : Nat), offs[j]? = some off ∧ (pc : Int) + off = (t : Int) ∧ nk_Sim G l own cc nL ret fr lo ini en t lv st h g) : nk_Sim G l own cc nL ret fr lo ini en pc lv (.inl x :: st) h (nk_sw L f x) := by
  by_cases h0 : x < 0
  · have e : nk_sw L f x = f := if_pos h0
    rw [e]
    refine nk_pure (fun p e R s m args below meth c H locs cells slots Q ls X hR hl k9 => ?_) kd
    exact lv_tableOut X.1 X.2.1 d (Or.inl (by simpa using Int32.lt_iff_toInt_lt.mp h0)) ht (k9 ls hl)
  · have hx := nk_toI h0
    by_cases h1 : x.toNatClampNeg < L.length
    · have e : nk_sw L f x = L[x.toNatClampNeg] := by
        unfold nk_sw
        rw [if_neg h0, List.getD_eq_getElem?_getD, List.getElem?_eq_getElem h1]
        rfl
      rw [e]
      obtain ⟨off, t, o1, o2, o3⟩ := ks x.toNatClampNeg _ (List.getElem?_eq_getElem h1)
      refine nk_pure (fun p e R s m args below meth c H locs cells slots Q ls X hR hl k9 => ?_) o3
      exact lv_tableIn X.1 X.2.1 d (by rw [hx]; omega) (by rw [hx]; omega) (by rw [hx, show ((x.toNatClampNeg : Int) - 0).toNat = x.toNatClampNeg by omega]; exact o1) o2 (k9 ls hl)
    · have e : nk_sw L f x = f := by
        unfold nk_sw
        rw [if_neg h0, List.getD_eq_getElem?_getD, List.getElem?_eq_none (Nat.not_lt.mp h1)]
        rfl
      rw [e]
      refine nk_pure (fun p e R s m args below meth c H locs cells slots Q ls X hR hl k9 => ?_) kd
      exact lv_tableOut X.1 X.2.1 d (Or.inr (by rw [hx]; omega)) ht (k9 ls hl)
/-- the switch, its targets one by one -/
def nk_swok (G : nk_G) (l : Launch) (own : String) (cc : ByteArray) (nL : Nat) (ret : Option FieldType) (fr lo : Nat) (ini : Bool) (en : α → Option Value ⊕ String) (pc : Nat) (lv : List (Nat × nk_V)) (st : List nk_V) (h : nk_H) (offs : Array Int) : List (Option (nk_H × α)) → Nat → Prop
  | [], _ => True
  | g :: t, j => (∃ (off : Int) (tg : Nat), offs[j]? = some off ∧ (pc : Int) + off = (tg : Int) ∧ nk_Sim G l own cc nL ret fr lo ini en tg lv st h g) ∧ nk_swok G l own cc nL ret fr lo ini en pc lv st h offs t (j + 1)
theorem nk_swok_get {offs : Array Int} : ∀ (L : List (Option (nk_H × α))) (k j : Nat) (g : Option (nk_H × α)), nk_swok G l own cc nL ret fr lo ini en pc lv st h offs L k → L[j]? = some g → ∃ (off : Int) (tg : Nat), offs[k + j]? = some off ∧ (pc : Int) + off = (tg : Int) ∧ nk_Sim G l own cc nL ret fr lo ini en tg lv st h g
  | [], _, _, _, _, hj => by simp at hj
  | a :: t, k, 0, g, hw, hj => by
    have e : a = g := by simpa using hj
    subst e
    exact hw.1
  | a :: t, k, j + 1, g, hw, hj => by
    have := nk_swok_get t (k + 1) j g hw.2 (by simpa using hj)
    rw [show k + (j + 1) = k + 1 + j by omega]
    exact this
theorem nr_tswL {x : Int32} {dflt hi : Int} {offs : Array Int} {len tgt : Nat} {L : List (Option (nk_H × α))} (d : decode cc pc = .ok (.tableswitch dflt 0 hi offs, len)) (hn : offs.size = L.length) (hhi : hi + 1 = L.length) (ht : (pc : Int) + dflt = (tgt : Int)) (kd : nk_Sim G l own cc nL ret fr lo ini en tgt lv st h f) (ks : nk_swok G l own cc nL ret fr lo ini en pc lv st h offs L 0) : nk_Sim G l own cc nL ret fr lo ini en pc lv (.inl x :: st) h (nk_sw L f x) :=
  nr_tsw d hn hhi ht kd (fun j g hj => by
    have := nk_swok_get L 0 j g ks hj
    rw [Nat.zero_add] at this
    exact this)
end NKQ
end
section
def f_J6_bitCount_0f7a4  (h : nk_H) (v0 : Int32) : Option (nk_H × Int32) := some (h, ((((((((v0 - ((Int32.toUInt32 v0 >>> (Int32.toUInt32 1 &&& Int32.toUInt32 31)).toInt32 &&& 1431655765)) &&& 858993459) + ((Int32.toUInt32 (v0 - ((Int32.toUInt32 v0 >>> (Int32.toUInt32 1 &&& Int32.toUInt32 31)).toInt32 &&& 1431655765)) >>> (Int32.toUInt32 2 &&& Int32.toUInt32 31)).toInt32 &&& 858993459)) + (Int32.toUInt32 (((v0 - ((Int32.toUInt32 v0 >>> (Int32.toUInt32 1 &&& Int32.toUInt32 31)).toInt32 &&& 1431655765)) &&& 858993459) + ((Int32.toUInt32 (v0 - ((Int32.toUInt32 v0 >>> (Int32.toUInt32 1 &&& Int32.toUInt32 31)).toInt32 &&& 1431655765)) >>> (Int32.toUInt32 2 &&& Int32.toUInt32 31)).toInt32 &&& 858993459)) >>> (Int32.toUInt32 4 &&& Int32.toUInt32 31)).toInt32) &&& 252645135) + (Int32.toUInt32 (((((v0 - ((Int32.toUInt32 v0 >>> (Int32.toUInt32 1 &&& Int32.toUInt32 31)).toInt32 &&& 1431655765)) &&& 858993459) + ((Int32.toUInt32 (v0 - ((Int32.toUInt32 v0 >>> (Int32.toUInt32 1 &&& Int32.toUInt32 31)).toInt32 &&& 1431655765)) >>> (Int32.toUInt32 2 &&& Int32.toUInt32 31)).toInt32 &&& 858993459)) + (Int32.toUInt32 (((v0 - ((Int32.toUInt32 v0 >>> (Int32.toUInt32 1 &&& Int32.toUInt32 31)).toInt32 &&& 1431655765)) &&& 858993459) + ((Int32.toUInt32 (v0 - ((Int32.toUInt32 v0 >>> (Int32.toUInt32 1 &&& Int32.toUInt32 31)).toInt32 &&& 1431655765)) >>> (Int32.toUInt32 2 &&& Int32.toUInt32 31)).toInt32 &&& 858993459)) >>> (Int32.toUInt32 4 &&& Int32.toUInt32 31)).toInt32) &&& 252645135) >>> (Int32.toUInt32 8 &&& Int32.toUInt32 31)).toInt32) + (Int32.toUInt32 ((((((v0 - ((Int32.toUInt32 v0 >>> (Int32.toUInt32 1 &&& Int32.toUInt32 31)).toInt32 &&& 1431655765)) &&& 858993459) + ((Int32.toUInt32 (v0 - ((Int32.toUInt32 v0 >>> (Int32.toUInt32 1 &&& Int32.toUInt32 31)).toInt32 &&& 1431655765)) >>> (Int32.toUInt32 2 &&& Int32.toUInt32 31)).toInt32 &&& 858993459)) + (Int32.toUInt32 (((v0 - ((Int32.toUInt32 v0 >>> (Int32.toUInt32 1 &&& Int32.toUInt32 31)).toInt32 &&& 1431655765)) &&& 858993459) + ((Int32.toUInt32 (v0 - ((Int32.toUInt32 v0 >>> (Int32.toUInt32 1 &&& Int32.toUInt32 31)).toInt32 &&& 1431655765)) >>> (Int32.toUInt32 2 &&& Int32.toUInt32 31)).toInt32 &&& 858993459)) >>> (Int32.toUInt32 4 &&& Int32.toUInt32 31)).toInt32) &&& 252645135) + (Int32.toUInt32 (((((v0 - ((Int32.toUInt32 v0 >>> (Int32.toUInt32 1 &&& Int32.toUInt32 31)).toInt32 &&& 1431655765)) &&& 858993459) + ((Int32.toUInt32 (v0 - ((Int32.toUInt32 v0 >>> (Int32.toUInt32 1 &&& Int32.toUInt32 31)).toInt32 &&& 1431655765)) >>> (Int32.toUInt32 2 &&& Int32.toUInt32 31)).toInt32 &&& 858993459)) + (Int32.toUInt32 (((v0 - ((Int32.toUInt32 v0 >>> (Int32.toUInt32 1 &&& Int32.toUInt32 31)).toInt32 &&& 1431655765)) &&& 858993459) + ((Int32.toUInt32 (v0 - ((Int32.toUInt32 v0 >>> (Int32.toUInt32 1 &&& Int32.toUInt32 31)).toInt32 &&& 1431655765)) >>> (Int32.toUInt32 2 &&& Int32.toUInt32 31)).toInt32 &&& 858993459)) >>> (Int32.toUInt32 4 &&& Int32.toUInt32 31)).toInt32) &&& 252645135) >>> (Int32.toUInt32 8 &&& Int32.toUInt32 31)).toInt32) >>> (Int32.toUInt32 16 &&& Int32.toUInt32 31)).toInt32) &&& 63))
def f_Jxa1e45_init_da8c8  (h : nk_H) (t0 : Nat) : Option (nk_H × Unit) := some (h, ())
def f_Jxc12de_init_da8c8  (h : nk_H) (t0 : Nat) : Option (nk_H × Unit) := (nk_do (f_Jxa1e45_init_da8c8 h t0) fun h1 x2 => ((nk_pI [7] 0 h1 (some t0) 0).bind fun h3 => some (h3, ())))
def f_Jx4a65c_init_da8c8  (h : nk_H) (t0 : Nat) : Option (nk_H × Unit) := (nk_do (f_Jxc12de_init_da8c8 h t0) fun h1 x2 => ((nk_pP [7] 1 h1 (some t0) (some (nk_E h1))).bind fun h3 => some (h3, ())))
def f_J8_hugeLength_7cf53  (h : nk_H) (v0 : Int32) (v1 : Int32) : Option (nk_H × Int32) := (if 0 ≤ (v0 + v1) then (if 2147483639 < (v0 + v1) then some (h, (v0 + v1)) else some (h, 2147483639)) else none)
def f_J8_newLength_cabcc_c21   (h : nk_H) (v0 : Int32) (v1 : Int32)  : Option (nk_H × Int32) := (nk_do (f_J8_hugeLength_7cf53 h v0 v1) fun h1 x2 => some (h1, x2))
def f_J8_newLength_cabcc  (h : nk_H) (v0 : Int32) (v1 : Int32) (v2 : Int32) : Option (nk_H × Int32) := (if (v0 + (if v1 < v2 then v2 else v1)) ≤ 0 then (f_J8_newLength_cabcc_c21   h v0 v1) else (if 2147483639 < (v0 + (if v1 < v2 then v2 else v1)) then (f_J8_newLength_cabcc_c21   h v0 v1) else some (h, (v0 + (if v1 < v2 then v2 else v1)))))
def f_J7_copyOf_6403c  (h : nk_H) (v0 : Option Nat) (v1 : Int32) (v2 : Option Nat) : Option (nk_H × Option Nat) := (if v2 = (some (nk_M h)) then ((nk_na 4 h v1).bind fun h1 => ((nk_len h1 v0).bind fun x2 => ((nk_cpP h1 v0 0 (some (nk_N h)) 0 (if v1 < x2 then v1 else x2)).bind fun h3 => some (h3, (some (nk_N h)))))) else none)
def f_J7_copyOf_1904c  (h : nk_H) (v0 : Option Nat) (v1 : Int32) : Option (nk_H × Option Nat) := ((nk_gc h v0).bind fun x1 => (nk_do (f_J7_copyOf_6403c h v0 v1 x1) fun h2 x3 => some (h2, x3)))
def f_Jx4a65c_grow_92f84_c20   (h : nk_H) (t0 : Nat) (v1 : Int32) (v2 : Int32)  : Option (nk_H × Option Nat) := (nk_do (f_J8_newLength_cabcc h v2 (v1 - v2) (v2 >>> (1 &&& 31))) fun h1 x2 => ((nk_gP [7] 1 h1 (some t0)).bind fun x3 => (nk_do (f_J7_copyOf_1904c h1 x3 x2) fun h4 x5 => ((nk_pP [7] 1 h4 (some t0) x5).bind fun h6 => some (h6, x5)))))
def f_Jx4a65c_grow_92f84  (h : nk_H) (t0 : Nat) (v1 : Int32) : Option (nk_H × Option Nat) := ((nk_gP [7] 1 h (some t0)).bind fun x7 => ((nk_len h x7).bind fun x8 => (if 0 < x8 then (f_Jx4a65c_grow_92f84_c20   h t0 v1 x8) else ((nk_gP [7] 1 h (some t0)).bind fun x9 => (if x9 = (some (nk_E h)) then ((nk_na 4 h (if 10 < v1 then v1 else 10)).bind fun h10 => ((nk_pP [7] 1 h10 (some t0) (some (nk_N h))).bind fun h11 => some (h11, (some (nk_N h))))) else (f_Jx4a65c_grow_92f84_c20   h t0 v1 x8))))))
def f_Jx4a65c_grow_d5877  (h : nk_H) (t0 : Nat) : Option (nk_H × Option Nat) := ((nk_gI [7] 2 h (some t0)).bind fun x1 => ((nk_rcv [7] h (some t0)).bind fun a2 => nk_do (f_Jx4a65c_grow_92f84 h a2 (x1 + 1)) fun h3 x4 => some (h3, x4)))
def f_Jx4a65c_size_8abf5  (h : nk_H) (t0 : Nat) : Option (nk_H × Int32) := ((nk_gI [7] 2 h (some t0)).bind fun x1 => some (h, x1))
def f_Jx4a65c_elementData_915e3  (h : nk_H) (t0 : Nat) (v1 : Int32) : Option (nk_H × Option Nat) := ((nk_gP [7] 1 h (some t0)).bind fun x1 => ((nk_aP 4 h x1 v1).bind fun x2 => some (h, x2)))
def f_J3_checkIndex_8e157_c9   (h : nk_H) (v0 : Int32) (v1 : Int32) (v2 : Option Nat)  : Option (nk_H × Int32) := none
def f_J3_checkIndex_8e157  (h : nk_H) (v0 : Int32) (v1 : Int32) (v2 : Option Nat) : Option (nk_H × Int32) := (if v0 < 0 then (f_J3_checkIndex_8e157_c9   h v0 v1 v2) else (if v0 < v1 then some (h, v0) else (f_J3_checkIndex_8e157_c9   h v0 v1 v2)))
def f_J15_checkIndex_7cf53  (h : nk_H) (v0 : Int32) (v1 : Int32) : Option (nk_H × Int32) := (nk_do (f_J3_checkIndex_8e157 h v0 v1 none) fun h1 x2 => some (h1, x2))
def f_Jx4a65c_get_915e3  (h : nk_H) (t0 : Nat) (v1 : Int32) : Option (nk_H × Option Nat) := ((nk_gI [7] 2 h (some t0)).bind fun x1 => (nk_do (f_J15_checkIndex_7cf53 h v1 x1) fun h2 x3 => ((nk_rcv [7] h2 (some t0)).bind fun a4 => nk_do (f_Jx4a65c_elementData_915e3 h2 a4 v1) fun h5 x6 => some (h5, x6))))
def f_Jx4a65c_add_72be8_c11   (h : nk_H) (t0 : Nat) (v1 : Option Nat) (v2 : Option Nat) (v3 : Int32)  : Option (nk_H × Unit) := ((nk_wP 4 h v2 v3 v1).bind fun h1 => ((nk_pI [7] 2 h1 (some t0) (v3 + 1)).bind fun h2 => some (h2, ())))
def f_Jx4a65c_add_72be8  (h : nk_H) (t0 : Nat) (v1 : Option Nat) (v2 : Option Nat) (v3 : Int32) : Option (nk_H × Unit) := ((nk_len h v2).bind fun x3 => (if v3 = x3 then ((nk_rcv [7] h (some t0)).bind fun a4 => nk_do (f_Jx4a65c_grow_d5877 h a4) fun h5 x6 => (f_Jx4a65c_add_72be8_c11   h5 t0 v1 x6 v3)) else (f_Jx4a65c_add_72be8_c11   h t0 v1 v2 v3)))
def f_Jx4a65c_add_9ea2d  (h : nk_H) (t0 : Nat) (v1 : Option Nat) : Option (nk_H × Int32) := ((nk_gI [7] 0 h (some t0)).bind fun x1 => ((nk_pI [7] 0 h (some t0) (x1 + 1)).bind fun h2 => ((nk_gP [7] 1 h2 (some t0)).bind fun x3 => ((nk_gI [7] 2 h2 (some t0)).bind fun x4 => ((nk_rcv [7] h2 (some t0)).bind fun a5 => nk_do (f_Jx4a65c_add_72be8 h2 a5 v1 x3 x4) fun h6 x7 => (nk_zr 1 (h6, 1)))))))
def f_J7_fill_53178_c5  (r5 : nk_H → Option Nat → Int32 → Int32 → Int32 → Option (nk_H × Unit)) (h : nk_H) (v0 : Option Nat) (v1 : Int32) (v2 : Int32) (v3 : Int32)  : Option (nk_H × Unit) := (if v3 ≤ v2 then some (h, ()) else ((nk_wI h v0 v2 v1).bind fun h1 => (r5 h1 v0 v1 (v2 + 1) v3)))
def f_J7_fill_53178_b5   : Nat → nk_H → Option Nat → Int32 → Int32 → Int32 → Option (nk_H × Unit)
  | 0 => fun _ _ _ _ _ => none
  | n + 1 => f_J7_fill_53178_c5  (f_J7_fill_53178_b5   n)
def f_J7_fill_53178  (h : nk_H) (v0 : Option Nat) (v1 : Int32) : Option (nk_H × Unit) := ((nk_len h v0).bind fun x2 => (f_J7_fill_53178_b5   4096 h v0 v1 0 x2))
def f_X8_init  (h : nk_H) (t0 : Nat) : Option (nk_H × Unit) := ((nk_na 1 h 6).bind fun h1 => ((nk_pP [8, 12, 16, 17] 5 h1 (some t0) (some (nk_N h))).bind fun h2 => ((nk_gP [8, 12, 16, 17] 5 h2 (some t0)).bind fun x3 => (nk_do (f_J7_fill_53178 h2 x3 (-1)) fun h4 x5 => some (h4, ())))))
def f_X0_init  (h : nk_H) (t0 : Nat) (v1 : Option Nat) (v2 : Option Nat) : Option (nk_H × Unit) := (nk_do (f_X8_init h t0) fun h1 x2 => ((nk_pP [8] 6 h1 (some t0) v1).bind fun h3 => ((nk_pP [8] 7 h3 (some t0) v2).bind fun h4 => ((nk_na 1 h4 6).bind fun h5 => ((nk_pP [8] 8 h5 (some t0) (some (nk_N h4))).bind fun h6 => ((nk_gP [8] 8 h6 (some t0)).bind fun x7 => ((nk_gI [11] 2 h6 v2).bind fun x8 => ((nk_wI h6 x7 0 x8).bind fun h9 => ((nk_gP [8] 8 h9 (some t0)).bind fun x10 => ((nk_gI [16] 6 h9 v1).bind fun x11 => ((nk_wI h9 x10 1 x11).bind fun h12 => ((nk_gP [8] 8 h12 (some t0)).bind fun x13 => ((nk_gI [11] 3 h12 v2).bind fun x14 => ((nk_wI h12 x13 2 x14).bind fun h15 => ((nk_gP [8] 8 h15 (some t0)).bind fun x16 => ((nk_gI [11] 4 h15 v2).bind fun x17 => ((nk_wI h15 x16 3 x17).bind fun h18 => ((nk_gP [8] 8 h18 (some t0)).bind fun x19 => ((nk_gI [11] 5 h18 v2).bind fun x20 => ((nk_wI h18 x19 4 x20).bind fun h21 => ((nk_gP [8] 8 h21 (some t0)).bind fun x22 => ((nk_gI [11] 1 h21 v2).bind fun x23 => ((nk_wI h21 x22 5 x23).bind fun h24 => some (h24, ()))))))))))))))))))))))))
def f_X9_hasInLine_c2  (r2 : nk_H → Option Nat → Option Nat → Option (nk_H × Int32)) (h : nk_H) (v1 : Option Nat) (v2 : Option Nat)  : Option (nk_H × Int32) := (if v2 = none then (nk_zr 0 (h, 0)) else (if v2 = v1 then (nk_zr 1 (h, 1)) else ((nk_gP [16] 7 h v2).bind fun x1 => (r2 h v1 x1))))
def f_X9_hasInLine_b2   : Nat → nk_H → Option Nat → Option Nat → Option (nk_H × Int32)
  | 0 => fun _ _ _ => none
  | n + 1 => f_X9_hasInLine_c2  (f_X9_hasInLine_b2   n)
def f_X9_hasInLine  (h : nk_H) (t0 : Nat) (v1 : Option Nat) : Option (nk_H × Int32) := (f_X9_hasInLine_b2   4096 h v1 (some t0))
def f_X0_amountBy_c22   (h : nk_H)  (s0 : Int32) : Option (nk_H × Int32) := some (h, s0)
def f_X0_amountBy  (h : nk_H) (t0 : Nat) (v1 : Option Nat) : Option (nk_H × Int32) := ((nk_gP [8] 6 h (some t0)).bind fun x1 => ((nk_rcv [16] h x1).bind fun a2 => nk_do (f_X9_hasInLine h a2 v1) fun h3 x4 => (if x4 = 0 then (f_X0_amountBy_c22   h3 0) else ((nk_gP [8] 7 h3 (some t0)).bind fun x5 => ((nk_gI [11] 4 h3 x5).bind fun x6 => (f_X0_amountBy_c22   h3 x6))))))
def f_X1_init  (h : nk_H) (t0 : Nat) (v1 : Int32) : Option (nk_H × Unit) := ((nk_pI [9] 0 h (some t0) v1).bind fun h1 => ((some (nk_al h1 7 0 3)).bind fun h2 => (nk_do (f_Jx4a65c_init_da8c8 h2 (nk_N h1)) fun h3 x4 => ((nk_pP [9] 1 h3 (some t0) (some (nk_N h1))).bind fun h5 => some (h5, ())))))
def f_X1_count  (h : nk_H) (t0 : Nat) : Option (nk_H × Int32) := ((nk_gP [9] 1 h (some t0)).bind fun x1 => ((nk_rcv [7] h x1).bind fun a2 => nk_do (f_Jx4a65c_size_8abf5 h a2) fun h3 x4 => some (h3, x4)))
def f_X1_actOf  (h : nk_H) (t0 : Nat) (v1 : Int32) : Option (nk_H × Option Nat) := ((nk_gP [9] 1 h (some t0)).bind fun x1 => ((nk_rcv [7] h x1).bind fun a2 => nk_do (f_Jx4a65c_get_915e3 h a2 v1) fun h3 x4 => ((nk_cc [8] h3 x4).bind fun _ => some (h3, x4))))
def f_X1_sealAhead_c31   (h : nk_H)  (s0 : Int32) : Option (nk_H × Int32) := some (h, s0)
def f_X1_sealAhead  (h : nk_H) (t0 : Nat) (v1 : Int32) : Option (nk_H × Int32) := (if v1 ≤ 0 then ((nk_gI [9] 0 h (some t0)).bind fun x1 => (f_X1_sealAhead_c31   h (1000 + x1))) else ((nk_gP [9] 1 h (some t0)).bind fun x2 => ((nk_rcv [7] h x2).bind fun a3 => nk_do (f_Jx4a65c_get_915e3 h a3 (v1 - 1)) fun h4 x5 => ((nk_cc [8] h4 x5).bind fun _ => ((nk_gI [8] 9 h4 x5).bind fun x7 => (f_X1_sealAhead_c31   h4 x7))))))
def f_X11_bit  (h : nk_H) (v0 : Int32) : Option (nk_H × Int32) := some (h, (1 <<< (v0 &&& 31)))
def f_X11_hasBit_c14   (h : nk_H)  (s0 : Int32) : Option (nk_H × Int32) := (nk_zr s0 (h, s0))
def f_X11_hasBit  (h : nk_H) (v0 : Int32) (v1 : Int32) : Option (nk_H × Int32) := (nk_do (f_X11_bit h v1) fun h1 x2 => (if (v0 &&& x2) = 0 then (f_X11_hasBit_c14   h1 0) else (f_X11_hasBit_c14   h1 1)))
def f_X11_saltOf  (h : nk_H) (v0 : Int32) (v1 : Int32) (v2 : Int32) : Option (nk_H × Int32) := some (h, (((7919 * v0) + (613 * v1)) + (97 * v2)))
def f_X11_sealOf  (h : nk_H) (v0 : Int32) (v1 : Int32) : Option (nk_H × Int32) := some (h, ((((131 * v0) + (17 * v1)) + 7) - (((131 * v0) + (17 * v1)) + 7) / 1000003 * 1000003))
def f_X11_markOf  (h : nk_H) (v0 : Int32) (v1 : Int32) (v2 : Int32) (v3 : Int32) : Option (nk_H × Int32) := (nk_do (f_X11_saltOf h v0 v1 v2) fun h1 x2 => (nk_do (f_X11_sealOf h1 x2 v3) fun h3 x4 => some (h3, x4)))
def f_X11_sealFrom_c48  (r6 : nk_H → Int32 → Int32 → Int32 → Option Nat → Int32 → Int32 → Int32 → Option (nk_H × Int32)) (h : nk_H) (v0 : Int32) (v1 : Int32) (v2 : Int32) (v3 : Option Nat) (v4 : Int32) (v5 : Int32) (v6 : Int32) (s0 : Int32) : Option (nk_H × Int32) := (nk_do (f_X11_sealOf h v5 s0) fun h1 x2 => (r6 h1 v0 v1 v2 v3 v4 x2 (v6 + 1)))
def f_X11_sealFrom_c65   (h : nk_H) (v0 : Int32) (v5 : Int32)  : Option (nk_H × Int32) := (nk_do (f_X11_sealOf h v0 v5) fun h3 x4 => some (h3, x4))
def f_X11_sealFrom_c6  (r6 : nk_H → Int32 → Int32 → Int32 → Option Nat → Int32 → Int32 → Int32 → Option (nk_H × Int32)) (h : nk_H) (v0 : Int32) (v1 : Int32) (v2 : Int32) (v3 : Option Nat) (v4 : Int32) (v5 : Int32) (v6 : Int32)  : Option (nk_H × Int32) := (if 6 ≤ v6 then (f_X11_sealFrom_c65   h v0 v5) else ((nk_len h v3).bind fun x5 => (if x5 ≤ v6 then (f_X11_sealFrom_c65   h v0 v5) else (nk_do (f_X11_hasBit h v4 v6) fun h6 x7 => (if x7 = 0 then ((nk_aI 1 h6 v3 v6).bind fun x8 => (nk_do (f_X11_markOf h6 v1 v2 v6 x8) fun h9 x10 => (f_X11_sealFrom_c48  r6 h9 v0 v1 v2 v3 v4 v5 v6 x10))) else ((nk_aI 1 h6 v3 v6).bind fun x11 => (f_X11_sealFrom_c48  r6 h6 v0 v1 v2 v3 v4 v5 v6 x11)))))))
def f_X11_sealFrom_b6   : Nat → nk_H → Int32 → Int32 → Int32 → Option Nat → Int32 → Int32 → Int32 → Option (nk_H × Int32)
  | 0 => fun _ _ _ _ _ _ _ _ => none
  | n + 1 => f_X11_sealFrom_c6  (f_X11_sealFrom_b6   n)
def f_X11_sealFrom  (h : nk_H) (v0 : Int32) (v1 : Int32) (v2 : Int32) (v3 : Option Nat) (v4 : Int32) : Option (nk_H × Int32) := (f_X11_sealFrom_b6   4096 h v0 v1 v2 v3 v4 1 0)
def f_X1_sealNow  (h : nk_H) (t0 : Nat) (v1 : Int32) (v2 : Option Nat) : Option (nk_H × Int32) := ((nk_rcv [9] h (some t0)).bind fun a1 => nk_do (f_X1_sealAhead h a1 v1) fun h2 x3 => ((nk_gI [9] 0 h2 (some t0)).bind fun x4 => ((nk_gP [8] 8 h2 v2).bind fun x5 => (nk_do (f_X11_sealFrom h2 x3 x4 v1 x5 0) fun h6 x7 => some (h6, x7)))))
def f_X1_enter  (h : nk_H) (t0 : Nat) (v1 : Option Nat) : Option (nk_H × Int32) := ((nk_gP [9] 1 h (some t0)).bind fun x1 => ((nk_rcv [7] h x1).bind fun a2 => nk_do (f_Jx4a65c_size_8abf5 h a2) fun h3 x4 => ((nk_rcv [9] h3 (some t0)).bind fun a5 => nk_do (f_X1_sealNow h3 a5 x4 v1) fun h6 x7 => ((nk_pI [8] 9 h6 v1 x7).bind fun h8 => ((nk_gP [9] 1 h8 (some t0)).bind fun x9 => ((nk_rcv [7] h8 x9).bind fun a10 => nk_do (f_Jx4a65c_add_9ea2d h8 a10 v1) fun h11 x12 => some (h11, x4)))))))
def f_X1_firstBroken_c2  (r2 : nk_H → Nat → Int32 → Option (nk_H × Int32)) (h : nk_H) (t0 : Nat) (v1 : Int32)  : Option (nk_H × Int32) := ((nk_gP [9] 1 h (some t0)).bind fun x1 => ((nk_rcv [7] h x1).bind fun a2 => nk_do (f_Jx4a65c_size_8abf5 h a2) fun h3 x4 => (if x4 ≤ v1 then some (h3, (-1)) else ((nk_gP [9] 1 h3 (some t0)).bind fun x5 => ((nk_rcv [7] h3 x5).bind fun a6 => nk_do (f_Jx4a65c_get_915e3 h3 a6 v1) fun h7 x8 => ((nk_cc [8] h7 x8).bind fun _ => ((nk_rcv [9] h7 (some t0)).bind fun a10 => nk_do (f_X1_sealNow h7 a10 v1 x8) fun h11 x12 => ((nk_gI [8] 9 h11 x8).bind fun x13 => (if x12 = x13 then (r2 h11 t0 (v1 + 1)) else some (h11, v1))))))))))
def f_X1_firstBroken_b2   : Nat → nk_H → Nat → Int32 → Option (nk_H × Int32)
  | 0 => fun _ _ _ => none
  | n + 1 => f_X1_firstBroken_c2  (f_X1_firstBroken_b2   n)
def f_X1_firstBroken  (h : nk_H) (t0 : Nat) : Option (nk_H × Int32) := (f_X1_firstBroken_b2   4096 h t0 0)
def f_X1_countStanding_c35  (r4 : nk_H → Nat → Int32 → Int32 → Option (nk_H × Int32)) (h : nk_H) (t0 : Nat) (v1 : Int32) (v2 : Int32)  : Option (nk_H × Int32) := (r4 h t0 v1 (v2 + 1))
def f_X1_countStanding_c4  (r4 : nk_H → Nat → Int32 → Int32 → Option (nk_H × Int32)) (h : nk_H) (t0 : Nat) (v1 : Int32) (v2 : Int32)  : Option (nk_H × Int32) := ((nk_gP [9] 1 h (some t0)).bind fun x1 => ((nk_rcv [7] h x1).bind fun a2 => nk_do (f_Jx4a65c_size_8abf5 h a2) fun h3 x4 => (if x4 ≤ v2 then some (h3, v1) else ((nk_gP [9] 1 h3 (some t0)).bind fun x5 => ((nk_rcv [7] h3 x5).bind fun a6 => nk_do (f_Jx4a65c_get_915e3 h3 a6 v2) fun h7 x8 => ((nk_cc [8] h7 x8).bind fun _ => ((nk_gI [8] 10 h7 x8).bind fun x10 => (if x10 = 0 then (f_X1_countStanding_c35  r4 h7 t0 v1 v2) else (f_X1_countStanding_c35  r4 h7 t0 (v1 + 1) v2)))))))))
def f_X1_countStanding_b4   : Nat → nk_H → Nat → Int32 → Int32 → Option (nk_H × Int32)
  | 0 => fun _ _ _ _ => none
  | n + 1 => f_X1_countStanding_c4  (f_X1_countStanding_b4   n)
def f_X1_countStanding  (h : nk_H) (t0 : Nat) : Option (nk_H × Int32) := (f_X1_countStanding_b4   4096 h t0 0 0)
def f_X2_init  (h : nk_H) (t0 : Nat) (v1 : Int32) (v2 : Int32) (v3 : Int32) (v4 : Int32) : Option (nk_H × Unit) := ((nk_pI [10] 0 h (some t0) v1).bind fun h1 => ((nk_pI [10] 1 h1 (some t0) v2).bind fun h2 => ((nk_pI [10] 2 h2 (some t0) v3).bind fun h3 => ((nk_pI [10] 3 h3 (some t0) v4).bind fun h4 => ((nk_mna h4 v3 6).bind fun h5 => ((nk_pP [10] 4 h5 (some t0) (some (nk_N h4))).bind fun h6 => ((nk_na 1 h6 v3).bind fun h7 => ((nk_pP [10] 5 h7 (some t0) (some (nk_N h6))).bind fun h8 => some (h8, ())))))))))
def f_X2_leavesOut  (h : nk_H) (t0 : Nat) (v1 : Int32) : Option (nk_H × Int32) := ((nk_gI [10] 3 h (some t0)).bind fun x1 => (nk_do (f_X11_hasBit h x1 v1) fun h2 x3 => (nk_zr x3 (h2, x3))))
def f_X2_takeFrom_c102  (r14 : nk_H → Nat → Option Nat → Int32 → Option (nk_H × Unit)) (r46 : nk_H → Nat → Option Nat → Int32 → Option Nat → Int32 → Option (nk_H × Unit)) (h : nk_H) (t0 : Nat) (v1 : Option Nat) (v2 : Int32) (v3 : Option Nat) (v4 : Int32) (s0 : Int32) (s1 : Int32) (s2 : Option Nat) : Option (nk_H × Unit) := ((nk_wI h s2 s1 s0).bind fun h1 => (r46 h1 t0 v1 v2 v3 (v4 + 1)))
def f_X2_takeFrom_c46  (r14 : nk_H → Nat → Option Nat → Int32 → Option (nk_H × Unit)) (r46 : nk_H → Nat → Option Nat → Int32 → Option Nat → Int32 → Option (nk_H × Unit)) (h : nk_H) (t0 : Nat) (v1 : Option Nat) (v2 : Int32) (v3 : Option Nat) (v4 : Int32)  : Option (nk_H × Unit) := (if 6 ≤ v4 then (r14 h t0 v1 (v2 + 1)) else ((nk_gP [10] 4 h (some t0)).bind fun x2 => ((nk_aP 5 h x2 v2).bind fun x3 => ((nk_rcv [10] h (some t0)).bind fun a4 => nk_do (f_X2_leavesOut h a4 v4) fun h5 x6 => (if x6 = 0 then ((nk_gP [8] 8 h5 v3).bind fun x7 => ((nk_aI 1 h5 x7 v4).bind fun x8 => (f_X2_takeFrom_c102  r14 r46 h5 t0 v1 v2 v3 v4 x8 v4 x3))) else ((nk_gI [10] 0 h5 (some t0)).bind fun x9 => ((nk_gI [10] 1 h5 (some t0)).bind fun x10 => ((nk_gP [8] 8 h5 v3).bind fun x11 => ((nk_aI 1 h5 x11 v4).bind fun x12 => (nk_do (f_X11_markOf h5 x9 (x10 + v2) v4 x12) fun h13 x14 => (f_X2_takeFrom_c102  r14 r46 h13 t0 v1 v2 v3 v4 x14 v4 x3)))))))))))
def f_X2_takeFrom_b46  (r14 : nk_H → Nat → Option Nat → Int32 → Option (nk_H × Unit)) : Nat → nk_H → Nat → Option Nat → Int32 → Option Nat → Int32 → Option (nk_H × Unit)
  | 0 => fun _ _ _ _ _ _ => none
  | n + 1 => f_X2_takeFrom_c46  r14 (f_X2_takeFrom_b46  r14 n)
def f_X2_takeFrom_c14  (r14 : nk_H → Nat → Option Nat → Int32 → Option (nk_H × Unit)) (h : nk_H) (t0 : Nat) (v1 : Option Nat) (v2 : Int32)  : Option (nk_H × Unit) := ((nk_gI [10] 2 h (some t0)).bind fun x15 => (if x15 ≤ v2 then some (h, ()) else ((nk_gI [10] 1 h (some t0)).bind fun x16 => ((nk_rcv [9] h v1).bind fun a17 => nk_do (f_X1_actOf h a17 (x16 + v2)) fun h18 x19 => ((nk_gP [10] 5 h18 (some t0)).bind fun x20 => ((nk_gI [8] 9 h18 x19).bind fun x21 => ((nk_wI h18 x20 v2 x21).bind fun h22 => (f_X2_takeFrom_b46  r14 4096 h22 t0 v1 v2 x19 0))))))))
def f_X2_takeFrom_b14   : Nat → nk_H → Nat → Option Nat → Int32 → Option (nk_H × Unit)
  | 0 => fun _ _ _ _ => none
  | n + 1 => f_X2_takeFrom_c14  (f_X2_takeFrom_b14   n)
def f_X2_takeFrom  (h : nk_H) (t0 : Nat) (v1 : Option Nat) : Option (nk_H × Unit) := ((nk_gI [10] 1 h (some t0)).bind fun x23 => ((nk_rcv [9] h v1).bind fun a24 => nk_do (f_X1_sealAhead h a24 x23) fun h25 x26 => ((nk_pI [10] 6 h25 (some t0) x26).bind fun h27 => (f_X2_takeFrom_b14   4096 h27 t0 v1 0))))
def f_X2_firstBroken_c7  (r7 : nk_H → Nat → Int32 → Int32 → Option (nk_H × Int32)) (h : nk_H) (t0 : Nat) (v1 : Int32) (v2 : Int32)  : Option (nk_H × Int32) := ((nk_gI [10] 2 h (some t0)).bind fun x1 => (if x1 ≤ v2 then some (h, (-1)) else ((nk_gI [10] 0 h (some t0)).bind fun x2 => ((nk_gI [10] 1 h (some t0)).bind fun x3 => ((nk_gP [10] 4 h (some t0)).bind fun x4 => ((nk_aP 5 h x4 v2).bind fun x5 => ((nk_gI [10] 3 h (some t0)).bind fun x6 => (nk_do (f_X11_sealFrom h v1 x2 (x3 + v2) x5 x6) fun h7 x8 => ((nk_gP [10] 5 h7 (some t0)).bind fun x9 => ((nk_aI 1 h7 x9 v2).bind fun x10 => (if x8 = x10 then ((nk_gP [10] 5 h7 (some t0)).bind fun x11 => ((nk_aI 1 h7 x11 v2).bind fun x12 => (r7 h7 t0 x12 (v2 + 1)))) else some (h7, v2))))))))))))
def f_X2_firstBroken_b7   : Nat → nk_H → Nat → Int32 → Int32 → Option (nk_H × Int32)
  | 0 => fun _ _ _ _ => none
  | n + 1 => f_X2_firstBroken_c7  (f_X2_firstBroken_b7   n)
def f_X2_firstBroken  (h : nk_H) (t0 : Nat) : Option (nk_H × Int32) := ((nk_gI [10] 6 h (some t0)).bind fun x13 => (f_X2_firstBroken_b7   4096 h t0 x13 0))
def f_X2_tellsRecordAs_c50  (r17 : nk_H → Nat → Int32 → Option Nat → Int32 → Option (nk_H × Int32)) (h : nk_H) (t0 : Nat) (v1 : Int32) (v2 : Option Nat) (v3 : Int32)  : Option (nk_H × Int32) := (r17 h t0 v1 v2 (v3 + 1))
def f_X2_tellsRecordAs_c17  (r17 : nk_H → Nat → Int32 → Option Nat → Int32 → Option (nk_H × Int32)) (h : nk_H) (t0 : Nat) (v1 : Int32) (v2 : Option Nat) (v3 : Int32)  : Option (nk_H × Int32) := (if 6 ≤ v3 then (nk_zr 1 (h, 1)) else ((nk_rcv [10] h (some t0)).bind fun a1 => nk_do (f_X2_leavesOut h a1 v3) fun h2 x3 => (if x3 = 0 then ((nk_gP [10] 4 h2 (some t0)).bind fun x4 => ((nk_aP 5 h2 x4 v1).bind fun x5 => ((nk_aI 1 h2 x5 v3).bind fun x6 => ((nk_gP [8] 8 h2 v2).bind fun x7 => ((nk_aI 1 h2 x7 v3).bind fun x8 => (if x6 = x8 then (f_X2_tellsRecordAs_c50  r17 h2 t0 v1 v2 v3) else (nk_zr 0 (h2, 0)))))))) else (f_X2_tellsRecordAs_c50  r17 h2 t0 v1 v2 v3))))
def f_X2_tellsRecordAs_b17   : Nat → nk_H → Nat → Int32 → Option Nat → Int32 → Option (nk_H × Int32)
  | 0 => fun _ _ _ _ _ => none
  | n + 1 => f_X2_tellsRecordAs_c17  (f_X2_tellsRecordAs_b17   n)
def f_X2_tellsRecordAs  (h : nk_H) (t0 : Nat) (v1 : Int32) (v2 : Option Nat) : Option (nk_H × Int32) := ((nk_gP [10] 5 h (some t0)).bind fun x9 => ((nk_aI 1 h x9 v1).bind fun x10 => ((nk_gI [8] 9 h v2).bind fun x11 => (if x10 = x11 then (f_X2_tellsRecordAs_b17   4096 h t0 v1 v2 0) else (nk_zr 0 (h, 0))))))
def f_X2_tellsAs_c2  (r2 : nk_H → Nat → Option Nat → Int32 → Option (nk_H × Int32)) (h : nk_H) (t0 : Nat) (v1 : Option Nat) (v2 : Int32)  : Option (nk_H × Int32) := ((nk_gI [10] 2 h (some t0)).bind fun x1 => (if x1 ≤ v2 then (nk_zr 1 (h, 1)) else ((nk_gI [10] 1 h (some t0)).bind fun x2 => ((nk_rcv [9] h v1).bind fun a3 => nk_do (f_X1_actOf h a3 (x2 + v2)) fun h4 x5 => ((nk_rcv [10] h4 (some t0)).bind fun a6 => nk_do (f_X2_tellsRecordAs h4 a6 v2 x5) fun h7 x8 => (if x8 = 0 then (nk_zr 0 (h7, 0)) else (r2 h7 t0 v1 (v2 + 1))))))))
def f_X2_tellsAs_b2   : Nat → nk_H → Nat → Option Nat → Int32 → Option (nk_H × Int32)
  | 0 => fun _ _ _ _ => none
  | n + 1 => f_X2_tellsAs_c2  (f_X2_tellsAs_b2   n)
def f_X2_tellsAs  (h : nk_H) (t0 : Nat) (v1 : Option Nat) : Option (nk_H × Int32) := (f_X2_tellsAs_b2   4096 h t0 v1 0)
def f_X3_init  (h : nk_H) (t0 : Nat) (v1 : Int32) (v2 : Int32) (v3 : Int32) (v4 : Int32) (v5 : Int32) (v6 : Int32) : Option (nk_H × Unit) := ((nk_pI [11] 0 h (some t0) v1).bind fun h1 => ((nk_pI [11] 1 h1 (some t0) v2).bind fun h2 => ((nk_pI [11] 2 h2 (some t0) v3).bind fun h3 => ((nk_pI [11] 3 h3 (some t0) v4).bind fun h4 => ((nk_pI [11] 4 h4 (some t0) v5).bind fun h5 => ((nk_pI [11] 5 h5 (some t0) v6).bind fun h6 => some (h6, ())))))))
def f_X4_init  (h : nk_H) (t0 : Nat) (v1 : Int32) (v2 : Int32) (v3 : Int32) : Option (nk_H × Unit) := (nk_do (f_X8_init h t0) fun h1 x2 => ((nk_pI [12] 6 h1 (some t0) v1).bind fun h3 => ((nk_pI [12] 7 h3 (some t0) v2).bind fun h4 => ((nk_pI [12] 8 h4 (some t0) v3).bind fun h5 => some (h5, ())))))
def f_X4_isDeputation_c29   (h : nk_H)  (s0 : Int32) : Option (nk_H × Int32) := (nk_zr s0 (h, s0))
def f_X4_isDeputation_c28   (h : nk_H)   : Option (nk_H × Int32) := (f_X4_isDeputation_c29   h 0)
def f_X4_isDeputation  (h : nk_H) (t0 : Nat) (v1 : Int32) (v2 : Int32) (v3 : Int32) : Option (nk_H × Int32) := ((nk_gI [12] 6 h (some t0)).bind fun x1 => (if v1 = x1 then ((nk_gI [12] 8 h (some t0)).bind fun x2 => (if x2 < v2 then (f_X4_isDeputation_c28   h) else ((nk_gI [12] 7 h (some t0)).bind fun x3 => (if v3 < x3 then (f_X4_isDeputation_c28   h) else (f_X4_isDeputation_c29   h 1))))) else (f_X4_isDeputation_c28   h)))
def f_X5_init  (h : nk_H) (t0 : Nat) (v1 : Int32) (v2 : Int32) (v3 : Int32) (v4 : Int32) (v5 : Int32) : Option (nk_H × Unit) := ((nk_pI [13] 0 h (some t0) v1).bind fun h1 => ((nk_pI [13] 1 h1 (some t0) v2).bind fun h2 => ((nk_pI [13] 2 h2 (some t0) v3).bind fun h3 => ((nk_pI [13] 3 h3 (some t0) v4).bind fun h4 => ((nk_pI [13] 4 h4 (some t0) v5).bind fun h5 => some (h5, ()))))))
def f_X6_init  (h : nk_H) (t0 : Nat) : Option (nk_H × Unit) := ((nk_na 1 h 6).bind fun h1 => ((nk_pP [14] 0 h1 (some t0) (some (nk_N h))).bind fun h2 => ((nk_na 1 h2 2406).bind fun h3 => ((nk_pP [14] 1 h3 (some t0) (some (nk_N h2))).bind fun h4 => some (h4, ())))))
def f_X6_areLinked  (h : nk_H) (t0 : Nat) (v1 : Int32) (v2 : Int32) : Option (nk_H × Int32) := ((nk_gP [14] 0 h (some t0)).bind fun x1 => ((nk_aI 1 h x1 v1).bind fun x2 => (nk_do (f_X11_hasBit h x2 v2) fun h3 x4 => (nk_zr x4 (h3, x4)))))
def f_X6_degree  (h : nk_H) (t0 : Nat) (v1 : Int32) : Option (nk_H × Int32) := ((nk_gP [14] 0 h (some t0)).bind fun x1 => ((nk_aI 1 h x1 v1).bind fun x2 => (nk_do (f_J6_bitCount_0f7a4 h x2) fun h3 x4 => some (h3, x4))))
def f_X6_turn  (h : nk_H) (t0 : Nat) (v1 : Int32) (v2 : Int32) : Option (nk_H × Unit) := ((nk_gP [14] 0 h (some t0)).bind fun x1 => ((nk_aI 1 h x1 v1).bind fun x2 => (nk_do (f_X11_bit h v2) fun h3 x4 => ((nk_wI h3 x1 v1 (x2 ^^^ x4)).bind fun h5 => ((nk_gP [14] 0 h5 (some t0)).bind fun x6 => ((nk_aI 1 h5 x6 v2).bind fun x7 => (nk_do (f_X11_bit h5 v1) fun h8 x9 => ((nk_wI h8 x6 v2 (x7 ^^^ x9)).bind fun h10 => some (h10, ())))))))))
def f_X6_keep  (h : nk_H) (t0 : Nat) (v1 : Int32) : Option (nk_H × Unit) := ((nk_gP [14] 0 h (some t0)).bind fun x1 => ((nk_gP [14] 1 h (some t0)).bind fun x2 => ((nk_cpI h x1 0 x2 (v1 * 6) 6).bind fun h3 => some (h3, ()))))
def f_X6_reach_c36  (r5 : nk_H → Nat → Int32 → Int32 → Int32 → Int32 → Option (nk_H × Int32)) (h : nk_H) (t0 : Nat) (v1 : Int32) (v2 : Int32) (v3 : Int32) (v4 : Int32)  : Option (nk_H × Int32) := (r5 h t0 v1 v2 v3 (v4 + 1))
def f_X6_reach_c5  (r5 : nk_H → Nat → Int32 → Int32 → Int32 → Int32 → Option (nk_H × Int32)) (h : nk_H) (t0 : Nat) (v1 : Int32) (v2 : Int32) (v3 : Int32) (v4 : Int32)  : Option (nk_H × Int32) := (if 6 ≤ v4 then some (h, v3) else (nk_do (f_X11_hasBit h v1 v4) fun h1 x2 => (if x2 = 0 then (f_X6_reach_c36  r5 h1 t0 v1 v2 v3 v4) else ((nk_gP [14] 1 h1 (some t0)).bind fun x3 => ((nk_aI 1 h1 x3 ((v2 * 6) + v4)).bind fun x4 => (f_X6_reach_c36  r5 h1 t0 v1 v2 (v3 ||| x4) v4))))))
def f_X6_reach_b5   : Nat → nk_H → Nat → Int32 → Int32 → Int32 → Int32 → Option (nk_H × Int32)
  | 0 => fun _ _ _ _ _ _ => none
  | n + 1 => f_X6_reach_c5  (f_X6_reach_b5   n)
def f_X6_reach  (h : nk_H) (t0 : Nat) (v1 : Int32) (v2 : Int32) : Option (nk_H × Int32) := (f_X6_reach_b5   4096 h t0 v1 v2 v1 0)
def f_X7_init  (h : nk_H) (t0 : Nat) : Option (nk_H × Unit) := ((some (nk_al h 7 0 3)).bind fun h1 => (nk_do (f_Jx4a65c_init_da8c8 h1 (nk_N h)) fun h2 x3 => ((nk_pP [15] 0 h2 (some t0) (some (nk_N h))).bind fun h4 => ((nk_na 2 h4 160).bind fun h5 => ((nk_pP [15] 1 h5 (some t0) (some (nk_N h4))).bind fun h6 => some (h6, ()))))))
def f_X7_count  (h : nk_H) (t0 : Nat) : Option (nk_H × Int32) := ((nk_gP [15] 0 h (some t0)).bind fun x1 => ((nk_rcv [7] h x1).bind fun a2 => nk_do (f_Jx4a65c_size_8abf5 h a2) fun h3 x4 => some (h3, x4)))
def f_X7_pieceAt  (h : nk_H) (t0 : Nat) (v1 : Int32) : Option (nk_H × Option Nat) := ((nk_gP [15] 0 h (some t0)).bind fun x1 => ((nk_rcv [7] h x1).bind fun a2 => nk_do (f_Jx4a65c_get_915e3 h a2 v1) fun h3 x4 => ((nk_cc [8, 12, 16, 17] h3 x4).bind fun _ => some (h3, x4))))
def f_X8_comeTo  (h : nk_H) (t0 : Nat) (v1 : Int32) (v2 : Int32) : Option (nk_H × Unit) := ((nk_gP [8, 12, 16, 17] 5 h (some t0)).bind fun x1 => ((nk_wI h x1 v1 v2).bind fun h2 => ((nk_gI [8, 12, 16, 17] 3 h2 (some t0)).bind fun x3 => (nk_do (f_X11_bit h2 v1) fun h4 x5 => ((nk_pI [8, 12, 16, 17] 3 h4 (some t0) (x3 ||| x5)).bind fun h6 => some (h6, ()))))))
def f_X7_publish  (h : nk_H) (t0 : Nat) (v1 : Option Nat) (v2 : Int32) (v3 : Int32) : Option (nk_H × Int32) := ((nk_gP [15] 0 h (some t0)).bind fun x1 => ((nk_rcv [7] h x1).bind fun a2 => nk_do (f_Jx4a65c_size_8abf5 h a2) fun h3 x4 => ((nk_pI [8, 12, 16, 17] 0 h3 v1 x4).bind fun h5 => ((nk_pI [8, 12, 16, 17] 1 h5 v1 v2).bind fun h6 => ((nk_pI [8, 12, 16, 17] 2 h6 v1 v3).bind fun h7 => ((nk_rcv [8, 12, 16, 17] h7 v1).bind fun a8 => nk_do (f_X8_comeTo h7 a8 v2 v3) fun h9 x10 => (nk_do (f_X11_bit h9 v2) fun h11 x12 => ((nk_pI [8, 12, 16, 17] 4 h11 v1 x12).bind fun h13 => ((nk_gP [15] 0 h13 (some t0)).bind fun x14 => ((nk_rcv [7] h13 x14).bind fun a15 => nk_do (f_Jx4a65c_add_9ea2d h13 a15 v1) fun h16 x17 => ((nk_gI [8, 12, 16, 17] 0 h16 v1).bind fun x18 => some (h16, x18))))))))))))
def f_X7_spread_c79  (r5 : nk_H → Nat → Option Nat → Int32 → Int32 → Int32 → Option (nk_H × Int32)) (r54 : nk_H → Nat → Option Nat → Int32 → Int32 → Int32 → Option Nat → Int32 → Int32 → Option (nk_H × Int32)) (h : nk_H) (t0 : Nat) (v1 : Option Nat) (v2 : Int32) (v3 : Int32) (v4 : Int32) (v5 : Option Nat) (v6 : Int32) (v7 : Int32)  : Option (nk_H × Int32) := (r54 h t0 v1 v2 v3 v4 v5 v6 (v7 + 1))
def f_X7_spread_c54  (r5 : nk_H → Nat → Option Nat → Int32 → Int32 → Int32 → Option (nk_H × Int32)) (r54 : nk_H → Nat → Option Nat → Int32 → Int32 → Int32 → Option Nat → Int32 → Int32 → Option (nk_H × Int32)) (h : nk_H) (t0 : Nat) (v1 : Option Nat) (v2 : Int32) (v3 : Int32) (v4 : Int32) (v5 : Option Nat) (v6 : Int32) (v7 : Int32)  : Option (nk_H × Int32) := (if 6 ≤ v7 then (nk_do (f_J6_bitCount_0f7a4 h v6) fun h1 x2 => (r5 h1 t0 v1 v2 (v3 + x2) (v4 + 1))) else (nk_do (f_X11_hasBit h v6 v7) fun h3 x4 => (if x4 = 0 then (f_X7_spread_c79  r5 r54 h3 t0 v1 v2 v3 v4 v5 v6 v7) else ((nk_rcv [8, 12, 16, 17] h3 v5).bind fun a5 => nk_do (f_X8_comeTo h3 a5 v7 v2) fun h6 x7 => (f_X7_spread_c79  r5 r54 h6 t0 v1 v2 v3 v4 v5 v6 v7)))))
def f_X7_spread_b54  (r5 : nk_H → Nat → Option Nat → Int32 → Int32 → Int32 → Option (nk_H × Int32)) : Nat → nk_H → Nat → Option Nat → Int32 → Int32 → Int32 → Option Nat → Int32 → Int32 → Option (nk_H × Int32)
  | 0 => fun _ _ _ _ _ _ _ _ _ => none
  | n + 1 => f_X7_spread_c54  r5 (f_X7_spread_b54  r5 n)
def f_X7_spread_c5  (r5 : nk_H → Nat → Option Nat → Int32 → Int32 → Int32 → Option (nk_H × Int32)) (h : nk_H) (t0 : Nat) (v1 : Option Nat) (v2 : Int32) (v3 : Int32) (v4 : Int32)  : Option (nk_H × Int32) := ((nk_gP [15] 0 h (some t0)).bind fun x8 => ((nk_rcv [7] h x8).bind fun a9 => nk_do (f_Jx4a65c_size_8abf5 h a9) fun h10 x11 => (if x11 ≤ v4 then some (h10, v3) else ((nk_gP [15] 0 h10 (some t0)).bind fun x12 => ((nk_rcv [7] h10 x12).bind fun a13 => nk_do (f_Jx4a65c_get_915e3 h10 a13 v4) fun h14 x15 => ((nk_cc [8, 12, 16, 17] h14 x15).bind fun _ => ((nk_gI [8, 12, 16, 17] 3 h14 x15).bind fun x17 => ((nk_rcv [14] h14 v1).bind fun a18 => nk_do (f_X6_reach h14 a18 x17 v2) fun h19 x20 => ((nk_gI [8, 12, 16, 17] 3 h19 x15).bind fun x21 => (f_X7_spread_b54  r5 4096 h19 t0 v1 v2 v3 v4 x15 (x20 &&& (x21 ^^^ (-1))) 0))))))))))
def f_X7_spread_b5   : Nat → nk_H → Nat → Option Nat → Int32 → Int32 → Int32 → Option (nk_H × Int32)
  | 0 => fun _ _ _ _ _ _ => none
  | n + 1 => f_X7_spread_c5  (f_X7_spread_b5   n)
def f_X7_spread  (h : nk_H) (t0 : Nat) (v1 : Option Nat) (v2 : Int32) : Option (nk_H × Int32) := (f_X7_spread_b5   4096 h t0 v1 v2 0 0)
def f_X8_isInMail  (h : nk_H) (t0 : Nat) (v1 : Int32) : Option (nk_H × Int32) := ((nk_gI [8, 12, 16, 17] 3 h (some t0)).bind fun x1 => ((nk_gI [8, 12, 16, 17] 4 h (some t0)).bind fun x2 => (nk_do (f_X11_hasBit h (x1 &&& (x2 ^^^ (-1))) v1) fun h3 x4 => (nk_zr x4 (h3, x4)))))
def f_X7_unread_c36  (r4 : nk_H → Nat → Int32 → Int32 → Int32 → Option (nk_H × Int32)) (h : nk_H) (t0 : Nat) (v1 : Int32) (v2 : Int32) (v3 : Int32)  : Option (nk_H × Int32) := (r4 h t0 v1 v2 (v3 + 1))
def f_X7_unread_c4  (r4 : nk_H → Nat → Int32 → Int32 → Int32 → Option (nk_H × Int32)) (h : nk_H) (t0 : Nat) (v1 : Int32) (v2 : Int32) (v3 : Int32)  : Option (nk_H × Int32) := ((nk_gP [15] 0 h (some t0)).bind fun x1 => ((nk_rcv [7] h x1).bind fun a2 => nk_do (f_Jx4a65c_size_8abf5 h a2) fun h3 x4 => (if x4 ≤ v3 then some (h3, v2) else ((nk_gP [15] 0 h3 (some t0)).bind fun x5 => ((nk_rcv [7] h3 x5).bind fun a6 => nk_do (f_Jx4a65c_get_915e3 h3 a6 v3) fun h7 x8 => ((nk_cc [8, 12, 16, 17] h7 x8).bind fun _ => ((nk_rcv [8, 12, 16, 17] h7 x8).bind fun a10 => nk_do (f_X8_isInMail h7 a10 v1) fun h11 x12 => (if x12 = 0 then (f_X7_unread_c36  r4 h11 t0 v1 v2 v3) else (f_X7_unread_c36  r4 h11 t0 v1 (v2 + 1) v3)))))))))
def f_X7_unread_b4   : Nat → nk_H → Nat → Int32 → Int32 → Int32 → Option (nk_H × Int32)
  | 0 => fun _ _ _ _ _ => none
  | n + 1 => f_X7_unread_c4  (f_X7_unread_b4   n)
def f_X7_unread  (h : nk_H) (t0 : Nat) (v1 : Int32) : Option (nk_H × Int32) := (f_X7_unread_b4   4096 h t0 v1 0 0)
def f_X7_readMail_c55  (r8 : nk_H → Nat → Int32 → Int32 → Int32 → Option (nk_H × Int32)) (h : nk_H) (t0 : Nat) (v1 : Int32) (v2 : Int32) (v3 : Int32)  : Option (nk_H × Int32) := (r8 h t0 v1 v2 (v3 + 1))
def f_X7_readMail_c8  (r8 : nk_H → Nat → Int32 → Int32 → Int32 → Option (nk_H × Int32)) (h : nk_H) (t0 : Nat) (v1 : Int32) (v2 : Int32) (v3 : Int32)  : Option (nk_H × Int32) := ((nk_gP [15] 0 h (some t0)).bind fun x1 => ((nk_rcv [7] h x1).bind fun a2 => nk_do (f_Jx4a65c_size_8abf5 h a2) fun h3 x4 => (if x4 ≤ v3 then some (h3, v2) else ((nk_gP [15] 0 h3 (some t0)).bind fun x5 => ((nk_rcv [7] h3 x5).bind fun a6 => nk_do (f_Jx4a65c_get_915e3 h3 a6 v3) fun h7 x8 => ((nk_cc [8, 12, 16, 17] h7 x8).bind fun _ => ((nk_rcv [8, 12, 16, 17] h7 x8).bind fun a10 => nk_do (f_X8_isInMail h7 a10 v1) fun h11 x12 => (if x12 = 0 then (f_X7_readMail_c55  r8 h11 t0 v1 v2 v3) else ((nk_gI [8, 12, 16, 17] 4 h11 x8).bind fun x13 => (nk_do (f_X11_bit h11 v1) fun h14 x15 => ((nk_pI [8, 12, 16, 17] 4 h14 x8 (x13 ||| x15)).bind fun h16 => (f_X7_readMail_c55  r8 h16 t0 v1 v2 v3))))))))))))
def f_X7_readMail_b8   : Nat → nk_H → Nat → Int32 → Int32 → Int32 → Option (nk_H × Int32)
  | 0 => fun _ _ _ _ _ => none
  | n + 1 => f_X7_readMail_c8  (f_X7_readMail_b8   n)
def f_X7_readMail  (h : nk_H) (t0 : Nat) (v1 : Int32) : Option (nk_H × Int32) := ((nk_rcv [15] h (some t0)).bind fun a17 => nk_do (f_X7_unread h a17 v1) fun h18 x19 => (f_X7_readMail_b8   4096 h18 t0 v1 x19 0))
def f_X7_lookAtRead_c52   (h : nk_H)   : Option (nk_H × Unit) := some (h, ())
def f_X7_lookAtRead_c2  (r2 : nk_H → Nat → Int32 → Int32 → Option (nk_H × Unit)) (h : nk_H) (t0 : Nat) (v1 : Int32) (v2 : Int32)  : Option (nk_H × Unit) := ((nk_gP [15] 0 h (some t0)).bind fun x1 => ((nk_rcv [7] h x1).bind fun a2 => nk_do (f_Jx4a65c_size_8abf5 h a2) fun h3 x4 => (if x4 ≤ v2 then (f_X7_lookAtRead_c52   h3) else ((nk_gP [15] 1 h3 (some t0)).bind fun x5 => ((nk_len h3 x5).bind fun x6 => (if x6 ≤ v2 then (f_X7_lookAtRead_c52   h3) else ((nk_gP [15] 1 h3 (some t0)).bind fun x7 => ((nk_gP [15] 0 h3 (some t0)).bind fun x8 => ((nk_rcv [7] h3 x8).bind fun a9 => nk_do (f_Jx4a65c_get_915e3 h3 a9 v2) fun h10 x11 => ((nk_cc [8, 12, 16, 17] h10 x11).bind fun _ => ((nk_gI [8, 12, 16, 17] 4 h10 x11).bind fun x13 => (nk_do (f_X11_hasBit h10 x13 v1) fun h14 x15 => ((nk_wZ h14 x7 v2 x15).bind fun h16 => (r2 h16 t0 v1 (v2 + 1)))))))))))))))
def f_X7_lookAtRead_b2   : Nat → nk_H → Nat → Int32 → Int32 → Option (nk_H × Unit)
  | 0 => fun _ _ _ _ => none
  | n + 1 => f_X7_lookAtRead_c2  (f_X7_lookAtRead_b2   n)
def f_X7_lookAtRead  (h : nk_H) (t0 : Nat) (v1 : Int32) : Option (nk_H × Unit) := (f_X7_lookAtRead_b2   4096 h t0 v1 0)
def f_X8_couldBeReadFor_c27   (h : nk_H)  (s0 : Int32) : Option (nk_H × Int32) := (nk_zr s0 (h, s0))
def f_X8_couldBeReadFor_c63   (h : nk_H)  (s0 : Int32) : Option (nk_H × Int32) := (nk_zr s0 (h, s0))
def f_X8_couldBeReadFor_c62   (h : nk_H)   : Option (nk_H × Int32) := (f_X8_couldBeReadFor_c63   h 0)
def f_X8_couldBeReadFor  (h : nk_H) (t0 : Nat) (v1 : Option Nat) : Option (nk_H × Int32) := ((nk_gI [8, 12, 16, 17] 1 h (some t0)).bind fun x1 => ((nk_gI [8, 12, 16, 17] 1 h v1).bind fun x2 => (if x1 = x2 then ((nk_gI [8, 12, 16, 17] 0 h (some t0)).bind fun x3 => ((nk_gI [8, 12, 16, 17] 0 h v1).bind fun x4 => (if x4 ≤ x3 then (f_X8_couldBeReadFor_c27   h 0) else (f_X8_couldBeReadFor_c27   h 1)))) else ((nk_gI [8, 12, 16, 17] 3 h (some t0)).bind fun x5 => ((nk_gI [8, 12, 16, 17] 1 h v1).bind fun x6 => (nk_do (f_X11_hasBit h x5 x6) fun h7 x8 => (if x8 = 0 then (f_X8_couldBeReadFor_c62   h7) else ((nk_gP [8, 12, 16, 17] 5 h7 (some t0)).bind fun x9 => ((nk_gI [8, 12, 16, 17] 1 h7 v1).bind fun x10 => ((nk_aI 1 h7 x9 x10).bind fun x11 => ((nk_gI [8, 12, 16, 17] 2 h7 v1).bind fun x12 => (if x12 < x11 then (f_X8_couldBeReadFor_c62   h7) else (f_X8_couldBeReadFor_c63   h7 1)))))))))))))
def f_X7_lookAtReadable_c49   (h : nk_H)   : Option (nk_H × Unit) := some (h, ())
def f_X7_lookAtReadable_c2  (r2 : nk_H → Nat → Option Nat → Int32 → Option (nk_H × Unit)) (h : nk_H) (t0 : Nat) (v1 : Option Nat) (v2 : Int32)  : Option (nk_H × Unit) := ((nk_gP [15] 0 h (some t0)).bind fun x1 => ((nk_rcv [7] h x1).bind fun a2 => nk_do (f_Jx4a65c_size_8abf5 h a2) fun h3 x4 => (if x4 ≤ v2 then (f_X7_lookAtReadable_c49   h3) else ((nk_gP [15] 1 h3 (some t0)).bind fun x5 => ((nk_len h3 x5).bind fun x6 => (if x6 ≤ v2 then (f_X7_lookAtReadable_c49   h3) else ((nk_gP [15] 1 h3 (some t0)).bind fun x7 => ((nk_gP [15] 0 h3 (some t0)).bind fun x8 => ((nk_rcv [7] h3 x8).bind fun a9 => nk_do (f_Jx4a65c_get_915e3 h3 a9 v2) fun h10 x11 => ((nk_cc [8, 12, 16, 17] h10 x11).bind fun _ => ((nk_rcv [8, 12, 16, 17] h10 x11).bind fun a13 => nk_do (f_X8_couldBeReadFor h10 a13 v1) fun h14 x15 => ((nk_wZ h14 x7 v2 x15).bind fun h16 => (r2 h16 t0 v1 (v2 + 1))))))))))))))
def f_X7_lookAtReadable_b2   : Nat → nk_H → Nat → Option Nat → Int32 → Option (nk_H × Unit)
  | 0 => fun _ _ _ _ => none
  | n + 1 => f_X7_lookAtReadable_c2  (f_X7_lookAtReadable_b2   n)
def f_X7_lookAtReadable  (h : nk_H) (t0 : Nat) (v1 : Option Nat) : Option (nk_H × Unit) := (f_X7_lookAtReadable_b2   4096 h t0 v1 0)
def f_X7_lookAtAll_c35   (h : nk_H)   : Option (nk_H × Unit) := some (h, ())
def f_X7_lookAtAll_c2  (r2 : nk_H → Nat → Int32 → Option (nk_H × Unit)) (h : nk_H) (t0 : Nat) (v1 : Int32)  : Option (nk_H × Unit) := ((nk_gP [15] 0 h (some t0)).bind fun x1 => ((nk_rcv [7] h x1).bind fun a2 => nk_do (f_Jx4a65c_size_8abf5 h a2) fun h3 x4 => (if x4 ≤ v1 then (f_X7_lookAtAll_c35   h3) else ((nk_gP [15] 1 h3 (some t0)).bind fun x5 => ((nk_len h3 x5).bind fun x6 => (if x6 ≤ v1 then (f_X7_lookAtAll_c35   h3) else ((nk_gP [15] 1 h3 (some t0)).bind fun x7 => ((nk_wZ h3 x7 v1 1).bind fun h8 => (r2 h8 t0 (v1 + 1))))))))))
def f_X7_lookAtAll_b2   : Nat → nk_H → Nat → Int32 → Option (nk_H × Unit)
  | 0 => fun _ _ _ => none
  | n + 1 => f_X7_lookAtAll_c2  (f_X7_lookAtAll_b2   n)
def f_X7_lookAtAll  (h : nk_H) (t0 : Nat) : Option (nk_H × Unit) := (f_X7_lookAtAll_b2   4096 h t0 0)
def f_X7_sees_c27   (h : nk_H)  (s0 : Int32) : Option (nk_H × Int32) := (nk_zr s0 (h, s0))
def f_X7_sees_c26   (h : nk_H)   : Option (nk_H × Int32) := (f_X7_sees_c27   h 0)
def f_X7_sees  (h : nk_H) (t0 : Nat) (v1 : Int32) : Option (nk_H × Int32) := (if v1 < 0 then (f_X7_sees_c26   h) else ((nk_gP [15] 1 h (some t0)).bind fun x1 => ((nk_len h x1).bind fun x2 => (if x2 ≤ v1 then (f_X7_sees_c26   h) else ((nk_gP [15] 1 h (some t0)).bind fun x3 => ((nk_aI 2 h x3 v1).bind fun x4 => (if x4 = 0 then (f_X7_sees_c26   h) else (f_X7_sees_c27   h 1))))))))
def f_X7_knows_c2  (r2 : nk_H → Nat → Option Nat → Option (nk_H × Int32)) (h : nk_H) (t0 : Nat) (v2 : Option Nat)  : Option (nk_H × Int32) := (if v2 = none then (nk_zr 1 (h, 1)) else ((nk_gI [16] 0 h v2).bind fun x1 => ((nk_rcv [15] h (some t0)).bind fun a2 => nk_do (f_X7_sees h a2 x1) fun h3 x4 => (if x4 = 0 then (nk_zr 0 (h3, 0)) else ((nk_gP [16] 7 h3 v2).bind fun x5 => (r2 h3 t0 x5))))))
def f_X7_knows_b2   : Nat → nk_H → Nat → Option Nat → Option (nk_H × Int32)
  | 0 => fun _ _ _ => none
  | n + 1 => f_X7_knows_c2  (f_X7_knows_b2   n)
def f_X7_knows  (h : nk_H) (t0 : Nat) (v1 : Option Nat) : Option (nk_H × Int32) := (f_X7_knows_b2   4096 h t0 v1)
def f_X8_isRevocationOf  (h : nk_H) (t0 : Nat) (v1 : Option Nat) : Option (nk_H × Int32) := (nk_zr 0 (h, 0))
def f_X10_isRevocationOf_c13   (h : nk_H)  (s0 : Int32) : Option (nk_H × Int32) := (nk_zr s0 (h, s0))
def f_X10_isRevocationOf  (h : nk_H) (t0 : Nat) (v1 : Option Nat) : Option (nk_H × Int32) := ((nk_gP [17] 6 h (some t0)).bind fun x1 => (if x1 = v1 then (f_X10_isRevocationOf_c13   h 1) else (f_X10_isRevocationOf_c13   h 0)))
def f_X7_revokesAlone_c41  (r2 : nk_H → Nat → Option Nat → Int32 → Option (nk_H × Int32)) (h : nk_H) (t0 : Nat) (v1 : Option Nat) (v2 : Int32)  : Option (nk_H × Int32) := (r2 h t0 v1 (v2 + 1))
def f_X7_revokesAlone_c2  (r2 : nk_H → Nat → Option Nat → Int32 → Option (nk_H × Int32)) (h : nk_H) (t0 : Nat) (v1 : Option Nat) (v2 : Int32)  : Option (nk_H × Int32) := ((nk_gP [15] 0 h (some t0)).bind fun x1 => ((nk_rcv [7] h x1).bind fun a2 => nk_do (f_Jx4a65c_size_8abf5 h a2) fun h3 x4 => (if x4 ≤ v2 then (nk_zr 0 (h3, 0)) else ((nk_rcv [15] h3 (some t0)).bind fun a5 => nk_do (f_X7_sees h3 a5 v2) fun h6 x7 => (if x7 = 0 then (f_X7_revokesAlone_c41  r2 h6 t0 v1 v2) else ((nk_gP [15] 0 h6 (some t0)).bind fun x8 => ((nk_rcv [7] h6 x8).bind fun a9 => nk_do (f_Jx4a65c_get_915e3 h6 a9 v2) fun h10 x11 => ((nk_cc [8, 12, 16, 17] h10 x11).bind fun _ => ((nk_rcv [8, 12, 16, 17] h10 x11).bind fun a13 => nk_do (if nk_K h10 a13 = 8 then f_X8_isRevocationOf h10 a13 v1 else if nk_K h10 a13 = 12 then f_X8_isRevocationOf h10 a13 v1 else if nk_K h10 a13 = 16 then f_X8_isRevocationOf h10 a13 v1 else f_X10_isRevocationOf h10 a13 v1) fun h14 x15 => (if x15 = 0 then (f_X7_revokesAlone_c41  r2 h14 t0 v1 v2) else (nk_zr 1 (h14, 1))))))))))))
def f_X7_revokesAlone_b2   : Nat → nk_H → Nat → Option Nat → Int32 → Option (nk_H × Int32)
  | 0 => fun _ _ _ _ => none
  | n + 1 => f_X7_revokesAlone_c2  (f_X7_revokesAlone_b2   n)
def f_X7_revokesAlone  (h : nk_H) (t0 : Nat) (v1 : Option Nat) : Option (nk_H × Int32) := (f_X7_revokesAlone_b2   4096 h t0 v1 0)
def f_X7_revokes_c2  (r2 : nk_H → Nat → Option Nat → Option (nk_H × Int32)) (h : nk_H) (t0 : Nat) (v2 : Option Nat)  : Option (nk_H × Int32) := (if v2 = none then (nk_zr 0 (h, 0)) else ((nk_rcv [15] h (some t0)).bind fun a1 => nk_do (f_X7_revokesAlone h a1 v2) fun h2 x3 => (if x3 = 0 then ((nk_gP [16] 7 h2 v2).bind fun x4 => (r2 h2 t0 x4)) else (nk_zr 1 (h2, 1)))))
def f_X7_revokes_b2   : Nat → nk_H → Nat → Option Nat → Option (nk_H × Int32)
  | 0 => fun _ _ _ => none
  | n + 1 => f_X7_revokes_c2  (f_X7_revokes_b2   n)
def f_X7_revokes  (h : nk_H) (t0 : Nat) (v1 : Option Nat) : Option (nk_H × Int32) := (f_X7_revokes_b2   4096 h t0 v1)
def f_X8_amountBy  (h : nk_H) (t0 : Nat) (v1 : Option Nat) : Option (nk_H × Int32) := some (h, 0)
def f_X7_doneWith_c41  (r4 : nk_H → Nat → Option Nat → Int32 → Int32 → Option (nk_H × Int32)) (h : nk_H) (t0 : Nat) (v1 : Option Nat) (v2 : Int32) (v3 : Int32)  : Option (nk_H × Int32) := (r4 h t0 v1 v2 (v3 + 1))
def f_X7_doneWith_c4  (r4 : nk_H → Nat → Option Nat → Int32 → Int32 → Option (nk_H × Int32)) (h : nk_H) (t0 : Nat) (v1 : Option Nat) (v2 : Int32) (v3 : Int32)  : Option (nk_H × Int32) := ((nk_gP [15] 0 h (some t0)).bind fun x1 => ((nk_rcv [7] h x1).bind fun a2 => nk_do (f_Jx4a65c_size_8abf5 h a2) fun h3 x4 => (if x4 ≤ v3 then some (h3, v2) else ((nk_rcv [15] h3 (some t0)).bind fun a5 => nk_do (f_X7_sees h3 a5 v3) fun h6 x7 => (if x7 = 0 then (f_X7_doneWith_c41  r4 h6 t0 v1 v2 v3) else ((nk_gP [15] 0 h6 (some t0)).bind fun x8 => ((nk_rcv [7] h6 x8).bind fun a9 => nk_do (f_Jx4a65c_get_915e3 h6 a9 v3) fun h10 x11 => ((nk_cc [8, 12, 16, 17] h10 x11).bind fun _ => ((nk_rcv [8, 12, 16, 17] h10 x11).bind fun a13 => nk_do (if nk_K h10 a13 = 8 then f_X0_amountBy h10 a13 v1 else if nk_K h10 a13 = 12 then f_X8_amountBy h10 a13 v1 else if nk_K h10 a13 = 16 then f_X8_amountBy h10 a13 v1 else f_X8_amountBy h10 a13 v1) fun h14 x15 => (f_X7_doneWith_c41  r4 h14 t0 v1 (v2 + x15) v3))))))))))
def f_X7_doneWith_b4   : Nat → nk_H → Nat → Option Nat → Int32 → Int32 → Option (nk_H × Int32)
  | 0 => fun _ _ _ _ _ => none
  | n + 1 => f_X7_doneWith_c4  (f_X7_doneWith_b4   n)
def f_X7_doneWith  (h : nk_H) (t0 : Nat) (v1 : Option Nat) : Option (nk_H × Int32) := (f_X7_doneWith_b4   4096 h t0 v1 0 0)
def f_X7_wouldPassTotal_c2  (r2 : nk_H → Nat → Int32 → Option Nat → Option (nk_H × Int32)) (h : nk_H) (t0 : Nat) (v2 : Int32) (v3 : Option Nat)  : Option (nk_H × Int32) := (if v3 = none then (nk_zr 0 (h, 0)) else ((nk_rcv [15] h (some t0)).bind fun a1 => nk_do (f_X7_doneWith h a1 v3) fun h2 x3 => ((nk_gI [16] 12 h2 v3).bind fun x4 => (if (x3 + v2) ≤ x4 then ((nk_gP [16] 7 h2 v3).bind fun x5 => (r2 h2 t0 v2 x5)) else (nk_zr 1 (h2, 1))))))
def f_X7_wouldPassTotal_b2   : Nat → nk_H → Nat → Int32 → Option Nat → Option (nk_H × Int32)
  | 0 => fun _ _ _ _ => none
  | n + 1 => f_X7_wouldPassTotal_c2  (f_X7_wouldPassTotal_b2   n)
def f_X7_wouldPassTotal  (h : nk_H) (t0 : Nat) (v1 : Option Nat) (v2 : Int32) : Option (nk_H × Int32) := (f_X7_wouldPassTotal_b2   4096 h t0 v2 v1)
def f_X8_isDeputation  (h : nk_H) (t0 : Nat) (v1 : Int32) (v2 : Int32) (v3 : Int32) : Option (nk_H × Int32) := (nk_zr 0 (h, 0))
def f_X7_deputes_c47  (r3 : nk_H → Nat → Int32 → Int32 → Int32 → Int32 → Option (nk_H × Int32)) (h : nk_H) (t0 : Nat) (v1 : Int32) (v2 : Int32) (v3 : Int32) (v4 : Int32)  : Option (nk_H × Int32) := (r3 h t0 v1 v2 v3 (v4 + 1))
def f_X7_deputes_c3  (r3 : nk_H → Nat → Int32 → Int32 → Int32 → Int32 → Option (nk_H × Int32)) (h : nk_H) (t0 : Nat) (v1 : Int32) (v2 : Int32) (v3 : Int32) (v4 : Int32)  : Option (nk_H × Int32) := ((nk_gP [15] 0 h (some t0)).bind fun x1 => ((nk_rcv [7] h x1).bind fun a2 => nk_do (f_Jx4a65c_size_8abf5 h a2) fun h3 x4 => (if x4 ≤ v4 then (nk_zr 0 (h3, 0)) else ((nk_rcv [15] h3 (some t0)).bind fun a5 => nk_do (f_X7_sees h3 a5 v4) fun h6 x7 => (if x7 = 0 then (f_X7_deputes_c47  r3 h6 t0 v1 v2 v3 v4) else ((nk_gP [15] 0 h6 (some t0)).bind fun x8 => ((nk_rcv [7] h6 x8).bind fun a9 => nk_do (f_Jx4a65c_get_915e3 h6 a9 v4) fun h10 x11 => ((nk_cc [8, 12, 16, 17] h10 x11).bind fun _ => ((nk_rcv [8, 12, 16, 17] h10 x11).bind fun a13 => nk_do (if nk_K h10 a13 = 8 then f_X8_isDeputation h10 a13 v1 v2 v3 else if nk_K h10 a13 = 12 then f_X4_isDeputation h10 a13 v1 v2 v3 else if nk_K h10 a13 = 16 then f_X8_isDeputation h10 a13 v1 v2 v3 else f_X8_isDeputation h10 a13 v1 v2 v3) fun h14 x15 => (if x15 = 0 then (f_X7_deputes_c47  r3 h14 t0 v1 v2 v3 v4) else (nk_zr 1 (h14, 1))))))))))))
def f_X7_deputes_b3   : Nat → nk_H → Nat → Int32 → Int32 → Int32 → Int32 → Option (nk_H × Int32)
  | 0 => fun _ _ _ _ _ _ => none
  | n + 1 => f_X7_deputes_c3  (f_X7_deputes_b3   n)
def f_X7_deputes  (h : nk_H) (t0 : Nat) (v1 : Int32) (v2 : Int32) (v3 : Int32) : Option (nk_H × Int32) := (f_X7_deputes_b3   4096 h t0 v1 v2 v3 0)
def f_X7_officerAt_c15   (h : nk_H)  (s0 : Int32) : Option (nk_H × Int32) := some (h, s0)
def f_X7_officerAt  (h : nk_H) (t0 : Nat) (v1 : Int32) (v2 : Int32) : Option (nk_H × Int32) := ((nk_rcv [15] h (some t0)).bind fun a1 => nk_do (f_X7_deputes h a1 v1 v2 v2) fun h2 x3 => (if x3 = 0 then (f_X7_officerAt_c15   h2 0) else (f_X7_officerAt_c15   h2 1)))
def f_X9_isOver_c2  (r2 : nk_H → Int32 → Option Nat → Option (nk_H × Int32)) (h : nk_H) (v1 : Int32) (v2 : Option Nat)  : Option (nk_H × Int32) := (if v2 = none then (nk_zr 0 (h, 0)) else ((nk_gI [16] 13 h v2).bind fun x1 => (if v1 ≤ x1 then ((nk_gP [16] 7 h v2).bind fun x2 => (r2 h v1 x2)) else (nk_zr 1 (h, 1)))))
def f_X9_isOver_b2   : Nat → nk_H → Int32 → Option Nat → Option (nk_H × Int32)
  | 0 => fun _ _ _ => none
  | n + 1 => f_X9_isOver_c2  (f_X9_isOver_b2   n)
def f_X9_isOver  (h : nk_H) (t0 : Nat) (v1 : Int32) : Option (nk_H × Int32) := (f_X9_isOver_b2   4096 h v1 (some t0))
def f_X9_limitsBelow_c2  (r2 : nk_H → Int32 → Option Nat → Option (nk_H × Int32)) (h : nk_H) (v1 : Int32) (v2 : Option Nat)  : Option (nk_H × Int32) := (if v2 = none then (nk_zr 0 (h, 0)) else ((nk_gI [16] 11 h v2).bind fun x1 => (if v1 ≤ x1 then ((nk_gP [16] 7 h v2).bind fun x2 => (r2 h v1 x2)) else (nk_zr 1 (h, 1)))))
def f_X9_limitsBelow_b2   : Nat → nk_H → Int32 → Option Nat → Option (nk_H × Int32)
  | 0 => fun _ _ _ => none
  | n + 1 => f_X9_limitsBelow_c2  (f_X9_limitsBelow_b2   n)
def f_X9_limitsBelow  (h : nk_H) (t0 : Nat) (v1 : Int32) : Option (nk_H × Int32) := (f_X9_limitsBelow_b2   4096 h v1 (some t0))
def f_X7_reasonAgainst_c116   (h : nk_H)  (s0 : Int32) : Option (nk_H × Int32) := some (h, s0)
def f_X7_reasonAgainst  (h : nk_H) (t0 : Nat) (v1 : Option Nat) (v2 : Option Nat) : Option (nk_H × Int32) := ((nk_rcv [15] h (some t0)).bind fun a1 => nk_do (f_X7_knows h a1 v1) fun h2 x3 => (if x3 = 0 then some (h2, 1) else ((nk_gI [11] 2 h2 v2).bind fun x4 => ((nk_gI [16] 9 h2 v1).bind fun x5 => (if x4 = x5 then ((nk_rcv [15] h2 (some t0)).bind fun a6 => nk_do (f_X7_revokes h2 a6 v1) fun h7 x8 => (if x8 = 0 then ((nk_gI [11] 1 h7 v2).bind fun x9 => ((nk_rcv [16] h7 v1).bind fun a10 => nk_do (f_X9_isOver h7 a10 x9) fun h11 x12 => (if x12 = 0 then ((nk_gI [16] 10 h11 v1).bind fun x13 => ((nk_gI [11] 3 h11 v2).bind fun x14 => (nk_do (f_X11_hasBit h11 x13 x14) fun h15 x16 => (if x16 = 0 then some (h15, 5) else ((nk_gI [11] 4 h15 v2).bind fun x17 => ((nk_rcv [16] h15 v1).bind fun a18 => nk_do (f_X9_limitsBelow h15 a18 x17) fun h19 x20 => (if x20 = 0 then ((nk_gI [11] 4 h19 v2).bind fun x21 => ((nk_rcv [15] h19 (some t0)).bind fun a22 => nk_do (f_X7_wouldPassTotal h19 a22 v1 x21) fun h23 x24 => (if x24 = 0 then ((nk_gI [11] 5 h23 v2).bind fun x25 => ((nk_gI [11] 0 h23 v2).bind fun x26 => ((nk_gI [11] 1 h23 v2).bind fun x27 => ((nk_rcv [15] h23 (some t0)).bind fun a28 => nk_do (f_X7_officerAt h23 a28 x26 x27) fun h29 x30 => (if x25 = x30 then (f_X7_reasonAgainst_c116   h29 0) else (f_X7_reasonAgainst_c116   h29 8)))))) else some (h23, 7)))) else some (h19, 6)))))))) else some (h11, 4)))) else some (h7, 3))) else some (h2, 2))))))
def f_X9_init  (h : nk_H) (t0 : Nat) (v1 : Int32) (v2 : Option Nat) (v3 : Int32) (v4 : Int32) (v5 : Option Nat) (v6 : Int32) : Option (nk_H × Unit) := (nk_do (f_X8_init h t0) fun h1 x2 => ((nk_pI [16] 6 h1 (some t0) v1).bind fun h3 => ((nk_pP [16] 7 h3 (some t0) v2).bind fun h4 => ((nk_pI [16] 8 h4 (some t0) v3).bind fun h5 => ((nk_pI [16] 9 h5 (some t0) v4).bind fun h6 => ((nk_gI [13] 0 h6 v5).bind fun x7 => ((nk_pI [16] 10 h6 (some t0) x7).bind fun h8 => ((nk_gI [13] 1 h8 v5).bind fun x9 => ((nk_pI [16] 11 h8 (some t0) x9).bind fun h10 => ((nk_gI [13] 2 h10 v5).bind fun x11 => ((nk_pI [16] 12 h10 (some t0) x11).bind fun h12 => ((nk_gI [13] 3 h12 v5).bind fun x13 => ((nk_pI [16] 13 h12 (some t0) (v6 + x13)).bind fun h14 => ((nk_gI [13] 4 h14 v5).bind fun x15 => ((nk_pI [16] 14 h14 (some t0) x15).bind fun h16 => some (h16, ()))))))))))))))))
def f_X9_covers_c65   (h : nk_H)  (s0 : Int32) : Option (nk_H × Int32) := (nk_zr s0 (h, s0))
def f_X9_covers_c64   (h : nk_H)   : Option (nk_H × Int32) := (f_X9_covers_c65   h 0)
def f_X9_covers  (h : nk_H) (t0 : Nat) (v1 : Option Nat) (v2 : Int32) : Option (nk_H × Int32) := ((nk_gI [13] 0 h v1).bind fun x1 => ((nk_gI [16] 10 h (some t0)).bind fun x2 => (if (x1 &&& (x2 ^^^ (-1))) = 0 then ((nk_gI [13] 1 h v1).bind fun x3 => ((nk_gI [16] 11 h (some t0)).bind fun x4 => (if x4 < x3 then (f_X9_covers_c64   h) else ((nk_gI [13] 2 h v1).bind fun x5 => ((nk_gI [16] 12 h (some t0)).bind fun x6 => (if x6 < x5 then (f_X9_covers_c64   h) else ((nk_gI [13] 3 h v1).bind fun x7 => ((nk_gI [16] 13 h (some t0)).bind fun x8 => (if x8 < (v2 + x7) then (f_X9_covers_c64   h) else ((nk_gI [13] 4 h v1).bind fun x9 => ((nk_gI [16] 14 h (some t0)).bind fun x10 => (if x10 ≤ x9 then (f_X9_covers_c64   h) else (f_X9_covers_c65   h 1))))))))))))) else (f_X9_covers_c64   h))))
def f_X9_hasGiver_c2  (r2 : nk_H → Int32 → Option Nat → Option (nk_H × Int32)) (h : nk_H) (v1 : Int32) (v2 : Option Nat)  : Option (nk_H × Int32) := (if v2 = none then (nk_zr 0 (h, 0)) else ((nk_gI [16] 8 h v2).bind fun x1 => (if x1 = v1 then (nk_zr 1 (h, 1)) else ((nk_gP [16] 7 h v2).bind fun x2 => (r2 h v1 x2)))))
def f_X9_hasGiver_b2   : Nat → nk_H → Int32 → Option Nat → Option (nk_H × Int32)
  | 0 => fun _ _ _ => none
  | n + 1 => f_X9_hasGiver_c2  (f_X9_hasGiver_b2   n)
def f_X9_hasGiver  (h : nk_H) (t0 : Nat) (v1 : Int32) : Option (nk_H × Int32) := (f_X9_hasGiver_b2   4096 h v1 (some t0))
def f_X10_init  (h : nk_H) (t0 : Nat) (v1 : Option Nat) : Option (nk_H × Unit) := (nk_do (f_X8_init h t0) fun h1 x2 => ((nk_pP [17] 6 h1 (some t0) v1).bind fun h3 => some (h3, ())))
def f_X11_init_c48  (r48 : nk_H → Nat → Int32 → Option (nk_H × Unit)) (h : nk_H) (t0 : Nat) (v1 : Int32)  : Option (nk_H × Unit) := (if 6 ≤ v1 then ((some (nk_al h 7 0 3)).bind fun h1 => (nk_do (f_Jx4a65c_init_da8c8 h1 (nk_N h)) fun h2 x3 => ((nk_pP [18] 4 h2 (some t0) (some (nk_N h))).bind fun h4 => ((nk_pI [18] 5 h4 (some t0) 0).bind fun h5 => ((some (nk_al h5 13 0 5)).bind fun h6 => (nk_do (f_X5_init h6 (nk_N h5) 63 10000 100000 100 0) fun h7 x8 => ((nk_pP [18] 6 h7 (some t0) (some (nk_N h5))).bind fun h9 => ((nk_pI [18] 7 h9 (some t0) 0).bind fun h10 => ((nk_pI [18] 8 h10 (some t0) 0).bind fun h11 => some (h11, ())))))))))) else ((nk_gP [18] 3 h (some t0)).bind fun x12 => ((some (nk_al h 9 0 2)).bind fun h13 => (nk_do (f_X1_init h13 (nk_N h) v1) fun h14 x15 => ((nk_wP 3 h14 x12 v1 (some (nk_N h))).bind fun h16 => (r48 h16 t0 (v1 + 1)))))))
def f_X11_init_b48   : Nat → nk_H → Nat → Int32 → Option (nk_H × Unit)
  | 0 => fun _ _ _ => none
  | n + 1 => f_X11_init_c48  (f_X11_init_b48   n)
def f_X11_init  (h : nk_H) (t0 : Nat) : Option (nk_H × Unit) := ((some (nk_al h 14 0 2)).bind fun h17 => (nk_do (f_X6_init h17 (nk_N h)) fun h18 x19 => ((nk_pP [18] 0 h18 (some t0) (some (nk_N h))).bind fun h20 => ((some (nk_al h20 15 0 2)).bind fun h21 => (nk_do (f_X7_init h21 (nk_N h20)) fun h22 x23 => ((nk_pP [18] 1 h22 (some t0) (some (nk_N h20))).bind fun h24 => ((some (nk_al h24 7 0 3)).bind fun h25 => (nk_do (f_Jx4a65c_init_da8c8 h25 (nk_N h24)) fun h26 x27 => ((nk_pP [18] 2 h26 (some t0) (some (nk_N h24))).bind fun h28 => ((nk_na 3 h28 6).bind fun h29 => ((nk_pP [18] 3 h29 (some t0) (some (nk_N h28))).bind fun h30 => (f_X11_init_b48   4096 h30 t0 0))))))))))))
def f_X11_mustBeKiosk_c10   (h : nk_H)   : Option (nk_H × (Unit ⊕ String)) := some (nk_al h 0 0 6, .inr "java/lang/IndexOutOfBoundsException")
def f_X11_mustBeKiosk  (h : nk_H) (v0 : Int32) : Option (nk_H × (Unit ⊕ String)) := (if v0 < 0 then (f_X11_mustBeKiosk_c10   h) else (if v0 < 6 then some (h, (.inl ())) else (f_X11_mustBeKiosk_c10   h)))
def f_X11_mustBeTwoKiosks  (h : nk_H) (v0 : Int32) (v1 : Int32) : Option (nk_H × (Unit ⊕ String)) := (nk_dt (f_X11_mustBeKiosk h v0) fun h1 x2 => (nk_dt (f_X11_mustBeKiosk h1 v1) fun h3 x4 => (if v0 = v1 then some (nk_al h3 0 0 6, .inr "java/lang/IllegalArgumentException") else some (h3, (.inl ())))))
def f_X11_join  (h : nk_H) (t0 : Nat) (v1 : Int32) (v2 : Int32) : Option (nk_H × (Int32 ⊕ String)) := (nk_dt (f_X11_mustBeTwoKiosks h v1 v2) fun h1 x2 => ((nk_gP [18] 0 h1 (some t0)).bind fun x3 => ((nk_rcv [14] h1 x3).bind fun a4 => nk_do (f_X6_areLinked h1 a4 v1 v2) fun h5 x6 => (if x6 = 0 then ((nk_gP [18] 0 h5 (some t0)).bind fun x7 => ((nk_rcv [14] h5 x7).bind fun a8 => nk_do (f_X6_turn h5 a8 v1 v2) fun h9 x10 => ((nk_gP [18] 0 h9 (some t0)).bind fun x11 => ((nk_rcv [14] h9 x11).bind fun a12 => nk_do (f_X6_degree h9 a12 v1) fun h13 x14 => some (h13, (.inl x14)))))) else some (nk_al h5 0 0 6, .inr "java/lang/IllegalStateException")))))
def f_X11_cut  (h : nk_H) (t0 : Nat) (v1 : Int32) (v2 : Int32) : Option (nk_H × (Int32 ⊕ String)) := (nk_dt (f_X11_mustBeTwoKiosks h v1 v2) fun h1 x2 => ((nk_gP [18] 0 h1 (some t0)).bind fun x3 => ((nk_rcv [14] h1 x3).bind fun a4 => nk_do (f_X6_areLinked h1 a4 v1 v2) fun h5 x6 => (if x6 = 0 then some (nk_al h5 0 0 6, .inr "java/lang/IllegalStateException") else ((nk_gP [18] 0 h5 (some t0)).bind fun x7 => ((nk_rcv [14] h5 x7).bind fun a8 => nk_do (f_X6_turn h5 a8 v1 v2) fun h9 x10 => ((nk_gP [18] 0 h9 (some t0)).bind fun x11 => ((nk_rcv [14] h9 x11).bind fun a12 => nk_do (f_X6_degree h9 a12 v1) fun h13 x14 => some (h13, (.inl x14))))))))))
def f_X11_mustBeWithin_c10   (h : nk_H)   : Option (nk_H × (Unit ⊕ String)) := some (nk_al h 0 0 6, .inr "java/lang/IllegalArgumentException")
def f_X11_mustBeWithin  (h : nk_H) (v0 : Int32) (v1 : Int32) (v2 : Int32) : Option (nk_H × (Unit ⊕ String)) := (if v0 < v1 then (f_X11_mustBeWithin_c10   h) else (if v0 ≤ v2 then some (h, (.inl ())) else (f_X11_mustBeWithin_c10   h)))
def f_X11_pass_c33  (r33 : nk_H → Nat → Int32 → Int32 → Int32 → Option (nk_H × (Int32 ⊕ String))) (h : nk_H) (t0 : Nat) (v1 : Int32) (v2 : Int32) (v3 : Int32)  : Option (nk_H × (Int32 ⊕ String)) := (if v1 ≤ v3 then some (h, (.inl v2)) else ((nk_gI [18] 5 h (some t0)).bind fun x1 => ((nk_pI [18] 5 h (some t0) (x1 + 1)).bind fun h2 => ((nk_gP [18] 0 h2 (some t0)).bind fun x3 => ((nk_gI [18] 5 h2 (some t0)).bind fun x4 => ((nk_rcv [14] h2 x3).bind fun a5 => nk_do (f_X6_keep h2 a5 x4) fun h6 x7 => ((nk_gP [18] 1 h6 (some t0)).bind fun x8 => ((nk_gP [18] 0 h6 (some t0)).bind fun x9 => ((nk_gI [18] 5 h6 (some t0)).bind fun x10 => ((nk_rcv [15] h6 x8).bind fun a11 => nk_do (f_X7_spread h6 a11 x9 x10) fun h12 x13 => (r33 h12 t0 v1 (v2 + x13) (v3 + 1))))))))))))
def f_X11_pass_b33   : Nat → nk_H → Nat → Int32 → Int32 → Int32 → Option (nk_H × (Int32 ⊕ String))
  | 0 => fun _ _ _ _ _ => none
  | n + 1 => f_X11_pass_c33  (f_X11_pass_b33   n)
def f_X11_pass  (h : nk_H) (t0 : Nat) (v1 : Int32) : Option (nk_H × (Int32 ⊕ String)) := (nk_dt (f_X11_mustBeWithin h v1 1 50) fun h14 x15 => ((nk_gI [18] 5 h14 (some t0)).bind fun x16 => (if (x16 + v1) ≤ 400 then (f_X11_pass_b33   4096 h14 t0 v1 0 0) else some (nk_al h14 0 0 6, .inr "java/lang/IllegalStateException"))))
def f_X11_read  (h : nk_H) (t0 : Nat) (v1 : Int32) : Option (nk_H × (Int32 ⊕ String)) := (nk_dt (f_X11_mustBeKiosk h v1) fun h1 x2 => ((nk_gP [18] 1 h1 (some t0)).bind fun x3 => ((nk_rcv [15] h1 x3).bind fun a4 => nk_do (f_X7_readMail h1 a4 v1) fun h5 x6 => some (h5, (.inl x6)))))
def f_X11_draft  (h : nk_H) (t0 : Nat) (v1 : Int32) (v2 : Int32) (v3 : Int32) (v4 : Int32) (v5 : Int32) : Option (nk_H × (Unit ⊕ String)) := (nk_dt (f_X11_mustBeWithin h v1 1 63) fun h1 x2 => (nk_dt (f_X11_mustBeWithin h1 v2 1 10000) fun h3 x4 => (nk_dt (f_X11_mustBeWithin h3 v3 1 100000) fun h5 x6 => (nk_dt (f_X11_mustBeWithin h5 v4 0 400) fun h7 x8 => (nk_dt (f_X11_mustBeWithin h7 v5 0 3) fun h9 x10 => ((some (nk_al h9 13 0 5)).bind fun h11 => (nk_do (f_X5_init h11 (nk_N h9) v1 v2 v3 v4 v5) fun h12 x13 => ((nk_pP [18] 6 h12 (some t0) (some (nk_N h9))).bind fun h14 => some (h14, (.inl ()))))))))))
def f_X11_mustBePerson_c10   (h : nk_H)   : Option (nk_H × (Unit ⊕ String)) := some (nk_al h 0 0 6, .inr "java/lang/IndexOutOfBoundsException")
def f_X11_mustBePerson  (h : nk_H) (v0 : Int32) : Option (nk_H × (Unit ⊕ String)) := (if v0 < 0 then (f_X11_mustBePerson_c10   h) else (if v0 < 10 then some (h, (.inl ())) else (f_X11_mustBePerson_c10   h)))
def f_X11_mustBeOtherPerson  (h : nk_H) (v0 : Int32) (v1 : Int32) : Option (nk_H × (Unit ⊕ String)) := (if v0 = v1 then some (nk_al h 0 0 6, .inr "java/lang/IllegalArgumentException") else some (h, (.inl ())))
def f_X11_mustHaveRoomForNews  (h : nk_H) (t0 : Nat) : Option (nk_H × (Unit ⊕ String)) := ((nk_gP [18] 1 h (some t0)).bind fun x1 => ((nk_rcv [15] h x1).bind fun a2 => nk_do (f_X7_count h a2) fun h3 x4 => (if x4 < 160 then some (h3, (.inl ())) else some (nk_al h3 0 0 6, .inr "java/lang/IllegalStateException"))))
def f_X11_mustHaveRoomForPower  (h : nk_H) (t0 : Nat) : Option (nk_H × (Unit ⊕ String)) := ((nk_gP [18] 2 h (some t0)).bind fun x1 => ((nk_rcv [7] h x1).bind fun a2 => nk_do (f_Jx4a65c_size_8abf5 h a2) fun h3 x4 => (if x4 < 40 then ((nk_rcv [18] h3 (some t0)).bind fun a5 => nk_dt (f_X11_mustHaveRoomForNews h3 a5) fun h6 x7 => some (h6, (.inl ()))) else some (nk_al h3 0 0 6, .inr "java/lang/IllegalStateException"))))
def f_X11_makePower  (h : nk_H) (t0 : Nat) (v1 : Int32) (v2 : Option Nat) (v3 : Int32) (v4 : Int32) : Option (nk_H × Int32) := ((some (nk_al h 16 0 15)).bind fun h1 => ((nk_gP [18] 2 h1 (some t0)).bind fun x2 => ((nk_rcv [7] h1 x2).bind fun a3 => nk_do (f_Jx4a65c_size_8abf5 h1 a3) fun h4 x5 => ((nk_gP [18] 6 h4 (some t0)).bind fun x6 => ((nk_gI [18] 5 h4 (some t0)).bind fun x7 => (nk_do (f_X9_init h4 (nk_N h) x5 v2 v3 v4 x6 x7) fun h8 x9 => ((nk_gP [18] 2 h8 (some t0)).bind fun x10 => ((nk_rcv [7] h8 x10).bind fun a11 => nk_do (f_Jx4a65c_add_9ea2d h8 a11 (some (nk_N h))) fun h12 x13 => ((nk_gP [18] 1 h12 (some t0)).bind fun x14 => ((nk_gI [18] 5 h12 (some t0)).bind fun x15 => ((nk_rcv [15] h12 x14).bind fun a16 => nk_do (f_X7_publish h12 a16 (some (nk_N h)) v1 x15) fun h17 x18 => ((nk_gI [16] 6 h17 (some (nk_N h))).bind fun x19 => some (h17, x19)))))))))))))
def f_X11_grant  (h : nk_H) (t0 : Nat) (v1 : Int32) (v2 : Int32) (v3 : Int32) : Option (nk_H × (Int32 ⊕ String)) := (nk_dt (f_X11_mustBeKiosk h v1) fun h1 x2 => (nk_dt (f_X11_mustBePerson h1 v2) fun h3 x4 => (nk_dt (f_X11_mustBePerson h3 v3) fun h5 x6 => (nk_dt (f_X11_mustBeOtherPerson h5 v2 v3) fun h7 x8 => ((nk_rcv [18] h7 (some t0)).bind fun a9 => nk_dt (f_X11_mustHaveRoomForPower h7 a9) fun h10 x11 => ((nk_rcv [18] h10 (some t0)).bind fun a12 => nk_do (f_X11_makePower h10 a12 v1 none v2 v3) fun h13 x14 => some (h13, (.inl x14))))))))
def f_X11_mustBePower_c15   (h : nk_H)   : Option (nk_H × (Unit ⊕ String)) := some (nk_al h 0 0 6, .inr "java/lang/IndexOutOfBoundsException")
def f_X11_mustBePower  (h : nk_H) (t0 : Nat) (v1 : Int32) : Option (nk_H × (Unit ⊕ String)) := (if v1 < 0 then (f_X11_mustBePower_c15   h) else ((nk_gP [18] 2 h (some t0)).bind fun x1 => ((nk_rcv [7] h x1).bind fun a2 => nk_do (f_Jx4a65c_size_8abf5 h a2) fun h3 x4 => (if v1 < x4 then some (h3, (.inl ())) else (f_X11_mustBePower_c15   h3)))))
def f_X11_isGoodAt_c46   (h : nk_H)  (s0 : Int32) : Option (nk_H × Int32) := (nk_zr s0 (h, s0))
def f_X11_isGoodAt_c45   (h : nk_H)   : Option (nk_H × Int32) := (f_X11_isGoodAt_c46   h 0)
def f_X11_isGoodAt  (h : nk_H) (t0 : Nat) (v1 : Int32) (v2 : Option Nat) : Option (nk_H × Int32) := ((nk_gP [18] 1 h (some t0)).bind fun x1 => ((nk_rcv [15] h x1).bind fun a2 => nk_do (f_X7_lookAtRead h a2 v1) fun h3 x4 => ((nk_gP [18] 1 h3 (some t0)).bind fun x5 => ((nk_rcv [15] h3 x5).bind fun a6 => nk_do (f_X7_knows h3 a6 v2) fun h7 x8 => (if x8 = 0 then (f_X11_isGoodAt_c45   h7) else ((nk_gP [18] 1 h7 (some t0)).bind fun x9 => ((nk_rcv [15] h7 x9).bind fun a10 => nk_do (f_X7_revokes h7 a10 v2) fun h11 x12 => (if x12 = 0 then ((nk_gI [18] 5 h11 (some t0)).bind fun x13 => ((nk_rcv [16] h11 v2).bind fun a14 => nk_do (f_X9_isOver h11 a14 x13) fun h15 x16 => (if x16 = 0 then (f_X11_isGoodAt_c46   h15 1) else (f_X11_isGoodAt_c45   h15)))) else (f_X11_isGoodAt_c45   h11)))))))))
def f_X11_passOn  (h : nk_H) (t0 : Nat) (v1 : Int32) (v2 : Int32) (v3 : Int32) : Option (nk_H × (Int32 ⊕ String)) := (nk_dt (f_X11_mustBeKiosk h v1) fun h1 x2 => ((nk_rcv [18] h1 (some t0)).bind fun a3 => nk_dt (f_X11_mustBePower h1 a3 v2) fun h4 x5 => (nk_dt (f_X11_mustBePerson h4 v3) fun h6 x7 => ((nk_gP [18] 2 h6 (some t0)).bind fun x8 => ((nk_rcv [7] h6 x8).bind fun a9 => nk_do (f_Jx4a65c_get_915e3 h6 a9 v2) fun h10 x11 => ((nk_cc [16] h10 x11).bind fun _ => ((nk_gI [16] 9 h10 x11).bind fun x13 => (nk_dt (f_X11_mustBeOtherPerson h10 x13 v3) fun h14 x15 => ((nk_gP [18] 6 h14 (some t0)).bind fun x16 => ((nk_gI [18] 5 h14 (some t0)).bind fun x17 => ((nk_rcv [16] h14 x11).bind fun a18 => nk_do (f_X9_covers h14 a18 x16 x17) fun h19 x20 => (if x20 = 0 then some (nk_al h19 0 0 6, .inr "java/lang/IllegalArgumentException") else ((nk_rcv [18] h19 (some t0)).bind fun a21 => nk_dt (f_X11_mustHaveRoomForPower h19 a21) fun h22 x23 => ((nk_rcv [18] h22 (some t0)).bind fun a24 => nk_do (f_X11_isGoodAt h22 a24 v1 x11) fun h25 x26 => (if x26 = 0 then some (nk_al h25 0 0 6, .inr "java/lang/IllegalStateException") else ((nk_gI [16] 9 h25 x11).bind fun x27 => ((nk_rcv [18] h25 (some t0)).bind fun a28 => nk_do (f_X11_makePower h25 a28 v1 x11 x27 v3) fun h29 x30 => some (h29, (.inl x30)))))))))))))))))))
def f_X11_revoke_c81   (h : nk_H)   : Option (nk_H × (Int32 ⊕ String)) := some (nk_al h 0 0 6, .inr "java/lang/IllegalStateException")
def f_X11_revoke  (h : nk_H) (t0 : Nat) (v1 : Int32) (v2 : Int32) (v3 : Int32) : Option (nk_H × (Int32 ⊕ String)) := (nk_dt (f_X11_mustBeKiosk h v1) fun h1 x2 => (nk_dt (f_X11_mustBePerson h1 v2) fun h3 x4 => ((nk_rcv [18] h3 (some t0)).bind fun a5 => nk_dt (f_X11_mustBePower h3 a5 v3) fun h6 x7 => ((nk_gP [18] 2 h6 (some t0)).bind fun x8 => ((nk_rcv [7] h6 x8).bind fun a9 => nk_do (f_Jx4a65c_get_915e3 h6 a9 v3) fun h10 x11 => ((nk_cc [16] h10 x11).bind fun _ => ((nk_rcv [16] h10 x11).bind fun a13 => nk_do (f_X9_hasGiver h10 a13 v2) fun h14 x15 => (if x15 = 0 then some (nk_al h14 0 0 6, .inr "java/lang/IllegalArgumentException") else ((nk_rcv [18] h14 (some t0)).bind fun a16 => nk_dt (f_X11_mustHaveRoomForNews h14 a16) fun h17 x18 => ((nk_gP [18] 1 h17 (some t0)).bind fun x19 => ((nk_rcv [15] h17 x19).bind fun a20 => nk_do (f_X7_lookAtRead h17 a20 v1) fun h21 x22 => ((nk_gP [18] 1 h21 (some t0)).bind fun x23 => ((nk_rcv [15] h21 x23).bind fun a24 => nk_do (f_X7_knows h21 a24 x11) fun h25 x26 => (if x26 = 0 then (f_X11_revoke_c81   h25) else ((nk_gP [18] 1 h25 (some t0)).bind fun x27 => ((nk_rcv [15] h25 x27).bind fun a28 => nk_do (f_X7_revokes h25 a28 x11) fun h29 x30 => (if x30 = 0 then ((nk_gP [18] 1 h29 (some t0)).bind fun x31 => ((some (nk_al h29 17 0 7)).bind fun h32 => (nk_do (f_X10_init h32 (nk_N h29) x11) fun h33 x34 => ((nk_gI [18] 5 h33 (some t0)).bind fun x35 => ((nk_rcv [15] h33 x31).bind fun a36 => nk_do (f_X7_publish h33 a36 (some (nk_N h29)) v1 x35) fun h37 x38 => some (h37, (.inl x38))))))) else (f_X11_revoke_c81   h29))))))))))))))))))
def f_X11_depute  (h : nk_H) (t0 : Nat) (v1 : Int32) (v2 : Int32) (v3 : Int32) : Option (nk_H × (Int32 ⊕ String)) := (nk_dt (f_X11_mustBeKiosk h v1) fun h1 x2 => (nk_dt (f_X11_mustBeWithin h1 v2 0 100) fun h3 x4 => (nk_dt (f_X11_mustBeWithin h3 v3 0 100) fun h5 x6 => ((nk_rcv [18] h5 (some t0)).bind fun a7 => nk_dt (f_X11_mustHaveRoomForNews h5 a7) fun h8 x9 => ((nk_gI [18] 5 h8 (some t0)).bind fun x10 => ((nk_gP [18] 1 h8 (some t0)).bind fun x11 => ((nk_rcv [15] h8 x11).bind fun a12 => nk_do (f_X7_lookAtAll h8 a12) fun h13 x14 => ((nk_gP [18] 1 h13 (some t0)).bind fun x15 => ((nk_rcv [15] h13 x15).bind fun a16 => nk_do (f_X7_deputes h13 a16 v1 (x10 + v2) ((x10 + v2) + v3)) fun h17 x18 => (if x18 = 0 then ((nk_gP [18] 1 h17 (some t0)).bind fun x19 => ((some (nk_al h17 12 0 9)).bind fun h20 => (nk_do (f_X4_init h20 (nk_N h17) v1 (x10 + v2) ((x10 + v2) + v3)) fun h21 x22 => ((nk_gI [18] 5 h21 (some t0)).bind fun x23 => ((nk_rcv [15] h21 x19).bind fun a24 => nk_do (f_X7_publish h21 a24 (some (nk_N h17)) 0 x23) fun h25 x26 => some (h25, (.inl x26))))))) else some (nk_al h17 0 0 6, .inr "java/lang/IllegalStateException")))))))))))
def f_X11_prepare  (h : nk_H) (t0 : Nat) (v1 : Int32) (v2 : Int32) : Option (nk_H × (Unit ⊕ String)) := (nk_dt (f_X11_mustBeWithin h v1 0 1) fun h1 x2 => (nk_dt (f_X11_mustBeWithin h1 v2 0 5) fun h3 x4 => ((nk_pI [18] 7 h3 (some t0) v1).bind fun h5 => ((nk_pI [18] 8 h5 (some t0) v2).bind fun h6 => some (h6, (.inl ()))))))
def f_X11_deedNow  (h : nk_H) (t0 : Nat) (v1 : Int32) (v2 : Int32) (v3 : Int32) : Option (nk_H × Option Nat) := ((some (nk_al h 11 0 6)).bind fun h1 => ((nk_gI [18] 5 h1 (some t0)).bind fun x2 => ((nk_gI [18] 8 h1 (some t0)).bind fun x3 => ((nk_gI [18] 7 h1 (some t0)).bind fun x4 => (nk_do (f_X3_init h1 (nk_N h) v1 x2 v2 x3 v3 x4) fun h5 x6 => some (h5, (some (nk_N h))))))))
def f_X11_reasonByMail  (h : nk_H) (t0 : Nat) (v1 : Option Nat) : Option (nk_H × Int32) := ((nk_gP [18] 1 h (some t0)).bind fun x1 => ((nk_rcv [15] h x1).bind fun a2 => nk_do (f_X7_lookAtReadable h a2 v1) fun h3 x4 => ((nk_gP [18] 1 h3 (some t0)).bind fun x5 => ((nk_gP [8] 6 h3 v1).bind fun x6 => ((nk_gP [8] 7 h3 v1).bind fun x7 => ((nk_rcv [15] h3 x5).bind fun a8 => nk_do (f_X7_reasonAgainst h3 a8 x6 x7) fun h9 x10 => some (h9, x10)))))))
def f_X11_act_c125   (h : nk_H) (t0 : Nat) (v1 : Int32) (v7 : Option Nat) (s0 : Int32) (s1 : Option Nat) : Option (nk_H × (Int32 ⊕ String)) := ((nk_pZ [8] 10 h s1 s0).bind fun h1 => ((nk_gP [18] 3 h1 (some t0)).bind fun x2 => ((nk_aP 3 h1 x2 v1).bind fun x3 => ((nk_rcv [9] h1 x3).bind fun a4 => nk_do (f_X1_enter h1 a4 v7) fun h5 x6 => some (h5, (.inl x6))))))
def f_X11_act  (h : nk_H) (t0 : Nat) (v1 : Int32) (v2 : Int32) (v3 : Int32) (v4 : Int32) : Option (nk_H × (Int32 ⊕ String)) := (nk_dt (f_X11_mustBeKiosk h v1) fun h7 x8 => (nk_dt (f_X11_mustBePerson h7 v2) fun h9 x10 => ((nk_rcv [18] h9 (some t0)).bind fun a11 => nk_dt (f_X11_mustBePower h9 a11 v3) fun h12 x13 => (nk_dt (f_X11_mustBeWithin h12 v4 1 10000) fun h14 x15 => ((nk_rcv [18] h14 (some t0)).bind fun a16 => nk_dt (f_X11_mustHaveRoomForNews h14 a16) fun h17 x18 => ((nk_gP [18] 2 h17 (some t0)).bind fun x19 => ((nk_rcv [7] h17 x19).bind fun a20 => nk_do (f_Jx4a65c_get_915e3 h17 a20 v3) fun h21 x22 => ((nk_cc [16] h21 x22).bind fun _ => ((nk_rcv [18] h21 (some t0)).bind fun a24 => nk_do (f_X11_deedNow h21 a24 v1 v2 v4) fun h25 x26 => ((nk_gP [18] 1 h25 (some t0)).bind fun x27 => ((nk_rcv [15] h25 x27).bind fun a28 => nk_do (f_X7_lookAtRead h25 a28 v1) fun h29 x30 => ((nk_gP [18] 1 h29 (some t0)).bind fun x31 => ((nk_rcv [15] h29 x31).bind fun a32 => nk_do (f_X7_reasonAgainst h29 a32 x22 x26) fun h33 x34 => (if x34 = 0 then ((some (nk_al h33 8 0 11)).bind fun h35 => (nk_do (f_X0_init h35 (nk_N h33) x22 x26) fun h36 x37 => ((nk_gP [18] 1 h36 (some t0)).bind fun x38 => ((nk_gI [18] 5 h36 (some t0)).bind fun x39 => ((nk_rcv [15] h36 x38).bind fun a40 => nk_do (f_X7_publish h36 a40 (some (nk_N h33)) v1 x39) fun h41 x42 => ((nk_rcv [18] h41 (some t0)).bind fun a43 => nk_do (f_X11_reasonByMail h41 a43 (some (nk_N h33))) fun h44 x45 => (if x45 = 0 then (f_X11_act_c125   h44 t0 v1 (some (nk_N h33)) 1 (some (nk_N h33))) else (f_X11_act_c125   h44 t0 v1 (some (nk_N h33)) 0 (some (nk_N h33)))))))))) else some (nk_al h33 0 0 6, .inr "java/lang/IllegalStateException")))))))))))))))
def f_X11_mustBeRecord_c21   (h : nk_H)   : Option (nk_H × (Unit ⊕ String)) := some (nk_al h 0 0 6, .inr "java/lang/IndexOutOfBoundsException")
def f_X11_mustBeRecord  (h : nk_H) (t0 : Nat) (v1 : Int32) (v2 : Int32) : Option (nk_H × (Unit ⊕ String)) := (nk_dt (f_X11_mustBeKiosk h v1) fun h1 x2 => (if v2 < 0 then (f_X11_mustBeRecord_c21   h1) else ((nk_gP [18] 3 h1 (some t0)).bind fun x3 => ((nk_aP 3 h1 x3 v1).bind fun x4 => ((nk_rcv [9] h1 x4).bind fun a5 => nk_do (f_X1_count h1 a5) fun h6 x7 => (if v2 < x7 then some (h6, (.inl ())) else (f_X11_mustBeRecord_c21   h6)))))))
def f_X11_tamper  (h : nk_H) (t0 : Nat) (v1 : Int32) (v2 : Int32) (v3 : Int32) : Option (nk_H × (Int32 ⊕ String)) := ((nk_rcv [18] h (some t0)).bind fun a1 => nk_dt (f_X11_mustBeRecord h a1 v1 v2) fun h2 x3 => (nk_dt (f_X11_mustBeWithin h2 v3 1 10000) fun h4 x5 => ((nk_gP [18] 3 h4 (some t0)).bind fun x6 => ((nk_aP 3 h4 x6 v1).bind fun x7 => ((nk_rcv [9] h4 x7).bind fun a8 => nk_do (f_X1_actOf h4 a8 v2) fun h9 x10 => ((nk_gP [8] 8 h9 x10).bind fun x11 => ((nk_aI 1 h9 x11 3).bind fun x12 => ((nk_gP [8] 8 h9 x10).bind fun x13 => ((nk_wI h9 x13 3 v3).bind fun h14 => some (h14, (.inl x12)))))))))))
def f_X11_copy  (h : nk_H) (t0 : Nat) (v1 : Int32) (v2 : Int32) (v3 : Int32) (v4 : Int32) : Option (nk_H × (Int32 ⊕ String)) := ((nk_rcv [18] h (some t0)).bind fun a1 => nk_dt (f_X11_mustBeRecord h a1 v1 v2) fun h2 x3 => ((nk_rcv [18] h2 (some t0)).bind fun a4 => nk_dt (f_X11_mustBeRecord h2 a4 v1 v3) fun h5 x6 => (nk_dt (f_X11_mustBeWithin h5 v4 0 63) fun h7 x8 => (if v2 ≤ v3 then ((nk_gP [18] 4 h7 (some t0)).bind fun x9 => ((nk_rcv [7] h7 x9).bind fun a10 => nk_do (f_Jx4a65c_size_8abf5 h7 a10) fun h11 x12 => (if x12 < 12 then ((some (nk_al h11 10 0 7)).bind fun h13 => (nk_do (f_X2_init h13 (nk_N h11) v1 v2 ((v3 - v2) + 1) v4) fun h14 x15 => ((nk_gP [18] 3 h14 (some t0)).bind fun x16 => ((nk_aP 3 h14 x16 v1).bind fun x17 => ((nk_rcv [10] h14 (some (nk_N h11))).bind fun a18 => nk_do (f_X2_takeFrom h14 a18 x17) fun h19 x20 => ((nk_gP [18] 4 h19 (some t0)).bind fun x21 => ((nk_rcv [7] h19 x21).bind fun a22 => nk_do (f_Jx4a65c_add_9ea2d h19 a22 (some (nk_N h11))) fun h23 x24 => ((nk_gP [18] 4 h23 (some t0)).bind fun x25 => ((nk_rcv [7] h23 x25).bind fun a26 => nk_do (f_Jx4a65c_size_8abf5 h23 a26) fun h27 x28 => some (h27, (.inl (x28 - 1)))))))))))) else some (nk_al h11 0 0 6, .inr "java/lang/IllegalStateException")))) else some (nk_al h7 0 0 6, .inr "java/lang/IllegalArgumentException")))))
def f_X11_mustBeCopy_c15   (h : nk_H)   : Option (nk_H × (Unit ⊕ String)) := some (nk_al h 0 0 6, .inr "java/lang/IndexOutOfBoundsException")
def f_X11_mustBeCopy  (h : nk_H) (t0 : Nat) (v1 : Int32) : Option (nk_H × (Unit ⊕ String)) := (if v1 < 0 then (f_X11_mustBeCopy_c15   h) else ((nk_gP [18] 4 h (some t0)).bind fun x1 => ((nk_rcv [7] h x1).bind fun a2 => nk_do (f_Jx4a65c_size_8abf5 h a2) fun h3 x4 => (if v1 < x4 then some (h3, (.inl ())) else (f_X11_mustBeCopy_c15   h3)))))
def f_X11_mustBePlace_c27   (h : nk_H)   : Option (nk_H × (Unit ⊕ String)) := some (nk_al h 0 0 6, .inr "java/lang/IndexOutOfBoundsException")
def f_X11_mustBePlace  (h : nk_H) (t0 : Nat) (v1 : Int32) (v2 : Int32) : Option (nk_H × (Unit ⊕ String)) := ((nk_rcv [18] h (some t0)).bind fun a1 => nk_dt (f_X11_mustBeCopy h a1 v1) fun h2 x3 => (if v2 < 0 then (f_X11_mustBePlace_c27   h2) else ((nk_gP [18] 4 h2 (some t0)).bind fun x4 => ((nk_rcv [7] h2 x4).bind fun a5 => nk_do (f_Jx4a65c_get_915e3 h2 a5 v1) fun h6 x7 => ((nk_cc [10] h6 x7).bind fun _ => ((nk_gI [10] 2 h6 x7).bind fun x9 => (if v2 < x9 then some (h6, (.inl ())) else (f_X11_mustBePlace_c27   h6))))))))
def f_X11_mustBePart_c10   (h : nk_H)   : Option (nk_H × (Unit ⊕ String)) := some (nk_al h 0 0 6, .inr "java/lang/IndexOutOfBoundsException")
def f_X11_mustBePart  (h : nk_H) (v0 : Int32) : Option (nk_H × (Unit ⊕ String)) := (if v0 < 0 then (f_X11_mustBePart_c10   h) else (if v0 < 6 then some (h, (.inl ())) else (f_X11_mustBePart_c10   h)))
def f_X11_forge  (h : nk_H) (t0 : Nat) (v1 : Int32) (v2 : Int32) (v3 : Int32) (v4 : Int32) : Option (nk_H × (Int32 ⊕ String)) := ((nk_rcv [18] h (some t0)).bind fun a1 => nk_dt (f_X11_mustBePlace h a1 v1 v2) fun h2 x3 => (nk_dt (f_X11_mustBePart h2 v3) fun h4 x5 => (nk_dt (f_X11_mustBeWithin h4 v4 0 10000) fun h6 x7 => ((nk_gP [18] 4 h6 (some t0)).bind fun x8 => ((nk_rcv [7] h6 x8).bind fun a9 => nk_do (f_Jx4a65c_get_915e3 h6 a9 v1) fun h10 x11 => ((nk_cc [10] h10 x11).bind fun _ => ((nk_rcv [10] h10 x11).bind fun a13 => nk_do (f_X2_leavesOut h10 a13 v3) fun h14 x15 => (if x15 = 0 then ((nk_gP [10] 4 h14 x11).bind fun x16 => ((nk_aP 5 h14 x16 v2).bind fun x17 => ((nk_aI 1 h14 x17 v3).bind fun x18 => ((nk_gP [10] 4 h14 x11).bind fun x19 => ((nk_aP 5 h14 x19 v2).bind fun x20 => ((nk_wI h14 x20 v3 v4).bind fun h21 => some (h21, (.inl x18)))))))) else some (nk_al h14 0 0 6, .inr "java/lang/IllegalStateException")))))))))
def f_X11_hour  (h : nk_H) (t0 : Nat) : Option (nk_H × Int32) := ((nk_gI [18] 5 h (some t0)).bind fun x1 => some (h, x1))
def f_X11_news  (h : nk_H) (t0 : Nat) : Option (nk_H × Int32) := ((nk_gP [18] 1 h (some t0)).bind fun x1 => ((nk_rcv [15] h x1).bind fun a2 => nk_do (f_X7_count h a2) fun h3 x4 => some (h3, x4)))
def f_X11_powers  (h : nk_H) (t0 : Nat) : Option (nk_H × Int32) := ((nk_gP [18] 2 h (some t0)).bind fun x1 => ((nk_rcv [7] h x1).bind fun a2 => nk_do (f_Jx4a65c_size_8abf5 h a2) fun h3 x4 => some (h3, x4)))
def f_X11_records  (h : nk_H) (t0 : Nat) (v1 : Int32) : Option (nk_H × (Int32 ⊕ String)) := (nk_dt (f_X11_mustBeKiosk h v1) fun h1 x2 => ((nk_gP [18] 3 h1 (some t0)).bind fun x3 => ((nk_aP 3 h1 x3 v1).bind fun x4 => ((nk_rcv [9] h1 x4).bind fun a5 => nk_do (f_X1_count h1 a5) fun h6 x7 => some (h6, (.inl x7))))))
def f_X11_areJoined  (h : nk_H) (t0 : Nat) (v1 : Int32) (v2 : Int32) : Option (nk_H × (Int32 ⊕ String)) := (nk_dt (f_X11_mustBeKiosk h v1) fun h1 x2 => (nk_dt (f_X11_mustBeKiosk h1 v2) fun h3 x4 => ((nk_gP [18] 0 h3 (some t0)).bind fun x5 => ((nk_rcv [14] h3 x5).bind fun a6 => nk_do (f_X6_areLinked h3 a6 v1 v2) fun h7 x8 => (nk_zr x8 (h7, (.inl x8)))))))
def f_X11_mustBePiece_c15   (h : nk_H)   : Option (nk_H × (Unit ⊕ String)) := some (nk_al h 0 0 6, .inr "java/lang/IndexOutOfBoundsException")
def f_X11_mustBePiece  (h : nk_H) (t0 : Nat) (v1 : Int32) : Option (nk_H × (Unit ⊕ String)) := (if v1 < 0 then (f_X11_mustBePiece_c15   h) else ((nk_gP [18] 1 h (some t0)).bind fun x1 => ((nk_rcv [15] h x1).bind fun a2 => nk_do (f_X7_count h a2) fun h3 x4 => (if v1 < x4 then some (h3, (.inl ())) else (f_X11_mustBePiece_c15   h3)))))
def f_X11_came  (h : nk_H) (t0 : Nat) (v1 : Int32) (v2 : Int32) : Option (nk_H × (Int32 ⊕ String)) := (nk_dt (f_X11_mustBeKiosk h v1) fun h1 x2 => ((nk_rcv [18] h1 (some t0)).bind fun a3 => nk_dt (f_X11_mustBePiece h1 a3 v2) fun h4 x5 => ((nk_gP [18] 1 h4 (some t0)).bind fun x6 => ((nk_rcv [15] h4 x6).bind fun a7 => nk_do (f_X7_pieceAt h4 a7 v2) fun h8 x9 => ((nk_gP [8, 12, 16, 17] 5 h8 x9).bind fun x10 => ((nk_aI 1 h8 x10 v1).bind fun x11 => some (h8, (.inl x11))))))))
def f_X11_cameByLinks_c49  (r49 : nk_H → Nat → Int32 → Int32 → Int32 → Option (nk_H × (Int32 ⊕ String))) (h : nk_H) (t0 : Nat) (v1 : Int32) (v4 : Int32) (v5 : Int32)  : Option (nk_H × (Int32 ⊕ String)) := ((nk_gI [18] 5 h (some t0)).bind fun x1 => (if x1 < v5 then some (h, (.inl (-1))) else ((nk_gP [18] 0 h (some t0)).bind fun x2 => ((nk_rcv [14] h x2).bind fun a3 => nk_do (f_X6_reach h a3 v4 v5) fun h4 x5 => (nk_do (f_X11_hasBit h4 x5 v1) fun h6 x7 => (if x7 = 0 then (r49 h6 t0 v1 x5 (v5 + 1)) else some (h6, (.inl v5))))))))
def f_X11_cameByLinks_b49   : Nat → nk_H → Nat → Int32 → Int32 → Int32 → Option (nk_H × (Int32 ⊕ String))
  | 0 => fun _ _ _ _ _ => none
  | n + 1 => f_X11_cameByLinks_c49  (f_X11_cameByLinks_b49   n)
def f_X11_cameByLinks  (h : nk_H) (t0 : Nat) (v1 : Int32) (v2 : Int32) : Option (nk_H × (Int32 ⊕ String)) := (nk_dt (f_X11_mustBeKiosk h v1) fun h8 x9 => ((nk_rcv [18] h8 (some t0)).bind fun a10 => nk_dt (f_X11_mustBePiece h8 a10 v2) fun h11 x12 => ((nk_gP [18] 1 h11 (some t0)).bind fun x13 => ((nk_rcv [15] h11 x13).bind fun a14 => nk_do (f_X7_pieceAt h11 a14 v2) fun h15 x16 => ((nk_gI [8, 12, 16, 17] 1 h15 x16).bind fun x17 => (nk_do (f_X11_bit h15 x17) fun h18 x19 => (nk_do (f_X11_hasBit h18 x19 v1) fun h20 x21 => (if x21 = 0 then ((nk_gI [8, 12, 16, 17] 2 h20 x16).bind fun x22 => (f_X11_cameByLinks_b49   4096 h20 t0 v1 x19 (x22 + 1))) else ((nk_gI [8, 12, 16, 17] 2 h20 x16).bind fun x23 => some (h20, (.inl x23)))))))))))
def f_X11_isRead  (h : nk_H) (t0 : Nat) (v1 : Int32) (v2 : Int32) : Option (nk_H × (Int32 ⊕ String)) := (nk_dt (f_X11_mustBeKiosk h v1) fun h1 x2 => ((nk_rcv [18] h1 (some t0)).bind fun a3 => nk_dt (f_X11_mustBePiece h1 a3 v2) fun h4 x5 => ((nk_gP [18] 1 h4 (some t0)).bind fun x6 => ((nk_rcv [15] h4 x6).bind fun a7 => nk_do (f_X7_pieceAt h4 a7 v2) fun h8 x9 => ((nk_gI [8, 12, 16, 17] 4 h8 x9).bind fun x10 => (nk_do (f_X11_hasBit h8 x10 v1) fun h11 x12 => (nk_zr x12 (h11, (.inl x12)))))))))
def f_X11_mail  (h : nk_H) (t0 : Nat) (v1 : Int32) : Option (nk_H × (Int32 ⊕ String)) := (nk_dt (f_X11_mustBeKiosk h v1) fun h1 x2 => ((nk_gP [18] 1 h1 (some t0)).bind fun x3 => ((nk_rcv [15] h1 x3).bind fun a4 => nk_do (f_X7_unread h1 a4 v1) fun h5 x6 => some (h5, (.inl x6)))))
def f_X11_source_c32   (h : nk_H)  (s0 : Int32) : Option (nk_H × (Int32 ⊕ String)) := some (h, (.inl s0))
def f_X11_source  (h : nk_H) (t0 : Nat) (v1 : Int32) : Option (nk_H × (Int32 ⊕ String)) := ((nk_rcv [18] h (some t0)).bind fun a1 => nk_dt (f_X11_mustBePower h a1 v1) fun h2 x3 => ((nk_gP [18] 2 h2 (some t0)).bind fun x4 => ((nk_rcv [7] h2 x4).bind fun a5 => nk_do (f_Jx4a65c_get_915e3 h2 a5 v1) fun h6 x7 => ((nk_cc [16] h6 x7).bind fun _ => ((nk_gP [16] 7 h6 x7).bind fun x9 => (if x9 = none then (f_X11_source_c32   h6 (-1)) else ((nk_gI [16] 6 h6 x9).bind fun x10 => (f_X11_source_c32   h6 x10))))))))
def f_X11_holder  (h : nk_H) (t0 : Nat) (v1 : Int32) : Option (nk_H × (Int32 ⊕ String)) := ((nk_rcv [18] h (some t0)).bind fun a1 => nk_dt (f_X11_mustBePower h a1 v1) fun h2 x3 => ((nk_gP [18] 2 h2 (some t0)).bind fun x4 => ((nk_rcv [7] h2 x4).bind fun a5 => nk_do (f_Jx4a65c_get_915e3 h2 a5 v1) fun h6 x7 => ((nk_cc [16] h6 x7).bind fun _ => ((nk_gI [16] 9 h6 x7).bind fun x9 => some (h6, (.inl x9)))))))
def f_X11_isGood  (h : nk_H) (t0 : Nat) (v1 : Int32) (v2 : Int32) : Option (nk_H × (Int32 ⊕ String)) := (nk_dt (f_X11_mustBeKiosk h v1) fun h1 x2 => ((nk_rcv [18] h1 (some t0)).bind fun a3 => nk_dt (f_X11_mustBePower h1 a3 v2) fun h4 x5 => ((nk_gP [18] 2 h4 (some t0)).bind fun x6 => ((nk_rcv [7] h4 x6).bind fun a7 => nk_do (f_Jx4a65c_get_915e3 h4 a7 v2) fun h8 x9 => ((nk_cc [16] h8 x9).bind fun _ => ((nk_rcv [18] h8 (some t0)).bind fun a11 => nk_do (f_X11_isGoodAt h8 a11 v1 x9) fun h12 x13 => (nk_zr x13 (h12, (.inl x13)))))))))
def f_X11_done  (h : nk_H) (t0 : Nat) (v1 : Int32) (v2 : Int32) : Option (nk_H × (Int32 ⊕ String)) := (nk_dt (f_X11_mustBeKiosk h v1) fun h1 x2 => ((nk_rcv [18] h1 (some t0)).bind fun a3 => nk_dt (f_X11_mustBePower h1 a3 v2) fun h4 x5 => ((nk_gP [18] 1 h4 (some t0)).bind fun x6 => ((nk_rcv [15] h4 x6).bind fun a7 => nk_do (f_X7_lookAtRead h4 a7 v1) fun h8 x9 => ((nk_gP [18] 1 h8 (some t0)).bind fun x10 => ((nk_gP [18] 2 h8 (some t0)).bind fun x11 => ((nk_rcv [7] h8 x11).bind fun a12 => nk_do (f_Jx4a65c_get_915e3 h8 a12 v2) fun h13 x14 => ((nk_cc [16] h13 x14).bind fun _ => ((nk_rcv [15] h13 x10).bind fun a16 => nk_do (f_X7_doneWith h13 a16 x14) fun h17 x18 => some (h17, (.inl x18)))))))))))
def f_X11_against  (h : nk_H) (t0 : Nat) (v1 : Int32) (v2 : Int32) (v3 : Int32) (v4 : Int32) : Option (nk_H × (Int32 ⊕ String)) := (nk_dt (f_X11_mustBeKiosk h v1) fun h1 x2 => (nk_dt (f_X11_mustBePerson h1 v2) fun h3 x4 => ((nk_rcv [18] h3 (some t0)).bind fun a5 => nk_dt (f_X11_mustBePower h3 a5 v3) fun h6 x7 => (nk_dt (f_X11_mustBeWithin h6 v4 1 10000) fun h8 x9 => ((nk_gP [18] 1 h8 (some t0)).bind fun x10 => ((nk_rcv [15] h8 x10).bind fun a11 => nk_do (f_X7_lookAtRead h8 a11 v1) fun h12 x13 => ((nk_gP [18] 1 h12 (some t0)).bind fun x14 => ((nk_gP [18] 2 h12 (some t0)).bind fun x15 => ((nk_rcv [7] h12 x15).bind fun a16 => nk_do (f_Jx4a65c_get_915e3 h12 a16 v3) fun h17 x18 => ((nk_cc [16] h17 x18).bind fun _ => ((nk_rcv [18] h17 (some t0)).bind fun a20 => nk_do (f_X11_deedNow h17 a20 v1 v2 v4) fun h21 x22 => ((nk_rcv [15] h21 x14).bind fun a23 => nk_do (f_X7_reasonAgainst h21 a23 x18 x22) fun h24 x25 => some (h24, (.inl x25))))))))))))))
def f_X11_choices_c78  (r39 : nk_H → Nat → Option Nat → Int32 → Int32 → Option (nk_H × (Int32 ⊕ String))) (h : nk_H) (t0 : Nat) (v4 : Option Nat) (v5 : Int32) (v6 : Int32)  : Option (nk_H × (Int32 ⊕ String)) := (r39 h t0 v4 v5 (v6 + 1))
def f_X11_choices_c39  (r39 : nk_H → Nat → Option Nat → Int32 → Int32 → Option (nk_H × (Int32 ⊕ String))) (h : nk_H) (t0 : Nat) (v4 : Option Nat) (v5 : Int32) (v6 : Int32)  : Option (nk_H × (Int32 ⊕ String)) := ((nk_gP [18] 2 h (some t0)).bind fun x1 => ((nk_rcv [7] h x1).bind fun a2 => nk_do (f_Jx4a65c_size_8abf5 h a2) fun h3 x4 => (if x4 ≤ v6 then some (h3, (.inl v5)) else ((nk_gP [18] 1 h3 (some t0)).bind fun x5 => ((nk_gP [18] 2 h3 (some t0)).bind fun x6 => ((nk_rcv [7] h3 x6).bind fun a7 => nk_do (f_Jx4a65c_get_915e3 h3 a7 v6) fun h8 x9 => ((nk_cc [16] h8 x9).bind fun _ => ((nk_rcv [15] h8 x5).bind fun a11 => nk_do (f_X7_reasonAgainst h8 a11 x9 v4) fun h12 x13 => (if x13 = 0 then (f_X11_choices_c78  r39 h12 t0 v4 (v5 + 1) v6) else (f_X11_choices_c78  r39 h12 t0 v4 v5 v6))))))))))
def f_X11_choices_b39   : Nat → nk_H → Nat → Option Nat → Int32 → Int32 → Option (nk_H × (Int32 ⊕ String))
  | 0 => fun _ _ _ _ _ => none
  | n + 1 => f_X11_choices_c39  (f_X11_choices_b39   n)
def f_X11_choices  (h : nk_H) (t0 : Nat) (v1 : Int32) (v2 : Int32) (v3 : Int32) : Option (nk_H × (Int32 ⊕ String)) := (nk_dt (f_X11_mustBeKiosk h v1) fun h14 x15 => (nk_dt (f_X11_mustBePerson h14 v2) fun h16 x17 => (nk_dt (f_X11_mustBeWithin h16 v3 1 10000) fun h18 x19 => ((nk_rcv [18] h18 (some t0)).bind fun a20 => nk_do (f_X11_deedNow h18 a20 v1 v2 v3) fun h21 x22 => ((nk_gP [18] 1 h21 (some t0)).bind fun x23 => ((nk_rcv [15] h21 x23).bind fun a24 => nk_do (f_X7_lookAtRead h21 a24 v1) fun h25 x26 => (f_X11_choices_b39   4096 h25 t0 x22 0 0)))))))
def f_X11_stands  (h : nk_H) (t0 : Nat) (v1 : Int32) (v2 : Int32) : Option (nk_H × (Int32 ⊕ String)) := ((nk_rcv [18] h (some t0)).bind fun a1 => nk_dt (f_X11_mustBeRecord h a1 v1 v2) fun h2 x3 => ((nk_gP [18] 3 h2 (some t0)).bind fun x4 => ((nk_aP 3 h2 x4 v1).bind fun x5 => ((nk_rcv [9] h2 x5).bind fun a6 => nk_do (f_X1_actOf h2 a6 v2) fun h7 x8 => ((nk_gI [8] 10 h7 x8).bind fun x9 => (nk_zr x9 (h7, (.inl x9))))))))
def f_X11_fault  (h : nk_H) (t0 : Nat) (v1 : Int32) (v2 : Int32) : Option (nk_H × (Int32 ⊕ String)) := ((nk_rcv [18] h (some t0)).bind fun a1 => nk_dt (f_X11_mustBeRecord h a1 v1 v2) fun h2 x3 => ((nk_gP [18] 3 h2 (some t0)).bind fun x4 => ((nk_aP 3 h2 x4 v1).bind fun x5 => ((nk_rcv [9] h2 x5).bind fun a6 => nk_do (f_X1_actOf h2 a6 v2) fun h7 x8 => ((nk_rcv [18] h7 (some t0)).bind fun a9 => nk_do (f_X11_reasonByMail h7 a9 x8) fun h10 x11 => some (h10, (.inl x11)))))))
def f_X11_standing_c4  (r4 : nk_H → Nat → Int32 → Int32 → Option (nk_H × Int32)) (h : nk_H) (t0 : Nat) (v1 : Int32) (v2 : Int32)  : Option (nk_H × Int32) := (if 6 ≤ v2 then some (h, v1) else ((nk_gP [18] 3 h (some t0)).bind fun x1 => ((nk_aP 3 h x1 v2).bind fun x2 => ((nk_rcv [9] h x2).bind fun a3 => nk_do (f_X1_countStanding h a3) fun h4 x5 => (r4 h4 t0 (v1 + x5) (v2 + 1))))))
def f_X11_standing_b4   : Nat → nk_H → Nat → Int32 → Int32 → Option (nk_H × Int32)
  | 0 => fun _ _ _ _ => none
  | n + 1 => f_X11_standing_c4  (f_X11_standing_b4   n)
def f_X11_standing  (h : nk_H) (t0 : Nat) : Option (nk_H × Int32) := (f_X11_standing_b4   4096 h t0 0 0)
def f_X11_pieceOf  (h : nk_H) (t0 : Nat) (v1 : Int32) (v2 : Int32) : Option (nk_H × (Int32 ⊕ String)) := ((nk_rcv [18] h (some t0)).bind fun a1 => nk_dt (f_X11_mustBeRecord h a1 v1 v2) fun h2 x3 => ((nk_gP [18] 3 h2 (some t0)).bind fun x4 => ((nk_aP 3 h2 x4 v1).bind fun x5 => ((nk_rcv [9] h2 x5).bind fun a6 => nk_do (f_X1_actOf h2 a6 v2) fun h7 x8 => ((nk_gI [8] 0 h7 x8).bind fun x9 => some (h7, (.inl x9)))))))
def f_X11_part  (h : nk_H) (t0 : Nat) (v1 : Int32) (v2 : Int32) (v3 : Int32) : Option (nk_H × (Int32 ⊕ String)) := ((nk_rcv [18] h (some t0)).bind fun a1 => nk_dt (f_X11_mustBeRecord h a1 v1 v2) fun h2 x3 => (nk_dt (f_X11_mustBePart h2 v3) fun h4 x5 => ((nk_gP [18] 3 h4 (some t0)).bind fun x6 => ((nk_aP 3 h4 x6 v1).bind fun x7 => ((nk_rcv [9] h4 x7).bind fun a8 => nk_do (f_X1_actOf h4 a8 v2) fun h9 x10 => ((nk_gP [8] 8 h9 x10).bind fun x11 => ((nk_aI 1 h9 x11 v3).bind fun x12 => some (h9, (.inl x12)))))))))
def f_X11_seal  (h : nk_H) (t0 : Nat) (v1 : Int32) (v2 : Int32) : Option (nk_H × (Int32 ⊕ String)) := ((nk_rcv [18] h (some t0)).bind fun a1 => nk_dt (f_X11_mustBeRecord h a1 v1 v2) fun h2 x3 => ((nk_gP [18] 3 h2 (some t0)).bind fun x4 => ((nk_aP 3 h2 x4 v1).bind fun x5 => ((nk_rcv [9] h2 x5).bind fun a6 => nk_do (f_X1_actOf h2 a6 v2) fun h7 x8 => ((nk_gI [8] 9 h7 x8).bind fun x9 => some (h7, (.inl x9)))))))
def f_X11_broken  (h : nk_H) (t0 : Nat) (v1 : Int32) : Option (nk_H × (Int32 ⊕ String)) := (nk_dt (f_X11_mustBeKiosk h v1) fun h1 x2 => ((nk_gP [18] 3 h1 (some t0)).bind fun x3 => ((nk_aP 3 h1 x3 v1).bind fun x4 => ((nk_rcv [9] h1 x4).bind fun a5 => nk_do (f_X1_firstBroken h1 a5) fun h6 x7 => some (h6, (.inl x7))))))
def f_X11_size  (h : nk_H) (t0 : Nat) (v1 : Int32) : Option (nk_H × (Int32 ⊕ String)) := ((nk_rcv [18] h (some t0)).bind fun a1 => nk_dt (f_X11_mustBeCopy h a1 v1) fun h2 x3 => ((nk_gP [18] 4 h2 (some t0)).bind fun x4 => ((nk_rcv [7] h2 x4).bind fun a5 => nk_do (f_Jx4a65c_get_915e3 h2 a5 v1) fun h6 x7 => ((nk_cc [10] h6 x7).bind fun _ => ((nk_gI [10] 2 h6 x7).bind fun x9 => some (h6, (.inl x9)))))))
def f_X11_copied_c45   (h : nk_H)  (s0 : Int32) : Option (nk_H × (Int32 ⊕ String)) := some (h, (.inl s0))
def f_X11_copied  (h : nk_H) (t0 : Nat) (v1 : Int32) (v2 : Int32) (v3 : Int32) : Option (nk_H × (Int32 ⊕ String)) := ((nk_rcv [18] h (some t0)).bind fun a1 => nk_dt (f_X11_mustBePlace h a1 v1 v2) fun h2 x3 => (nk_dt (f_X11_mustBePart h2 v3) fun h4 x5 => ((nk_gP [18] 4 h4 (some t0)).bind fun x6 => ((nk_rcv [7] h4 x6).bind fun a7 => nk_do (f_Jx4a65c_get_915e3 h4 a7 v1) fun h8 x9 => ((nk_cc [10] h8 x9).bind fun _ => ((nk_rcv [10] h8 x9).bind fun a11 => nk_do (f_X2_leavesOut h8 a11 v3) fun h12 x13 => (if x13 = 0 then ((nk_gP [10] 4 h12 x9).bind fun x14 => ((nk_aP 5 h12 x14 v2).bind fun x15 => ((nk_aI 1 h12 x15 v3).bind fun x16 => (f_X11_copied_c45   h12 x16)))) else (f_X11_copied_c45   h12 (-1)))))))))
def f_X11_brokenCopy  (h : nk_H) (t0 : Nat) (v1 : Int32) : Option (nk_H × (Int32 ⊕ String)) := ((nk_rcv [18] h (some t0)).bind fun a1 => nk_dt (f_X11_mustBeCopy h a1 v1) fun h2 x3 => ((nk_gP [18] 4 h2 (some t0)).bind fun x4 => ((nk_rcv [7] h2 x4).bind fun a5 => nk_do (f_Jx4a65c_get_915e3 h2 a5 v1) fun h6 x7 => ((nk_cc [10] h6 x7).bind fun _ => ((nk_rcv [10] h6 x7).bind fun a9 => nk_do (f_X2_firstBroken h6 a9) fun h10 x11 => some (h10, (.inl x11)))))))
def f_X11_isTrue  (h : nk_H) (t0 : Nat) (v1 : Int32) : Option (nk_H × (Int32 ⊕ String)) := ((nk_rcv [18] h (some t0)).bind fun a1 => nk_dt (f_X11_mustBeCopy h a1 v1) fun h2 x3 => ((nk_gP [18] 4 h2 (some t0)).bind fun x4 => ((nk_rcv [7] h2 x4).bind fun a5 => nk_do (f_Jx4a65c_get_915e3 h2 a5 v1) fun h6 x7 => ((nk_cc [10] h6 x7).bind fun _ => ((nk_gP [18] 3 h6 (some t0)).bind fun x9 => ((nk_gI [10] 0 h6 x7).bind fun x10 => ((nk_aP 3 h6 x9 x10).bind fun x11 => ((nk_rcv [10] h6 x7).bind fun a12 => nk_do (f_X2_tellsAs h6 a12 x11) fun h13 x14 => (nk_zr x14 (h13, (.inl x14)))))))))))
def f_L_cell_c27 (G : nk_G)  (h : nk_H)  (s0 : Int32) : Option (nk_H × Int32) := some (h, s0)
def f_L_cell (G : nk_G) (h : nk_H)  (v1 : Int32) : Option (nk_H × Int32) := (if (Int32.ofNat (nk_gL G)) ≤ v1 then (f_L_cell_c27 G  h ((7919 * (v1 + 953)) * (v1 + 3371))) else ((nk_sx G v1).bind fun x1 => (f_L_cell_c27 G  h x1)))
def f_L_low  (h : nk_H) (v0 : Int32) (v1 : Int32) : Option (nk_H × Int32) := ((nk_nz v1).bind fun _ => some (h, ((v0 &&& 2147483647) - (v0 &&& 2147483647) / v1 * v1)))
def hs_L_does : nk_Hs := [((0, 220, 221, 56), nk_IX), ((0, 220, 226, 59), nk_IA), ((0, 220, 231, 61), nk_IS)]
def f_L_does_c220   (h : nk_H)  (s0 : Int32) : Option (nk_H × Int32) := some (h, s0)
def f_L_does  (h : nk_H) (v0 : Option Nat) (v1 : Int32) (v2 : Int32) (v3 : Int32) (v4 : Int32) (v5 : Int32) : Option (nk_H × Int32) := (if v1 = 0 then ((nk_rcv [18] h v0).bind fun a1 => nk_tr hs_L_does (f_X11_join h a1 v2 v3) fun h2 x3 => (f_L_does_c220   h2 x3)) else (if v1 = 1 then ((nk_rcv [18] h v0).bind fun a4 => nk_tr hs_L_does (f_X11_cut h a4 v2 v3) fun h5 x6 => (f_L_does_c220   h5 x6)) else (if v1 = 2 then ((nk_rcv [18] h v0).bind fun a7 => nk_tr hs_L_does (f_X11_pass h a7 v2) fun h8 x9 => (f_L_does_c220   h8 x9)) else (if v1 = 3 then ((nk_rcv [18] h v0).bind fun a10 => nk_tr hs_L_does (f_X11_read h a10 v2) fun h11 x12 => (f_L_does_c220   h11 x12)) else (if v1 = 4 then ((nk_rcv [18] h v0).bind fun a13 => nk_tr hs_L_does (f_X11_grant h a13 v2 v3 v4) fun h14 x15 => (f_L_does_c220   h14 x15)) else (if v1 = 5 then ((nk_rcv [18] h v0).bind fun a16 => nk_tr hs_L_does (f_X11_passOn h a16 v2 v3 v4) fun h17 x18 => (f_L_does_c220   h17 x18)) else (if v1 = 6 then ((nk_rcv [18] h v0).bind fun a19 => nk_tr hs_L_does (f_X11_revoke h a19 v2 v3 v4) fun h20 x21 => (f_L_does_c220   h20 x21)) else (if v1 = 7 then ((nk_rcv [18] h v0).bind fun a22 => nk_tr hs_L_does (f_X11_depute h a22 v2 v3 v4) fun h23 x24 => (f_L_does_c220   h23 x24)) else (if v1 = 8 then ((nk_rcv [18] h v0).bind fun a25 => nk_tr hs_L_does (f_X11_act h a25 v2 v3 v4 v5) fun h26 x27 => (f_L_does_c220   h26 x27)) else (if v1 = 9 then ((nk_rcv [18] h v0).bind fun a28 => nk_tr hs_L_does (f_X11_tamper h a28 v2 v3 v4) fun h29 x30 => (f_L_does_c220   h29 x30)) else (if v1 = 10 then ((nk_rcv [18] h v0).bind fun a31 => nk_tr hs_L_does (f_X11_copy h a31 v2 v3 v4 v5) fun h32 x33 => (f_L_does_c220   h32 x33)) else (if v1 = 11 then ((nk_rcv [18] h v0).bind fun a34 => nk_tr hs_L_does (f_X11_forge h a34 v2 v3 v4 v5) fun h35 x36 => (f_L_does_c220   h35 x36)) else (if v1 = 12 then ((nk_rcv [18] h v0).bind fun a37 => nk_tr hs_L_does (f_X11_against h a37 v2 v3 v4 v5) fun h38 x39 => (f_L_does_c220   h38 x39)) else ((nk_rcv [18] h v0).bind fun a40 => nk_tr hs_L_does (f_X11_choices h a40 v2 v3 v4) fun h41 x42 => (f_L_does_c220   h41 x42)))))))))))))))
def f_L_tells_c25   (h : nk_H)   : Option (nk_H × (Int32 ⊕ String)) := some (h, (.inl 0))
def f_L_tells  (h : nk_H) (v0 : Option Nat) (v1 : Int32) (v2 : Int32) (v3 : Int32) (v4 : Int32) (v5 : Int32) (v6 : Int32) : Option (nk_H × (Int32 ⊕ String)) := (if v1 = 0 then ((nk_rcv [18] h v0).bind fun a1 => nk_dt (f_X11_prepare h a1 v2 v3) fun h2 x3 => (f_L_tells_c25   h2)) else ((nk_rcv [18] h v0).bind fun a4 => nk_dt (f_X11_draft h a4 v2 v3 v4 v5 v6) fun h5 x6 => (f_L_tells_c25   h5)))
def hs_L_tell : nk_Hs := [((0, 13, 14, 59), nk_IA)]
def f_L_tell  (h : nk_H) (v0 : Option Nat) (v1 : Int32) (v2 : Int32) (v3 : Int32) (v4 : Int32) (v5 : Int32) (v6 : Int32) : Option (nk_H × Int32) := (nk_tr hs_L_tell (f_L_tells h v0 v1 v2 v3 v4 v5 v6) fun h1 x2 => some (h1, x2))
def hs_L_looks : nk_Hs := [((0, 65, 66, 56), nk_IX)]
def f_L_looks_c65   (h : nk_H)  (s0 : Int32) : Option (nk_H × Int32) := some (h, s0)
def f_L_looks  (h : nk_H) (v0 : Option Nat) (v1 : Int32) (v2 : Int32) (v3 : Int32) : Option (nk_H × Int32) := (if v1 = 0 then ((nk_rcv [18] h v0).bind fun a1 => nk_tr hs_L_looks (f_X11_broken h a1 v2) fun h2 x3 => (f_L_looks_c65   h2 x3)) else (if v1 = 1 then ((nk_rcv [18] h v0).bind fun a4 => nk_tr hs_L_looks (f_X11_done h a4 v2 v3) fun h5 x6 => (f_L_looks_c65   h5 x6)) else (if v1 = 2 then ((nk_rcv [18] h v0).bind fun a7 => nk_tr hs_L_looks (f_X11_size h a7 v2) fun h8 x9 => (f_L_looks_c65   h8 x9)) else (if v1 = 3 then ((nk_rcv [18] h v0).bind fun a10 => nk_tr hs_L_looks (f_X11_brokenCopy h a10 v2) fun h11 x12 => (f_L_looks_c65   h11 x12)) else ((nk_rcv [18] h v0).bind fun a13 => nk_tr hs_L_looks (f_X11_isTrue h a13 v2) fun h14 x15 => (if x15 = 0 then (f_L_looks_c65   h14 0) else (f_L_looks_c65   h14 1)))))))
def f_L_act_c148   (h : nk_H)  (s0 : Int32) (s1 : Int32) (s2 : Int32) (s3 : Int32) (s4 : Option Nat) : Option (nk_H × Int32) := (nk_do (f_L_low h s1 s0) fun h1 x2 => (nk_do (f_L_does h1 s4 s3 s2 x2 0 0) fun h3 x4 => some (h3, x4)))
def f_L_act_c132   (h : nk_H) (v1 : Int32) (v2 : Int32) (v4 : Int32) (s0 : Int32) (s1 : Option Nat) : Option (nk_H × Int32) := (if v2 = 0 then (f_L_act_c148   h 4 (v1 >>> (9 &&& 31)) v4 s0 s1) else (f_L_act_c148   h 8 (v1 >>> (9 &&& 31)) v4 s0 s1))
def f_L_act_c216   (h : nk_H)  (s0 : Int32) : Option (nk_H × Int32) := some (h, s0)
def f_L_act_c197   (h : nk_H)  (s0 : Int32) (s1 : Int32) (s2 : Option Nat) : Option (nk_H × Int32) := (nk_do (f_L_does h s2 s1 s0 0 0 0) fun h5 x6 => (f_L_act_c216   h5 x6))
def f_L_act_c414   (h : nk_H)  (s0 : Int32) : Option (nk_H × Int32) := some (h, s0)
def f_L_act_c288   (h : nk_H)  (s0 : Int32) (s1 : Int32) (s2 : Int32) (s3 : Option Nat) : Option (nk_H × Int32) := (nk_do (f_L_tell h s3 s2 s1 s0 0 0 0) fun h7 x8 => (f_L_act_c414   h7 x8))
def f_L_act_c262   (h : nk_H) (v1 : Int32) (v2 : Int32) (s0 : Int32) (s1 : Int32) (s2 : Option Nat) : Option (nk_H × Int32) := (if v2 = 0 then (nk_do (f_L_low h (v1 >>> (7 &&& 31)) 3) fun h9 x10 => (f_L_act_c288   h9 x10 s0 s1 s2)) else (nk_do (f_L_low h (v1 >>> (7 &&& 31)) 9) fun h11 x12 => (f_L_act_c288   h11 (x12 - 1) s0 s1 s2)))
def f_L_act_c411   (h : nk_H)  (s0 : Int32) (s1 : Int32) (s2 : Int32) (s3 : Int32) (s4 : Int32) (s5 : Int32) (s6 : Option Nat) : Option (nk_H × Int32) := (nk_do (f_L_tell h s6 s5 s4 s3 s2 s1 s0) fun h13 x14 => (f_L_act_c414   h13 x14))
def f_L_act_c384   (h : nk_H) (v1 : Int32) (v2 : Int32) (s0 : Int32) (s1 : Int32) (s2 : Int32) (s3 : Int32) (s4 : Int32) (s5 : Int32) (s6 : Option Nat) : Option (nk_H × Int32) := (nk_do (f_L_low h s1 s0) fun h15 x16 => (if v2 = 0 then (f_L_act_c411   h15 ((v1 >>> (14 &&& 31)) &&& 3) x16 s2 s3 s4 s5 s6) else (nk_do (f_L_low h15 (v1 >>> (14 &&& 31)) 7) fun h17 x18 => (f_L_act_c411   h17 (x18 - 1) x16 s2 s3 s4 s5 s6))))
def f_L_act_c364   (h : nk_H) (v1 : Int32) (v2 : Int32) (s0 : Int32) (s1 : Int32) (s2 : Int32) (s3 : Int32) (s4 : Int32) (s5 : Int32) (s6 : Option Nat) : Option (nk_H × Int32) := (nk_do (f_L_low h s1 s0) fun h19 x20 => (if v2 = 0 then (f_L_act_c384   h19 v1 v2 30 (v1 >>> (11 &&& 31)) (s2 + x20) s3 s4 s5 s6) else (f_L_act_c384   h19 v1 v2 420 (v1 >>> (11 &&& 31)) (s2 + x20) s3 s4 s5 s6)))
def f_L_act_c343   (h : nk_H) (v1 : Int32) (v2 : Int32) (s0 : Int32) (s1 : Int32) (s2 : Int32) (s3 : Int32) (s4 : Int32) (s5 : Option Nat) : Option (nk_H × Int32) := (nk_do (f_L_low h s1 s0) fun h21 x22 => (if v2 = 0 then (f_L_act_c364   h21 v1 v2 20000 (v1 >>> (9 &&& 31)) 1 (s2 + x22) s3 s4 s5) else (f_L_act_c364   h21 v1 v2 110000 (v1 >>> (9 &&& 31)) 1 (s2 + x22) s3 s4 s5)))
def f_L_act_c325   (h : nk_H) (v1 : Int32) (v2 : Int32) (s0 : Int32) (s1 : Int32) (s2 : Option Nat) : Option (nk_H × Int32) := (if v2 = 0 then (f_L_act_c343   h v1 v2 5000 (v1 >>> (7 &&& 31)) 1 s0 s1 s2) else (f_L_act_c343   h v1 v2 11000 (v1 >>> (7 &&& 31)) 1 s0 s1 s2))
def f_L_act_c557   (h : nk_H) (v0 : Option Nat) (v4 : Int32) (v7 : Int32) (v8 : Int32) (s0 : Int32) : Option (nk_H × Int32) := (nk_do (f_L_does h v0 v7 v4 v8 s0 0) fun h23 x24 => some (h23, x24))
def f_L_act_c533   (h : nk_H) (v0 : Option Nat) (v4 : Int32) (v7 : Int32) (v8 : Int32) (s0 : Int32) (s1 : Int32) : Option (nk_H × Int32) := (nk_do (f_L_low h s1 s0) fun h25 x26 => (f_L_act_c557   h25 v0 v4 v7 v8 x26))
def f_L_act_c554   (h : nk_H) (v0 : Option Nat) (v4 : Int32) (v7 : Int32) (v8 : Int32) (s0 : Int32) (s1 : Int32) : Option (nk_H × Int32) := (nk_do (f_L_low h s1 s0) fun h27 x28 => (f_L_act_c557   h27 v0 v4 v7 v8 x28))
def f_L_act_c497   (h : nk_H) (v0 : Option Nat) (v1 : Int32) (v2 : Int32) (v4 : Int32) (v6 : Int32) (v7 : Int32) (s0 : Int32) : Option (nk_H × Int32) := (if v7 = 6 then (f_L_act_c557   h v0 v4 v7 s0 v6) else (if v7 = 7 then (if v2 = 0 then (f_L_act_c533   h v0 v4 v7 s0 8 (v1 >>> (12 &&& 31))) else (f_L_act_c533   h v0 v4 v7 s0 110 (v1 >>> (12 &&& 31)))) else (if v2 = 0 then (f_L_act_c554   h v0 v4 v7 s0 6 (v1 >>> (12 &&& 31))) else (f_L_act_c554   h v0 v4 v7 s0 12 (v1 >>> (12 &&& 31))))))
def f_L_act_c489   (h : nk_H) (v0 : Option Nat) (v1 : Int32) (v2 : Int32) (v4 : Int32) (v6 : Int32) (v7 : Int32) (s0 : Int32) (s1 : Int32) : Option (nk_H × Int32) := (nk_do (f_L_low h s1 s0) fun h29 x30 => (f_L_act_c497   h29 v0 v1 v2 v4 v6 v7 x30))
def f_L_act_c454   (h : nk_H) (v0 : Option Nat) (v1 : Int32) (v2 : Int32) (v4 : Int32) (v5 : Int32) (v6 : Int32) (s0 : Int32) : Option (nk_H × Int32) := (if s0 = 5 then (f_L_act_c497   h v0 v1 v2 v4 v6 s0 v6) else (if s0 = 7 then (if v2 = 0 then (f_L_act_c489   h v0 v1 v2 v4 v6 s0 6 (v1 >>> (9 &&& 31))) else (f_L_act_c489   h v0 v1 v2 v4 v6 s0 110 (v1 >>> (9 &&& 31)))) else (f_L_act_c497   h v0 v1 v2 v4 v6 s0 v5)))
def f_L_act_c652   (h : nk_H)  (s0 : Int32) (s1 : Int32) (s2 : Int32) (s3 : Int32) (s4 : Int32) (s5 : Option Nat) : Option (nk_H × Int32) := (nk_do (f_L_does h s5 s4 s3 s2 s1 s0) fun h31 x32 => some (h31, x32))
def f_L_act_c612   (h : nk_H) (v0 : Option Nat) (v1 : Int32) (v2 : Int32) (v4 : Int32) (v6 : Int32) (s0 : Int32) : Option (nk_H × Int32) := (if v2 = 0 then (nk_do (f_L_low h (v1 >>> (11 &&& 31)) 3000) fun h33 x34 => (f_L_act_c652   h33 (1 + x34) v6 s0 v4 8 v0)) else (nk_do (f_L_low h (v1 >>> (11 &&& 31)) 11000) fun h35 x36 => (f_L_act_c652   h35 x36 v6 s0 v4 8 v0)))
def f_L_act_c610   (h : nk_H) (v0 : Option Nat) (v1 : Int32) (v2 : Int32) (v4 : Int32) (v5 : Int32) (v6 : Int32)  : Option (nk_H × Int32) := (f_L_act_c612   h v0 v1 v2 v4 v6 v5)
def f_L_act_c848   (h : nk_H)  (s0 : Int32) : Option (nk_H × Int32) := some (h, s0)
def f_L_act_c704   (h : nk_H)  (s0 : Int32) (s1 : Int32) (s2 : Int32) (s3 : Int32) (s4 : Option Nat) : Option (nk_H × Int32) := (nk_do (f_L_does h s4 s3 s2 s1 s0 0) fun h37 x38 => (f_L_act_c848   h37 x38))
def f_L_act_c766   (h : nk_H)  (s0 : Int32) (s1 : Int32) (s2 : Int32) (s3 : Int32) (s4 : Int32) (s5 : Option Nat) : Option (nk_H × Int32) := (nk_do (f_L_does h s5 s4 s3 s2 s1 s0) fun h39 x40 => (f_L_act_c848   h39 x40))
def f_L_act_c845   (h : nk_H)  (s0 : Int32) (s1 : Int32) (s2 : Int32) (s3 : Int32) (s4 : Int32) (s5 : Option Nat) : Option (nk_H × Int32) := (nk_do (f_L_does h s5 s4 s3 s2 s1 s0) fun h41 x42 => (f_L_act_c848   h41 x42))
def f_L_act_c815   (h : nk_H) (v1 : Int32) (v2 : Int32) (s0 : Int32) (s1 : Int32) (s2 : Int32) (s3 : Int32) (s4 : Int32) (s5 : Option Nat) : Option (nk_H × Int32) := (nk_do (f_L_low h s1 s0) fun h43 x44 => (if v2 = 0 then (nk_do (f_L_low h43 (v1 >>> (13 &&& 31)) 10001) fun h45 x46 => (f_L_act_c845   h45 x46 x44 s2 s3 s4 s5)) else (nk_do (f_L_low h43 (v1 >>> (13 &&& 31)) 11000) fun h47 x48 => (f_L_act_c845   h47 x48 x44 s2 s3 s4 s5))))
def f_L_act_c789   (h : nk_H) (v1 : Int32) (v2 : Int32) (s0 : Int32) (s1 : Int32) (s2 : Int32) (s3 : Option Nat) : Option (nk_H × Int32) := (nk_do (f_L_low h s1 s0) fun h49 x50 => (nk_do (f_L_low h49 (v1 >>> (9 &&& 31)) 3) fun h51 x52 => (if v2 = 0 then (f_L_act_c815   h51 v1 v2 6 (v1 >>> (11 &&& 31)) x52 x50 s2 s3) else (f_L_act_c815   h51 v1 v2 8 (v1 >>> (11 &&& 31)) x52 x50 s2 s3))))
def f_L_act_c112   (h : nk_H) (v0 : Option Nat) (v1 : Int32) (v2 : Int32) (v3 : Int32) (v4 : Int32) (v5 : Int32) (s0 : Int32) : Option (nk_H × Int32) := (if 8 ≤ v3 then (if 16 ≤ v3 then (if 19 ≤ v3 then (if 29 ≤ v3 then (if 39 ≤ v3 then (if v3 = 39 then (nk_do (f_L_low h (v1 >>> (9 &&& 31)) 4) fun h53 x54 => (if v2 = 0 then (nk_do (f_L_low h53 (v1 >>> (11 &&& 31)) 10000) fun h55 x56 => (f_L_act_c704   h55 (1 + x56) x54 v4 9 v0)) else (nk_do (f_L_low h53 (v1 >>> (11 &&& 31)) 11000) fun h57 x58 => (f_L_act_c704   h57 x58 x54 v4 9 v0)))) else (if 43 ≤ v3 then (if v2 = 0 then (f_L_act_c789   h v1 v2 4 (v1 >>> (6 &&& 31)) 11 v0) else (f_L_act_c789   h v1 v2 14 (v1 >>> (6 &&& 31)) 11 v0)) else (nk_do (f_L_low h (v1 >>> (9 &&& 31)) 4) fun h59 x60 => (nk_do (f_L_low h59 (v1 >>> (11 &&& 31)) 5) fun h61 x62 => (if v2 = 0 then (nk_do (f_L_low h61 (v1 >>> (13 &&& 31)) 64) fun h63 x64 => (f_L_act_c766   h63 x64 x62 x60 v4 10 v0)) else (nk_do (f_L_low h61 (v1 >>> (13 &&& 31)) 80) fun h65 x66 => (f_L_act_c766   h65 (x66 - 8) x62 x60 v4 10 v0))))))) else (if v2 = 0 then ((nk_rcv [18] h v0).bind fun a67 => nk_do (f_X11_powers h a67) fun h68 x69 => (if x69 ≤ s0 then (f_L_act_c610   h68 v0 v1 v2 v4 v5 s0) else (if ((v1 >>> (15 &&& 31)) &&& 3) ≤ 0 then (f_L_act_c610   h68 v0 v1 v2 v4 v5 s0) else ((nk_rcv [18] h68 v0).bind fun a70 => nk_do (nk_st (f_X11_holder h68 a70 s0)) fun h71 x72 => (f_L_act_c612   h71 v0 v1 v2 v4 s0 x72))))) else (f_L_act_c610   h v0 v1 v2 v4 v5 s0))) else (if 22 ≤ v3 then (if 26 ≤ v3 then (if 28 ≤ v3 then (f_L_act_c454   h v0 v1 v2 v4 v5 s0 7) else (f_L_act_c454   h v0 v1 v2 v4 v5 s0 6)) else (f_L_act_c454   h v0 v1 v2 v4 v5 s0 5)) else (f_L_act_c454   h v0 v1 v2 v4 v5 s0 4))) else (if v3 = 16 then (if v2 = 0 then (if ((v1 >>> (6 &&& 31)) &&& 3) = 0 then (f_L_act_c262   h v1 v2 1 0 v0) else (f_L_act_c262   h v1 v2 0 0 v0)) else (nk_do (f_L_low h (v1 >>> (6 &&& 31)) 4) fun h73 x74 => (f_L_act_c262   h73 v1 v2 (x74 - 1) 0 v0))) else (if v2 = 0 then (nk_do (f_L_low h (v1 >>> (5 &&& 31)) 32) fun h75 x76 => (f_L_act_c325   h75 v1 v2 (63 - x76) 1 v0)) else (nk_do (f_L_low h (v1 >>> (5 &&& 31)) 70) fun h77 x78 => (f_L_act_c325   h77 v1 v2 x78 1 v0))))) else (if 12 ≤ v3 then (nk_do (f_L_does h v0 3 v4 0 0 0) fun h79 x80 => (f_L_act_c216   h79 x80)) else (if v2 = 0 then (nk_do (f_L_low h (v1 >>> (6 &&& 31)) 3) fun h81 x82 => (f_L_act_c197   h81 (1 + x82) 2 v0)) else (nk_do (f_L_low h (v1 >>> (6 &&& 31)) 55) fun h83 x84 => (f_L_act_c197   h83 x84 2 v0))))) else (if 6 ≤ v3 then (f_L_act_c132   h v1 v2 v4 1 v0) else (f_L_act_c132   h v1 v2 v4 0 v0)))
def f_L_act_c79   (h : nk_H) (v0 : Option Nat) (v1 : Int32) (v2 : Int32) (v3 : Int32) (v4 : Int32) (s0 : Int32) : Option (nk_H × Int32) := (if v2 = 0 then ((nk_rcv [18] h v0).bind fun a85 => nk_do (f_X11_powers h a85) fun h86 x87 => (nk_do (f_L_low h86 (v1 >>> (10 &&& 31)) (x87 + 1)) fun h88 x89 => (f_L_act_c112   h88 v0 v1 v2 v3 v4 s0 x89))) else (nk_do (f_L_low h (v1 >>> (10 &&& 31)) 44) fun h90 x91 => (f_L_act_c112   h90 v0 v1 v2 v3 v4 s0 (x91 - 1))))
def f_L_act_c51   (h : nk_H) (v0 : Option Nat) (v1 : Int32) (v2 : Int32) (v3 : Int32) (s0 : Int32) : Option (nk_H × Int32) := (if v2 = 0 then (nk_do (f_L_low h (v1 >>> (8 &&& 31)) 4) fun h92 x93 => (f_L_act_c79   h92 v0 v1 v2 v3 s0 x93)) else (nk_do (f_L_low h (v1 >>> (8 &&& 31)) 13) fun h94 x95 => (f_L_act_c79   h94 v0 v1 v2 v3 s0 (x95 - 1))))
def f_L_act_c17   (h : nk_H) (v0 : Option Nat) (v1 : Int32) (s0 : Int32) : Option (nk_H × Int32) := (nk_do (f_L_low h v1 44) fun h96 x97 => (if s0 = 0 then (nk_do (f_L_low h96 (v1 >>> (6 &&& 31)) 4) fun h98 x99 => (f_L_act_c51   h98 v0 v1 s0 x97 x99)) else (nk_do (f_L_low h96 (v1 >>> (6 &&& 31)) 9) fun h100 x101 => (f_L_act_c51   h100 v0 v1 s0 x97 (x101 - 1)))))
def f_L_act  (h : nk_H) (v0 : Option Nat) (v1 : Int32) : Option (nk_H × Int32) := (if ((v1 >>> (18 &&& 31)) &&& 7) = 7 then (f_L_act_c17   h v0 v1 1) else (f_L_act_c17   h v0 v1 0))
def f_L_areAlike_c172  (r52 : nk_H → Option Nat → Option Nat → Int32 → Int32 → Option (nk_H × Int32)) (h : nk_H) (v0 : Option Nat) (v1 : Option Nat) (v3 : Int32) (s0 : Int32) : Option (nk_H × Int32) := (r52 h v0 v1 s0 (v3 + 1))
def f_L_areAlike_c171  (r52 : nk_H → Option Nat → Option Nat → Int32 → Int32 → Option (nk_H × Int32)) (h : nk_H) (v0 : Option Nat) (v1 : Option Nat) (v3 : Int32)  : Option (nk_H × Int32) := (f_L_areAlike_c172  r52 h v0 v1 v3 0)
def f_L_areAlike_c179   (h : nk_H) (v2 : Int32)  : Option (nk_H × Int32) := (nk_zr v2 (h, v2))
def f_L_areAlike_c52  (r52 : nk_H → Option Nat → Option Nat → Int32 → Int32 → Option (nk_H × Int32)) (h : nk_H) (v0 : Option Nat) (v1 : Option Nat) (v2 : Int32) (v3 : Int32)  : Option (nk_H × Int32) := (if 6 ≤ v3 then (f_L_areAlike_c179   h v2) else (if v2 = 0 then (f_L_areAlike_c179   h v2) else ((nk_rcv [18] h v0).bind fun a1 => nk_do (nk_st (f_X11_records h a1 v3)) fun h2 x3 => ((nk_rcv [18] h2 v1).bind fun a4 => nk_do (nk_st (f_X11_records h2 a4 v3)) fun h5 x6 => (if x3 = x6 then ((nk_rcv [18] h5 v0).bind fun a7 => nk_do (nk_st (f_X11_mail h5 a7 v3)) fun h8 x9 => ((nk_rcv [18] h8 v1).bind fun a10 => nk_do (nk_st (f_X11_mail h8 a10 v3)) fun h11 x12 => (if x9 = x12 then ((nk_rcv [18] h11 v0).bind fun a13 => nk_do (nk_st (f_X11_broken h11 a13 v3)) fun h14 x15 => ((nk_rcv [18] h14 v1).bind fun a16 => nk_do (nk_st (f_X11_broken h14 a16 v3)) fun h17 x18 => (if x15 = x18 then (nk_do (f_L_looks h17 v0 1 v3 0) fun h19 x20 => (nk_do (f_L_looks h19 v1 1 v3 0) fun h21 x22 => (if x20 = x22 then (nk_do (f_L_looks h21 v0 3 v3 0) fun h23 x24 => (nk_do (f_L_looks h23 v1 3 v3 0) fun h25 x26 => (if x24 = x26 then (nk_do (f_L_looks h25 v0 4 v3 0) fun h27 x28 => (nk_do (f_L_looks h27 v1 4 v3 0) fun h29 x30 => (if x28 = x30 then ((nk_rcv [18] h29 v0).bind fun a31 => nk_do (nk_st (f_X11_areJoined h29 a31 v3 0)) fun h32 x33 => ((nk_rcv [18] h32 v1).bind fun a34 => nk_do (nk_st (f_X11_areJoined h32 a34 v3 0)) fun h35 x36 => (if x33 = x36 then (f_L_areAlike_c172  r52 h35 v0 v1 v3 1) else (f_L_areAlike_c171  r52 h35 v0 v1 v3)))) else (f_L_areAlike_c171  r52 h29 v0 v1 v3)))) else (f_L_areAlike_c171  r52 h25 v0 v1 v3)))) else (f_L_areAlike_c171  r52 h21 v0 v1 v3)))) else (f_L_areAlike_c171  r52 h17 v0 v1 v3)))) else (f_L_areAlike_c171  r52 h11 v0 v1 v3)))) else (f_L_areAlike_c171  r52 h5 v0 v1 v3))))))
def f_L_areAlike_b52   : Nat → nk_H → Option Nat → Option Nat → Int32 → Int32 → Option (nk_H × Int32)
  | 0 => fun _ _ _ _ _ => none
  | n + 1 => f_L_areAlike_c52  (f_L_areAlike_b52   n)
def f_L_areAlike_c49   (h : nk_H) (v0 : Option Nat) (v1 : Option Nat) (s0 : Int32) : Option (nk_H × Int32) := (f_L_areAlike_b52   4096 h v0 v1 s0 0)
def f_L_areAlike_c48   (h : nk_H) (v0 : Option Nat) (v1 : Option Nat)  : Option (nk_H × Int32) := (f_L_areAlike_c49   h v0 v1 0)
def f_L_areAlike  (h : nk_H) (v0 : Option Nat) (v1 : Option Nat) : Option (nk_H × Int32) := ((nk_rcv [18] h v0).bind fun a37 => nk_do (f_X11_hour h a37) fun h38 x39 => ((nk_rcv [18] h38 v1).bind fun a40 => nk_do (f_X11_hour h38 a40) fun h41 x42 => (if x39 = x42 then ((nk_rcv [18] h41 v0).bind fun a43 => nk_do (f_X11_news h41 a43) fun h44 x45 => ((nk_rcv [18] h44 v1).bind fun a46 => nk_do (f_X11_news h44 a46) fun h47 x48 => (if x45 = x48 then ((nk_rcv [18] h47 v0).bind fun a49 => nk_do (f_X11_powers h47 a49) fun h50 x51 => ((nk_rcv [18] h50 v1).bind fun a52 => nk_do (f_X11_powers h50 a52) fun h53 x54 => (if x51 = x54 then ((nk_rcv [18] h53 v0).bind fun a55 => nk_do (f_X11_standing h53 a55) fun h56 x57 => ((nk_rcv [18] h56 v1).bind fun a58 => nk_do (f_X11_standing h56 a58) fun h59 x60 => (if x57 = x60 then (f_L_areAlike_c49   h59 v0 v1 1) else (f_L_areAlike_c48   h59 v0 v1)))) else (f_L_areAlike_c48   h53 v0 v1)))) else (f_L_areAlike_c48   h47 v0 v1)))) else (f_L_areAlike_c48   h41 v0 v1))))
def f_L_isNewsSo_c134  (r53 : nk_H → Option Nat → Int32 → Int32 → Int32 → Int32 → Int32 → Int32 → Option (nk_H × Int32)) (h : nk_H) (v0 : Option Nat) (v1 : Int32) (v2 : Int32) (v4 : Int32) (v5 : Int32) (v6 : Int32) (s0 : Int32) (s1 : Int32) : Option (nk_H × Int32) := (r53 h v0 v1 v2 (s1 + s0) v4 v5 (v6 + 1))
def f_L_isNewsSo_c133  (r53 : nk_H → Option Nat → Int32 → Int32 → Int32 → Int32 → Int32 → Int32 → Option (nk_H × Int32)) (h : nk_H) (v0 : Option Nat) (v1 : Int32) (v2 : Int32) (v4 : Int32) (v5 : Int32) (v6 : Int32) (s0 : Int32) : Option (nk_H × Int32) := (f_L_isNewsSo_c134  r53 h v0 v1 v2 v4 v5 v6 0 s0)
def f_L_isNewsSo_c110  (r53 : nk_H → Option Nat → Int32 → Int32 → Int32 → Int32 → Int32 → Int32 → Option (nk_H × Int32)) (h : nk_H) (v0 : Option Nat) (v1 : Int32) (v2 : Int32) (v3 : Int32) (v4 : Int32) (v6 : Int32) (v7 : Int32) (s0 : Int32) : Option (nk_H × Int32) := (if v7 < 0 then (f_L_isNewsSo_c133  r53 h v0 v1 v2 v4 s0 v6 v3) else ((nk_rcv [18] h v0).bind fun a1 => nk_do (nk_st (f_X11_isRead h a1 v4 v6)) fun h2 x3 => (if x3 = 0 then (f_L_isNewsSo_c134  r53 h2 v0 v1 v2 v4 s0 v6 1 v3) else (f_L_isNewsSo_c133  r53 h2 v0 v1 v2 v4 s0 v6 v3))))
def f_L_isNewsSo_c105  (r53 : nk_H → Option Nat → Int32 → Int32 → Int32 → Int32 → Int32 → Int32 → Option (nk_H × Int32)) (h : nk_H) (v0 : Option Nat) (v1 : Int32) (v2 : Int32) (v3 : Int32) (v4 : Int32) (v6 : Int32) (v7 : Int32)  : Option (nk_H × Int32) := (f_L_isNewsSo_c110  r53 h v0 v1 v2 v3 v4 v6 v7 1)
def f_L_isNewsSo_c109  (r53 : nk_H → Option Nat → Int32 → Int32 → Int32 → Int32 → Int32 → Int32 → Option (nk_H × Int32)) (h : nk_H) (v0 : Option Nat) (v1 : Int32) (v2 : Int32) (v3 : Int32) (v4 : Int32) (v6 : Int32) (v7 : Int32)  : Option (nk_H × Int32) := (f_L_isNewsSo_c110  r53 h v0 v1 v2 v3 v4 v6 v7 0)
def f_L_isNewsSo_c206   (h : nk_H)  (s0 : Int32) : Option (nk_H × Int32) := (nk_zr s0 (h, s0))
def f_L_isNewsSo_c201   (h : nk_H)   : Option (nk_H × Int32) := (f_L_isNewsSo_c206   h 1)
def f_L_isNewsSo_c205   (h : nk_H)   : Option (nk_H × Int32) := (f_L_isNewsSo_c206   h 0)
def f_L_isNewsSo_c142   (h : nk_H) (v0 : Option Nat) (v1 : Int32) (v2 : Int32) (v3 : Int32) (v4 : Int32) (v5 : Int32)  : Option (nk_H × Int32) := (if v5 = 0 then (f_L_isNewsSo_c205   h) else ((nk_rcv [18] h v0).bind fun a4 => nk_do (nk_st (f_X11_mail h a4 v4)) fun h5 x6 => (if x6 = v3 then ((nk_rcv [18] h5 v0).bind fun a7 => nk_do (nk_st (f_X11_areJoined h5 a7 v4 v4)) fun h8 x9 => (if x9 = 0 then (if v2 = 0 then (f_L_isNewsSo_c201   h8) else (nk_do (f_L_low h8 (v1 >>> (4 &&& 31)) v2) fun h10 x11 => ((nk_rcv [18] h10 v0).bind fun a12 => nk_do (nk_st (f_X11_cameByLinks h10 a12 v4 x11)) fun h13 x14 => (nk_do (f_L_low h13 (v1 >>> (4 &&& 31)) v2) fun h15 x16 => ((nk_rcv [18] h15 v0).bind fun a17 => nk_do (nk_st (f_X11_came h15 a17 v4 x16)) fun h18 x19 => (if x14 = x19 then (f_L_isNewsSo_c201   h18) else (f_L_isNewsSo_c205   h18))))))) else (f_L_isNewsSo_c205   h8))) else (f_L_isNewsSo_c205   h5))))
def f_L_isNewsSo_c53  (r53 : nk_H → Option Nat → Int32 → Int32 → Int32 → Int32 → Int32 → Int32 → Option (nk_H × Int32)) (h : nk_H) (v0 : Option Nat) (v1 : Int32) (v2 : Int32) (v3 : Int32) (v4 : Int32) (v5 : Int32) (v6 : Int32)  : Option (nk_H × Int32) := (if v2 ≤ v6 then (f_L_isNewsSo_c142   h v0 v1 v2 v3 v4 v5) else (if v5 = 0 then (f_L_isNewsSo_c142   h v0 v1 v2 v3 v4 v5) else ((nk_rcv [18] h v0).bind fun a20 => nk_do (nk_st (f_X11_came h a20 v4 v6)) fun h21 x22 => (if x22 < (-1) then (f_L_isNewsSo_c109  r53 h21 v0 v1 v2 v3 v4 v6 x22) else ((nk_rcv [18] h21 v0).bind fun a23 => nk_do (f_X11_hour h21 a23) fun h24 x25 => (if x25 < x22 then (f_L_isNewsSo_c109  r53 h24 v0 v1 v2 v3 v4 v6 x22) else (if 0 ≤ x22 then (f_L_isNewsSo_c105  r53 h24 v0 v1 v2 v3 v4 v6 x22) else ((nk_rcv [18] h24 v0).bind fun a26 => nk_do (nk_st (f_X11_isRead h24 a26 v4 v6)) fun h27 x28 => (if x28 = 0 then (f_L_isNewsSo_c105  r53 h27 v0 v1 v2 v3 v4 v6 x22) else (f_L_isNewsSo_c109  r53 h27 v0 v1 v2 v3 v4 v6 x22))))))))))
def f_L_isNewsSo_b53   : Nat → nk_H → Option Nat → Int32 → Int32 → Int32 → Int32 → Int32 → Int32 → Option (nk_H × Int32)
  | 0 => fun _ _ _ _ _ _ _ _ => none
  | n + 1 => f_L_isNewsSo_c53  (f_L_isNewsSo_b53   n)
def f_L_isNewsSo_c48   (h : nk_H) (v0 : Option Nat) (v1 : Int32) (v2 : Int32) (v3 : Int32) (v4 : Int32) (s0 : Int32) : Option (nk_H × Int32) := (f_L_isNewsSo_b53   4096 h v0 v1 v2 v3 v4 s0 0)
def f_L_isNewsSo_c47   (h : nk_H) (v0 : Option Nat) (v1 : Int32) (v2 : Int32) (v3 : Int32) (v4 : Int32)  : Option (nk_H × Int32) := (f_L_isNewsSo_c48   h v0 v1 v2 v3 v4 0)
def f_L_isNewsSo  (h : nk_H) (v0 : Option Nat) (v1 : Int32) : Option (nk_H × Int32) := ((nk_rcv [18] h v0).bind fun a29 => nk_do (f_X11_news h a29) fun h30 x31 => (nk_do (f_L_low h30 v1 6) fun h32 x33 => (if x31 < 0 then (f_L_isNewsSo_c47   h32 v0 v1 x31 0 x33) else (if 160 < x31 then (f_L_isNewsSo_c47   h32 v0 v1 x31 0 x33) else ((nk_rcv [18] h32 v0).bind fun a34 => nk_do (f_X11_hour h32 a34) fun h35 x36 => (if x36 < 0 then (f_L_isNewsSo_c47   h35 v0 v1 x31 0 x33) else ((nk_rcv [18] h35 v0).bind fun a37 => nk_do (f_X11_hour h35 a37) fun h38 x39 => (if 400 < x39 then (f_L_isNewsSo_c47   h38 v0 v1 x31 0 x33) else (f_L_isNewsSo_c48   h38 v0 v1 x31 0 x33 1)))))))))
def f_L_isActSo_c28   (h : nk_H)  (s0 : Int32) : Option (nk_H × Int32) := (nk_zr s0 (h, s0))
def f_L_isActSo_c260   (h : nk_H)  (s0 : Int32) : Option (nk_H × Int32) := (nk_zr s0 (h, s0))
def f_L_isActSo_c259   (h : nk_H)   : Option (nk_H × Int32) := (f_L_isActSo_c260   h 0)
def f_L_isActSo_c483   (h : nk_H)  (s0 : Int32) : Option (nk_H × Int32) := (nk_zr s0 (h, s0))
def f_L_isActSo_c482   (h : nk_H)   : Option (nk_H × Int32) := (f_L_isActSo_c483   h 0)
def f_L_isActSo_c474   (h : nk_H)  (s0 : Int32) (s1 : Int32) (s2 : Int32) : Option (nk_H × Int32) := (if s2 = (s1 + s0) then (f_L_isActSo_c483   h 1) else (f_L_isActSo_c482   h))
def f_L_isActSo_c450   (h : nk_H) (v0 : Option Nat) (v2 : Int32) (v13 : Int32) (v14 : Int32) (s0 : Int32) (s1 : Int32) : Option (nk_H × Int32) := (if s1 = s0 then ((nk_rcv [18] h v0).bind fun a1 => nk_do (f_X11_standing h a1) fun h2 x3 => ((nk_rcv [18] h2 v0).bind fun a4 => nk_do (nk_st (f_X11_stands h2 a4 v2 v14)) fun h5 x6 => (if x6 = 0 then (f_L_isActSo_c474   h5 0 v13 x3) else (f_L_isActSo_c474   h5 1 v13 x3)))) else (f_L_isActSo_c482   h))
def f_L_isActSo_c367   (h : nk_H) (v0 : Option Nat) (v2 : Int32) (v4 : Int32) (v5 : Int32) (v6 : Int32) (v13 : Int32) (v14 : Int32) (s0 : Int32) : Option (nk_H × Int32) := (if s0 = 0 then (f_L_isActSo_c482   h) else ((nk_rcv [18] h v0).bind fun a7 => nk_do (nk_st (f_X11_part h a7 v2 v14 0)) fun h8 x9 => (if x9 = v6 then ((nk_rcv [18] h8 v0).bind fun a10 => nk_do (nk_st (f_X11_part h8 a10 v2 v14 1)) fun h11 x12 => (if x12 = v5 then ((nk_rcv [18] h11 v0).bind fun a13 => nk_do (nk_st (f_X11_part h11 a13 v2 v14 3)) fun h14 x15 => (if x15 = v4 then ((nk_rcv [18] h14 v0).bind fun a16 => nk_do (nk_st (f_X11_part h14 a16 v2 v14 5)) fun h17 x18 => ((nk_rcv [18] h17 v0).bind fun a19 => nk_do (f_X11_hour h17 a19) fun h20 x21 => (if x18 = x21 then ((nk_rcv [18] h20 v0).bind fun a22 => nk_do (nk_st (f_X11_stands h20 a22 v2 v14)) fun h23 x24 => ((nk_rcv [18] h23 v0).bind fun a25 => nk_do (nk_st (f_X11_fault h23 a25 v2 v14)) fun h26 x27 => (if x27 = 0 then (f_L_isActSo_c450   h26 v0 v2 v13 v14 1 x24) else (f_L_isActSo_c450   h26 v0 v2 v13 v14 0 x24)))) else (f_L_isActSo_c482   h20)))) else (f_L_isActSo_c482   h14))) else (f_L_isActSo_c482   h11))) else (f_L_isActSo_c482   h8))))
def f_L_isActSo_c366   (h : nk_H) (v0 : Option Nat) (v2 : Int32) (v4 : Int32) (v5 : Int32) (v6 : Int32) (v13 : Int32) (v14 : Int32)  : Option (nk_H × Int32) := (f_L_isActSo_c367   h v0 v2 v4 v5 v6 v13 v14 0)
def f_L_isActSo_c328   (h : nk_H) (v0 : Option Nat) (v2 : Int32) (v4 : Int32) (v5 : Int32) (v6 : Int32) (v13 : Int32) (v14 : Int32) (v16 : Int32)  : Option (nk_H × Int32) := ((nk_rcv [18] h v0).bind fun a28 => nk_do (nk_st (f_X11_isGood h a28 v2 v5)) fun h29 x30 => (if x30 = 0 then (f_L_isActSo_c366   h29 v0 v2 v4 v5 v6 v13 v14) else ((nk_rcv [18] h29 v0).bind fun a31 => nk_do (nk_st (f_X11_came h29 a31 v2 v16)) fun h32 x33 => ((nk_rcv [18] h32 v0).bind fun a34 => nk_do (f_X11_hour h32 a34) fun h35 x36 => (if x33 = x36 then ((nk_rcv [18] h35 v0).bind fun a37 => nk_do (nk_st (f_X11_isRead h35 a37 v2 v16)) fun h38 x39 => (if x39 = 0 then (f_L_isActSo_c366   h38 v0 v2 v4 v5 v6 v13 v14) else (f_L_isActSo_c367   h38 v0 v2 v4 v5 v6 v13 v14 1))) else (f_L_isActSo_c366   h35 v0 v2 v4 v5 v6 v13 v14))))))
def f_L_isActSo_c219   (h : nk_H) (v0 : Option Nat) (v2 : Int32) (v4 : Int32) (v5 : Int32) (v6 : Int32) (v7 : Int32) (v9 : Int32) (v10 : Int32) (v12 : Int32) (v13 : Int32) (v14 : Int32) (s0 : Int32) : Option (nk_H × Int32) := (if v14 = (-9999999) then (if s0 = 0 then (f_L_isActSo_c259   h) else ((nk_rcv [18] h v0).bind fun a40 => nk_do (nk_st (f_X11_records h a40 v2)) fun h41 x42 => (if x42 = v12 then ((nk_rcv [18] h41 v0).bind fun a43 => nk_do (nk_st (f_X11_done h41 a43 v2 v5)) fun h44 x45 => (if x45 = v9 then (f_L_isActSo_c260   h44 1) else (f_L_isActSo_c259   h44))) else (f_L_isActSo_c259   h41)))) else ((nk_rcv [18] h v0).bind fun a46 => nk_do (nk_st (f_X11_pieceOf h a46 v2 v14)) fun h47 x48 => (if s0 = 0 then (f_L_isActSo_c366   h47 v0 v2 v4 v5 v6 v13 v14) else (if v14 = v12 then ((nk_rcv [18] h47 v0).bind fun a49 => nk_do (f_X11_news h47 a49) fun h50 x51 => (if x48 = (x51 - 1) then ((nk_rcv [18] h50 v0).bind fun a52 => nk_do (nk_st (f_X11_done h50 a52 v2 v5)) fun h53 x54 => (if x54 = (v9 + v4) then (if v7 < 0 then (f_L_isActSo_c328   h53 v0 v2 v4 v5 v6 v13 v14 x48) else ((nk_rcv [18] h53 v0).bind fun a55 => nk_do (nk_st (f_X11_done h53 a55 v2 v7)) fun h56 x57 => (if x57 = (v10 + v4) then (f_L_isActSo_c328   h56 v0 v2 v4 v5 v6 v13 v14 x48) else (f_L_isActSo_c366   h56 v0 v2 v4 v5 v6 v13 v14)))) else (f_L_isActSo_c366   h53 v0 v2 v4 v5 v6 v13 v14))) else (f_L_isActSo_c366   h50 v0 v2 v4 v5 v6 v13 v14))) else (f_L_isActSo_c366   h47 v0 v2 v4 v5 v6 v13 v14)))))
def f_L_isActSo_c218   (h : nk_H) (v0 : Option Nat) (v2 : Int32) (v4 : Int32) (v5 : Int32) (v6 : Int32) (v7 : Int32) (v9 : Int32) (v10 : Int32) (v12 : Int32) (v13 : Int32) (v14 : Int32)  : Option (nk_H × Int32) := (f_L_isActSo_c219   h v0 v2 v4 v5 v6 v7 v9 v10 v12 v13 v14 0)
def f_L_isActSo_c205   (h : nk_H) (v0 : Option Nat) (v2 : Int32) (v4 : Int32) (v5 : Int32) (v6 : Int32) (v7 : Int32) (v9 : Int32) (v10 : Int32) (v11 : Int32) (v12 : Int32) (v13 : Int32) (v14 : Int32)  : Option (nk_H × Int32) := ((nk_rcv [18] h v0).bind fun a58 => nk_do (f_X11_powers h a58) fun h59 x60 => (if x60 < v11 then (f_L_isActSo_c218   h59 v0 v2 v4 v5 v6 v7 v9 v10 v12 v13 v14) else (f_L_isActSo_c219   h59 v0 v2 v4 v5 v6 v7 v9 v10 v12 v13 v14 1)))
def f_L_isActSo_c192   (h : nk_H) (v0 : Option Nat) (v2 : Int32) (v4 : Int32) (v5 : Int32) (v6 : Int32) (v7 : Int32) (v8 : Int32) (v9 : Int32) (v10 : Int32) (v11 : Int32) (v12 : Int32) (v13 : Int32) (v14 : Int32) (s0 : Int32) (s1 : Int32) : Option (nk_H × Int32) := (if s1 = s0 then (if 0 < v8 then (f_L_isActSo_c205   h v0 v2 v4 v5 v6 v7 v9 v10 v11 v12 v13 v14) else (if v11 ≤ 0 then (f_L_isActSo_c218   h v0 v2 v4 v5 v6 v7 v9 v10 v12 v13 v14) else (f_L_isActSo_c205   h v0 v2 v4 v5 v6 v7 v9 v10 v11 v12 v13 v14))) else (f_L_isActSo_c218   h v0 v2 v4 v5 v6 v7 v9 v10 v12 v13 v14))
def f_L_isActSo_c187   (h : nk_H) (v0 : Option Nat) (v2 : Int32) (v4 : Int32) (v5 : Int32) (v6 : Int32) (v7 : Int32) (v8 : Int32) (v9 : Int32) (v10 : Int32) (v11 : Int32) (v12 : Int32) (v13 : Int32) (v14 : Int32) (s0 : Int32) : Option (nk_H × Int32) := (f_L_isActSo_c192   h v0 v2 v4 v5 v6 v7 v8 v9 v10 v11 v12 v13 v14 1 s0)
def f_L_isActSo_c191   (h : nk_H) (v0 : Option Nat) (v2 : Int32) (v4 : Int32) (v5 : Int32) (v6 : Int32) (v7 : Int32) (v8 : Int32) (v9 : Int32) (v10 : Int32) (v11 : Int32) (v12 : Int32) (v13 : Int32) (v14 : Int32) (s0 : Int32) : Option (nk_H × Int32) := (f_L_isActSo_c192   h v0 v2 v4 v5 v6 v7 v8 v9 v10 v11 v12 v13 v14 0 s0)
def f_L_isActSo_c162   (h : nk_H) (v0 : Option Nat) (v2 : Int32) (v4 : Int32) (v5 : Int32) (v6 : Int32) (v7 : Int32) (v8 : Int32) (v9 : Int32) (v10 : Int32) (v11 : Int32) (v12 : Int32) (v13 : Int32) (v14 : Int32) (s0 : Int32) : Option (nk_H × Int32) := (if 0 < v8 then (f_L_isActSo_c187   h v0 v2 v4 v5 v6 v7 v8 v9 v10 v11 v12 v13 v14 s0) else ((nk_rcv [18] h v0).bind fun a61 => nk_do (f_X11_news h a61) fun h62 x63 => (if x63 = 160 then ((nk_rcv [18] h62 v0).bind fun a64 => nk_do (nk_st (f_X11_records h62 a64 v2)) fun h65 x66 => (if x66 = v12 then (f_L_isActSo_c187   h65 v0 v2 v4 v5 v6 v7 v8 v9 v10 v11 v12 v13 v14 s0) else (f_L_isActSo_c191   h65 v0 v2 v4 v5 v6 v7 v8 v9 v10 v11 v12 v13 v14 s0))) else (f_L_isActSo_c191   h62 v0 v2 v4 v5 v6 v7 v8 v9 v10 v11 v12 v13 v14 s0))))
def f_L_isActSo_c91   (h : nk_H) (v0 : Option Nat) (v1 : Option Nat) (v2 : Int32) (v4 : Int32) (v5 : Int32) (v6 : Int32) (v7 : Int32) (v8 : Int32) (v9 : Int32) (s0 : Int32) : Option (nk_H × Int32) := ((nk_rcv [18] h v0).bind fun a67 => nk_do (nk_st (f_X11_choices h a67 v2 v6 v4)) fun h68 x69 => ((nk_rcv [18] h68 v0).bind fun a70 => nk_do (nk_st (f_X11_records h68 a70 v2)) fun h71 x72 => ((nk_rcv [18] h71 v0).bind fun a73 => nk_do (f_X11_standing h71 a73) fun h74 x75 => (nk_do (f_L_does h74 v0 8 v2 v6 v5 v4) fun h76 x77 => (nk_do (f_L_does h76 v1 8 v2 v6 v5 v4) fun h78 x79 => (if x79 = x77 then (if x77 = (-9999999) then (f_L_isActSo_c162   h78 v0 v2 v4 v5 v6 v7 v8 v9 s0 x69 x72 x75 x77 1) else (f_L_isActSo_c162   h78 v0 v2 v4 v5 v6 v7 v8 v9 s0 x69 x72 x75 x77 0)) else (f_L_isActSo_c218   h78 v0 v2 v4 v5 v6 v7 v9 s0 x72 x75 x77)))))))
def f_L_isActSo  (h : nk_H) (v0 : Option Nat) (v1 : Option Nat) (v2 : Int32) (v3 : Int32) (v4 : Int32) : Option (nk_H × Int32) := ((nk_rcv [18] h v0).bind fun a80 => nk_do (f_X11_powers h a80) fun h81 x82 => (if x82 = 0 then (nk_do (f_L_does h81 v0 8 v2 0 0 v4) fun h83 x84 => (if x84 = (-9999999) then (f_L_isActSo_c28   h83 1) else (f_L_isActSo_c28   h83 0))) else ((nk_rcv [18] h81 v0).bind fun a85 => nk_do (f_X11_powers h81 a85) fun h86 x87 => ((nk_nz x87).bind fun _ => ((nk_rcv [18] h86 v0).bind fun a88 => nk_do (nk_st (f_X11_holder h86 a88 (v3 - v3 / x87 * x87))) fun h89 x90 => ((nk_rcv [18] h89 v0).bind fun a91 => nk_do (nk_st (f_X11_source h89 a91 (v3 - v3 / x87 * x87))) fun h92 x93 => ((nk_rcv [18] h92 v0).bind fun a94 => nk_do (nk_st (f_X11_against h92 a94 v2 x90 (v3 - v3 / x87 * x87) v4)) fun h95 x96 => ((nk_rcv [18] h95 v0).bind fun a97 => nk_do (nk_st (f_X11_done h95 a97 v2 (v3 - v3 / x87 * x87))) fun h98 x99 => (if 0 ≤ x93 then ((nk_rcv [18] h98 v0).bind fun a100 => nk_do (nk_st (f_X11_done h98 a100 v2 x93)) fun h101 x102 => (f_L_isActSo_c91   h101 v0 v1 v2 v4 (v3 - v3 / x87 * x87) x90 x93 x96 x99 x102)) else (f_L_isActSo_c91   h98 v0 v1 v2 v4 (v3 - v3 / x87 * x87) x90 x93 x96 x99 0))))))))))
def f_L_isTamperedSo_c30   (h : nk_H)  (s0 : Int32) : Option (nk_H × Int32) := (nk_zr s0 (h, s0))
def f_L_isTamperedSo_c175   (h : nk_H)  (s0 : Int32) : Option (nk_H × Int32) := (nk_zr s0 (h, s0))
def f_L_isTamperedSo_c174   (h : nk_H)   : Option (nk_H × Int32) := (f_L_isTamperedSo_c175   h 0)
def f_L_isTamperedSo_c127   (h : nk_H) (v0 : Option Nat) (v1 : Option Nat) (v2 : Int32) (v3 : Int32) (v4 : Int32) (v5 : Int32) (v7 : Int32) (s0 : Int32) : Option (nk_H × Int32) := (if s0 = 0 then (f_L_isTamperedSo_c174   h) else ((nk_rcv [18] h v0).bind fun a1 => nk_do (nk_st (f_X11_tamper h a1 v2 v3 v7)) fun h2 x3 => (if x3 = v4 then ((nk_rcv [18] h2 v1).bind fun a4 => nk_do (nk_st (f_X11_tamper h2 a4 v2 v3 v7)) fun h5 x6 => (if x6 = v4 then ((nk_rcv [18] h5 v0).bind fun a7 => nk_do (nk_st (f_X11_broken h5 a7 v2)) fun h8 x9 => (if x9 = v5 then (f_L_isTamperedSo_c175   h8 1) else (f_L_isTamperedSo_c174   h8))) else (f_L_isTamperedSo_c174   h5))) else (f_L_isTamperedSo_c174   h2))))
def f_L_isTamperedSo_c122   (h : nk_H) (v0 : Option Nat) (v1 : Option Nat) (v2 : Int32) (v3 : Int32) (v4 : Int32) (v5 : Int32) (v7 : Int32)  : Option (nk_H × Int32) := (f_L_isTamperedSo_c127   h v0 v1 v2 v3 v4 v5 v7 1)
def f_L_isTamperedSo_c126   (h : nk_H) (v0 : Option Nat) (v1 : Option Nat) (v2 : Int32) (v3 : Int32) (v4 : Int32) (v5 : Int32) (v7 : Int32)  : Option (nk_H × Int32) := (f_L_isTamperedSo_c127   h v0 v1 v2 v3 v4 v5 v7 0)
def f_L_isTamperedSo  (h : nk_H) (v0 : Option Nat) (v1 : Option Nat) (v2 : Int32) (v3 : Int32) (v4 : Int32) : Option (nk_H × Int32) := ((nk_rcv [18] h v0).bind fun a10 => nk_do (nk_st (f_X11_records h a10 v2)) fun h11 x12 => (if v3 < x12 then ((nk_rcv [18] h11 v0).bind fun a13 => nk_do (nk_st (f_X11_broken h11 a13 v2)) fun h14 x15 => ((nk_rcv [18] h14 v0).bind fun a16 => nk_do (nk_st (f_X11_seal h14 a16 v2 v3)) fun h17 x18 => ((nk_rcv [18] h17 v0).bind fun a19 => nk_do (nk_st (f_X11_tamper h17 a19 v2 v3 v4)) fun h20 x21 => ((nk_rcv [18] h20 v1).bind fun a22 => nk_do (nk_st (f_X11_tamper h20 a22 v2 v3 v4)) fun h23 x24 => (if x24 = x21 then ((nk_rcv [18] h23 v0).bind fun a25 => nk_do (nk_st (f_X11_part h23 a25 v2 v3 3)) fun h26 x27 => (if x27 = v4 then ((nk_rcv [18] h26 v0).bind fun a28 => nk_do (nk_st (f_X11_seal h26 a28 v2 v3)) fun h29 x30 => (if x30 = x18 then (if 0 ≤ x15 then (f_L_isTamperedSo_c122   h29 v0 v1 v2 v3 v4 x15 x21) else (if x21 = v4 then (f_L_isTamperedSo_c122   h29 v0 v1 v2 v3 v4 x15 x21) else ((nk_rcv [18] h29 v0).bind fun a31 => nk_do (nk_st (f_X11_broken h29 a31 v2)) fun h32 x33 => (if x33 = v3 then (f_L_isTamperedSo_c122   h32 v0 v1 v2 v3 v4 x15 x21) else ((nk_rcv [18] h32 v0).bind fun a34 => nk_do (nk_st (f_X11_broken h32 a34 v2)) fun h35 x36 => (if x36 = (-1) then (f_L_isTamperedSo_c122   h35 v0 v1 v2 v3 v4 x15 x21) else (f_L_isTamperedSo_c126   h35 v0 v1 v2 v3 v4 x15 x21))))))) else (f_L_isTamperedSo_c126   h29 v0 v1 v2 v3 v4 x15 x21))) else (f_L_isTamperedSo_c126   h26 v0 v1 v2 v3 v4 x15 x21))) else (f_L_isTamperedSo_c126   h23 v0 v1 v2 v3 v4 x15 x21)))))) else (nk_do (f_L_does h11 v0 9 v2 v3 v4 0) fun h37 x38 => (if x38 = (-9999999) then (f_L_isTamperedSo_c30   h37 1) else (f_L_isTamperedSo_c30   h37 0)))))
def f_L_isCopySo_c174  (r106 : nk_H → Option Nat → Int32 → Int32 → Int32 → Int32 → Int32 → Int32 → Option (nk_H × Int32)) (r121 : nk_H → Option Nat → Int32 → Int32 → Int32 → Int32 → Int32 → Int32 → Int32 → Option (nk_H × Int32)) (h : nk_H) (v0 : Option Nat) (v2 : Int32) (v3 : Int32) (v4 : Int32) (v5 : Int32) (v7 : Int32) (v8 : Int32) (s0 : Int32) : Option (nk_H × Int32) := (r121 h v0 v2 v3 v4 v5 s0 v7 (v8 + 1))
def f_L_isCopySo_c166  (r106 : nk_H → Option Nat → Int32 → Int32 → Int32 → Int32 → Int32 → Int32 → Option (nk_H × Int32)) (r121 : nk_H → Option Nat → Int32 → Int32 → Int32 → Int32 → Int32 → Int32 → Int32 → Option (nk_H × Int32)) (h : nk_H) (v0 : Option Nat) (v2 : Int32) (v3 : Int32) (v4 : Int32) (v5 : Int32) (v7 : Int32) (v8 : Int32) (s0 : Int32) (s1 : Int32) : Option (nk_H × Int32) := (if s1 = s0 then (f_L_isCopySo_c174  r106 r121 h v0 v2 v3 v4 v5 v7 v8 1) else (f_L_isCopySo_c174  r106 r121 h v0 v2 v3 v4 v5 v7 v8 0))
def f_L_isCopySo_c182  (r106 : nk_H → Option Nat → Int32 → Int32 → Int32 → Int32 → Int32 → Int32 → Option (nk_H × Int32)) (h : nk_H) (v0 : Option Nat) (v2 : Int32) (v3 : Int32) (v4 : Int32) (v5 : Int32) (v6 : Int32) (v7 : Int32)  : Option (nk_H × Int32) := (r106 h v0 v2 v3 v4 v5 v6 (v7 + 1))
def f_L_isCopySo_c121  (r106 : nk_H → Option Nat → Int32 → Int32 → Int32 → Int32 → Int32 → Int32 → Option (nk_H × Int32)) (r121 : nk_H → Option Nat → Int32 → Int32 → Int32 → Int32 → Int32 → Int32 → Int32 → Option (nk_H × Int32)) (h : nk_H) (v0 : Option Nat) (v2 : Int32) (v3 : Int32) (v4 : Int32) (v5 : Int32) (v6 : Int32) (v7 : Int32) (v8 : Int32)  : Option (nk_H × Int32) := (if 6 ≤ v8 then (f_L_isCopySo_c182  r106 h v0 v2 v3 v4 v5 v6 v7) else (if v6 = 0 then (f_L_isCopySo_c182  r106 h v0 v2 v3 v4 v5 v6 v7) else ((nk_rcv [18] h v0).bind fun a1 => nk_do (nk_st (f_X11_copied h a1 v5 v7 v8)) fun h2 x3 => (if ((v3 >>> (v8 &&& 31)) &&& 1) = 1 then (f_L_isCopySo_c166  r106 r121 h2 v0 v2 v3 v4 v5 v7 v8 (-1) x3) else ((nk_rcv [18] h2 v0).bind fun a4 => nk_do (nk_st (f_X11_part h2 a4 v2 v7 v8)) fun h5 x6 => (f_L_isCopySo_c166  r106 r121 h5 v0 v2 v3 v4 v5 v7 v8 x6 x3))))))
def f_L_isCopySo_b121  (r106 : nk_H → Option Nat → Int32 → Int32 → Int32 → Int32 → Int32 → Int32 → Option (nk_H × Int32)) : Nat → nk_H → Option Nat → Int32 → Int32 → Int32 → Int32 → Int32 → Int32 → Int32 → Option (nk_H × Int32)
  | 0 => fun _ _ _ _ _ _ _ _ _ => none
  | n + 1 => f_L_isCopySo_c121  r106 (f_L_isCopySo_b121  r106 n)
def f_L_isCopySo_c188   (h : nk_H) (v6 : Int32)  : Option (nk_H × Int32) := (nk_zr v6 (h, v6))
def f_L_isCopySo_c106  (r106 : nk_H → Option Nat → Int32 → Int32 → Int32 → Int32 → Int32 → Int32 → Option (nk_H × Int32)) (h : nk_H) (v0 : Option Nat) (v2 : Int32) (v3 : Int32) (v4 : Int32) (v5 : Int32) (v6 : Int32) (v7 : Int32)  : Option (nk_H × Int32) := (if v4 ≤ v7 then (f_L_isCopySo_c188   h v6) else (if v6 = 0 then (f_L_isCopySo_c188   h v6) else (f_L_isCopySo_b121  r106 4096 h v0 v2 v3 v4 v5 v6 v7 0)))
def f_L_isCopySo_b106   : Nat → nk_H → Option Nat → Int32 → Int32 → Int32 → Int32 → Int32 → Int32 → Option (nk_H × Int32)
  | 0 => fun _ _ _ _ _ _ _ _ => none
  | n + 1 => f_L_isCopySo_c106  (f_L_isCopySo_b106   n)
def f_L_isCopySo_c101   (h : nk_H) (v0 : Option Nat) (v2 : Int32) (v3 : Int32) (v4 : Int32) (v5 : Int32) (s0 : Int32) : Option (nk_H × Int32) := (f_L_isCopySo_b106   4096 h v0 v2 v3 v4 v5 s0 0)
def f_L_isCopySo_c100   (h : nk_H) (v0 : Option Nat) (v2 : Int32) (v3 : Int32) (v4 : Int32) (v5 : Int32)  : Option (nk_H × Int32) := (f_L_isCopySo_c101   h v0 v2 v3 v4 v5 0)
def f_L_isCopySo_c45   (h : nk_H) (v0 : Option Nat) (v2 : Int32) (v3 : Int32) (v4 : Int32) (v5 : Int32) (s0 : Int32) : Option (nk_H × Int32) := (if v5 = (-9999999) then (nk_zr s0 (h, s0)) else (if s0 = 0 then (f_L_isCopySo_c100   h v0 v2 v3 v4 v5) else ((nk_rcv [18] h v0).bind fun a7 => nk_do (nk_st (f_X11_size h a7 v5)) fun h8 x9 => (if x9 = v4 then ((nk_rcv [18] h8 v0).bind fun a10 => nk_do (nk_st (f_X11_isTrue h8 a10 v5)) fun h11 x12 => (if x12 = 0 then (f_L_isCopySo_c100   h11 v0 v2 v3 v4 v5) else ((nk_rcv [18] h11 v0).bind fun a13 => nk_do (nk_st (f_X11_brokenCopy h11 a13 v5)) fun h14 x15 => ((nk_rcv [18] h14 v0).bind fun a16 => nk_do (nk_st (f_X11_broken h14 a16 v2)) fun h17 x18 => (if x15 = x18 then (f_L_isCopySo_c101   h17 v0 v2 v3 v4 v5 1) else (f_L_isCopySo_c100   h17 v0 v2 v3 v4 v5)))))) else (f_L_isCopySo_c100   h8 v0 v2 v3 v4 v5)))))
def f_L_isCopySo  (h : nk_H) (v0 : Option Nat) (v1 : Option Nat) (v2 : Int32) (v3 : Int32) : Option (nk_H × Int32) := ((nk_rcv [18] h v0).bind fun a19 => nk_do (nk_st (f_X11_records h a19 v2)) fun h20 x21 => (nk_do (f_L_does h20 v0 10 v2 0 (x21 - 1) v3) fun h22 x23 => (nk_do (f_L_does h22 v1 10 v2 0 (x21 - 1) v3) fun h24 x25 => (if x25 = x23 then (f_L_isCopySo_c45   h24 v0 v2 v3 x21 x23 1) else (f_L_isCopySo_c45   h24 v0 v2 v3 x21 x23 0)))))
def f_L_law_c286 (G : nk_G) (r21 : nk_H → Option Nat → Option Nat → Int32 → Int32 → Option (nk_H × Int32)) (h : nk_H)  (v1 : Option Nat) (v2 : Option Nat) (v3 : Int32) (v4 : Int32)  : Option (nk_H × Int32) := (r21 h v1 v2 v3 (v4 + 1))
def f_L_law_c285 (G : nk_G) (r21 : nk_H → Option Nat → Option Nat → Int32 → Int32 → Option (nk_H × Int32)) (h : nk_H)  (v1 : Option Nat) (v2 : Option Nat) (v4 : Int32) (s0 : Int32) : Option (nk_H × Int32) := (f_L_law_c286 G r21 h v1 v2 s0 v4)
def f_L_law_c284 (G : nk_G) (r21 : nk_H → Option Nat → Option Nat → Int32 → Int32 → Option (nk_H × Int32)) (h : nk_H)  (v1 : Option Nat) (v2 : Option Nat) (v4 : Int32)  : Option (nk_H × Int32) := (f_L_law_c285 G r21 h v1 v2 v4 0)
def f_L_law_c239 (G : nk_G) (r21 : nk_H → Option Nat → Option Nat → Int32 → Int32 → Option (nk_H × Int32)) (h : nk_H)  (v1 : Option Nat) (v2 : Option Nat) (v3 : Int32) (v4 : Int32) (v5 : Int32)  : Option (nk_H × Int32) := (if (v4 - v4 / 23 * 23) = 15 then (if v3 = 0 then (f_L_law_c284 G r21 h v1 v2 v4) else (nk_do (f_L_low h (v5 >>> (6 &&& 31)) 4) fun h1 x2 => (nk_do (f_L_low h1 (v5 >>> (8 &&& 31)) 64) fun h3 x4 => (nk_do (f_L_isCopySo h3 v1 v2 x2 x4) fun h5 x6 => (if x6 = 0 then (f_L_law_c284 G r21 h5 v1 v2 v4) else (f_L_law_c285 G r21 h5 v1 v2 v4 1)))))) else (f_L_law_c286 G r21 h v1 v2 v3 v4))
def f_L_law_c238 (G : nk_G) (r21 : nk_H → Option Nat → Option Nat → Int32 → Int32 → Option (nk_H × Int32)) (h : nk_H)  (v1 : Option Nat) (v2 : Option Nat) (v4 : Int32) (v5 : Int32) (s0 : Int32) : Option (nk_H × Int32) := (f_L_law_c239 G r21 h v1 v2 s0 v4 v5)
def f_L_law_c237 (G : nk_G) (r21 : nk_H → Option Nat → Option Nat → Int32 → Int32 → Option (nk_H × Int32)) (h : nk_H)  (v1 : Option Nat) (v2 : Option Nat) (v4 : Int32) (v5 : Int32)  : Option (nk_H × Int32) := (f_L_law_c238 G r21 h v1 v2 v4 v5 0)
def f_L_law_c180 (G : nk_G) (r21 : nk_H → Option Nat → Option Nat → Int32 → Int32 → Option (nk_H × Int32)) (h : nk_H)  (v1 : Option Nat) (v2 : Option Nat) (v3 : Int32) (v4 : Int32) (v5 : Int32)  : Option (nk_H × Int32) := (if (v4 - v4 / 9 * 9) = 7 then (if v3 = 0 then (f_L_law_c237 G r21 h v1 v2 v4 v5) else (nk_do (f_L_low h (v5 >>> (6 &&& 31)) 4) fun h7 x8 => (nk_do (f_L_low h7 (v5 >>> (8 &&& 31)) 3) fun h9 x10 => (nk_do (f_L_low h9 (v5 >>> (10 &&& 31)) 10000) fun h11 x12 => (nk_do (f_L_isTamperedSo h11 v1 v2 x8 x10 (1 + x12)) fun h13 x14 => (if x14 = 0 then (f_L_law_c237 G r21 h13 v1 v2 v4 v5) else (f_L_law_c238 G r21 h13 v1 v2 v4 v5 1))))))) else (f_L_law_c239 G r21 h v1 v2 v3 v4 v5))
def f_L_law_c179 (G : nk_G) (r21 : nk_H → Option Nat → Option Nat → Int32 → Int32 → Option (nk_H × Int32)) (h : nk_H)  (v1 : Option Nat) (v2 : Option Nat) (v4 : Int32) (v5 : Int32) (s0 : Int32) : Option (nk_H × Int32) := (f_L_law_c180 G r21 h v1 v2 s0 v4 v5)
def f_L_law_c178 (G : nk_G) (r21 : nk_H → Option Nat → Option Nat → Int32 → Int32 → Option (nk_H × Int32)) (h : nk_H)  (v1 : Option Nat) (v2 : Option Nat) (v4 : Int32) (v5 : Int32)  : Option (nk_H × Int32) := (f_L_law_c179 G r21 h v1 v2 v4 v5 0)
def f_L_law_c121 (G : nk_G) (r21 : nk_H → Option Nat → Option Nat → Int32 → Int32 → Option (nk_H × Int32)) (h : nk_H)  (v1 : Option Nat) (v2 : Option Nat) (v4 : Int32) (v5 : Int32) (s0 : Int32) : Option (nk_H × Int32) := (if (v4 - v4 / 5 * 5) = 2 then (if s0 = 0 then (f_L_law_c178 G r21 h v1 v2 v4 v5) else (nk_do (f_L_low h (v5 >>> (6 &&& 31)) 4) fun h15 x16 => (nk_do (f_L_low h15 (v5 >>> (8 &&& 31)) 40) fun h17 x18 => (nk_do (f_L_low h17 (v5 >>> (10 &&& 31)) 2000) fun h19 x20 => (nk_do (f_L_isActSo h19 v1 v2 x16 x18 (1 + x20)) fun h21 x22 => (if x22 = 0 then (f_L_law_c178 G r21 h21 v1 v2 v4 v5) else (f_L_law_c179 G r21 h21 v1 v2 v4 v5 1))))))) else (f_L_law_c180 G r21 h v1 v2 s0 v4 v5))
def f_L_law_c116 (G : nk_G) (r21 : nk_H → Option Nat → Option Nat → Int32 → Int32 → Option (nk_H × Int32)) (h : nk_H)  (v1 : Option Nat) (v2 : Option Nat) (v4 : Int32) (v5 : Int32)  : Option (nk_H × Int32) := (f_L_law_c121 G r21 h v1 v2 v4 v5 1)
def f_L_law_c120 (G : nk_G) (r21 : nk_H → Option Nat → Option Nat → Int32 → Int32 → Option (nk_H × Int32)) (h : nk_H)  (v1 : Option Nat) (v2 : Option Nat) (v4 : Int32) (v5 : Int32)  : Option (nk_H × Int32) := (f_L_law_c121 G r21 h v1 v2 v4 v5 0)
def f_L_law_c96 (G : nk_G) (r21 : nk_H → Option Nat → Option Nat → Int32 → Int32 → Option (nk_H × Int32)) (h : nk_H)  (v1 : Option Nat) (v2 : Option Nat) (v4 : Int32) (v5 : Int32)  : Option (nk_H × Int32) := (if (v4 - v4 / 4 * 4) = 1 then (nk_do (f_L_isNewsSo h v1 (v5 >>> (6 &&& 31))) fun h23 x24 => (if x24 = 0 then (f_L_law_c120 G r21 h23 v1 v2 v4 v5) else (f_L_law_c116 G r21 h23 v1 v2 v4 v5))) else (f_L_law_c116 G r21 h v1 v2 v4 v5))
def f_L_law_c79 (G : nk_G) (r21 : nk_H → Option Nat → Option Nat → Int32 → Int32 → Option (nk_H × Int32)) (h : nk_H)  (v1 : Option Nat) (v2 : Option Nat) (v4 : Int32) (v5 : Int32)  : Option (nk_H × Int32) := (if (v4 - v4 / 6 * 6) = 3 then (nk_do (f_L_areAlike h v1 v2) fun h25 x26 => (if x26 = 0 then (f_L_law_c120 G r21 h25 v1 v2 v4 v5) else (f_L_law_c96 G r21 h25 v1 v2 v4 v5))) else (f_L_law_c96 G r21 h v1 v2 v4 v5))
def f_L_law_c317 (G : nk_G)  (h : nk_H)  (s0 : Int32) : Option (nk_H × Int32) := (nk_zr s0 (h, s0))
def f_L_law_c316 (G : nk_G)  (h : nk_H)   : Option (nk_H × Int32) := (f_L_law_c317 G  h 0)
def f_L_law_c292 (G : nk_G)  (h : nk_H)  (v1 : Option Nat) (v2 : Option Nat) (v3 : Int32)  : Option (nk_H × Int32) := (if v3 = 0 then (f_L_law_c316 G  h) else (nk_do (f_L_areAlike h v1 v2) fun h27 x28 => (if x28 = 0 then (f_L_law_c316 G  h27) else (nk_do (f_L_isNewsSo h27 v1 0) fun h29 x30 => (if x30 = 0 then (f_L_law_c316 G  h29) else (f_L_law_c317 G  h29 1))))))
def f_L_law_c21 (G : nk_G) (r21 : nk_H → Option Nat → Option Nat → Int32 → Int32 → Option (nk_H × Int32)) (h : nk_H)  (v1 : Option Nat) (v2 : Option Nat) (v3 : Int32) (v4 : Int32)  : Option (nk_H × Int32) := (if 100 ≤ v4 then (f_L_law_c292 G  h v1 v2 v3) else (if v3 = 0 then (f_L_law_c292 G  h v1 v2 v3) else (nk_do (f_L_cell G h (v4 - v4 / 61 * 61)) fun h31 x32 => (nk_do (f_L_act h31 v1 (x32 + (1321 * (v4 / 61)))) fun h33 x34 => (if x34 = (-9999999) then (f_L_law_c79 G r21 h33 v1 v2 v4 (x32 + (1321 * (v4 / 61)))) else (nk_do (f_L_act h33 v2 (x32 + (1321 * (v4 / 61)))) fun h35 x36 => (if x36 = x34 then (f_L_law_c79 G r21 h35 v1 v2 v4 (x32 + (1321 * (v4 / 61)))) else (f_L_law_c120 G r21 h35 v1 v2 v4 (x32 + (1321 * (v4 / 61)))))))))))
def f_L_law_b21 (G : nk_G)  : Nat → nk_H → Option Nat → Option Nat → Int32 → Int32 → Option (nk_H × Int32)
  | 0 => fun _ _ _ _ _ => none
  | n + 1 => f_L_law_c21 G (f_L_law_b21 G  n)
def f_L_law (G : nk_G) (h : nk_H)  : Option (nk_H × Int32) := ((some (nk_al h 18 0 9)).bind fun h37 => (nk_do (f_X11_init h37 (nk_N h)) fun h38 x39 => ((some (nk_al h38 18 0 9)).bind fun h40 => (nk_do (f_X11_init h40 (nk_N h38)) fun h41 x42 => (f_L_law_b21 G  4096 h41 (some (nk_N h)) (some (nk_N h38)) 1 0)))))
end
section
/-! ===== a heap that holds another one's cells, renamed: what a function does there ===== -/
/-- h holds the cells D of g, renamed by ρ; the cells F of h are as in h0 -/
def nt_R (ρ : Nat → Nat) (D F : Nat → Prop) (h0 : nk_H) (u v : Nat) (h g : nk_H) : Prop :=
  (∀ a b, D a → D b → ρ a = ρ b → a = b) ∧ (∀ a, D a → nk_K h (ρ a) = nk_K g a) ∧
  (∀ a, D a → nk_K g a ≠ 0 → nk_K g a ≠ 20 → nk_L h (ρ a) = nk_L g a ∧ (∀ j, nk_I h (ρ a) j = nk_I g a j) ∧ (∀ j, nk_P h (ρ a) j = (nk_P g a j).map ρ) ∧ ∀ j b, nk_P g a j = some b → D b ∧ b < nk_N g) ∧
  (∀ i, D (nk_N g + i) ∧ ρ (nk_N g + i) = nk_N h + i ∧ nk_K g (nk_N g + i) = 0) ∧
  (D (nk_E g) ∧ ρ (nk_E g) = nk_E h ∧ nk_E h = nk_E h0 ∧ nk_E g < nk_N g) ∧ (nk_S h + u = nk_S g + v ∧ nk_N h0 ≤ nk_N h) ∧
  ∀ x, F x → x < nk_N h ∧ (∀ a, D a → nk_K g a ≠ 0 → nk_K g a ≠ 20 → ρ a ≠ x) ∧ nk_K h x = nk_K h0 x ∧ nk_L h x = nk_L h0 x ∧ (∀ j, nk_I h x j = nk_I h0 x j) ∧ ∀ j, nk_P h x j = nk_P h0 x j
def nt_V (ρ : Nat → Nat) (D : Nat → Prop) (n : Nat) (p q : Option Nat) : Prop := q = p.map ρ ∧ ∀ b, p = some b → D b ∧ b < n
def nt_A (ρ : Nat → Nat) (D : Nat → Prop) (n : Nat) (a b : Nat) : Prop := (D a ∧ a < n) ∧ b = ρ a
def nt_q {α : Type} (_ : Nat) (a b : α) : Prop := a = b
def nt_F {α : Type} (ρ : Nat → Nat) (D F : Nat → Prop) (h0 : nk_H) (u v k : Nat) (V : Nat → α → α → Prop) (x y : Option (nk_H × α)) : Prop := ∀ (g : nk_H) (r : α), x = some (g, r) → ∃ (h : nk_H) (r' : α), y = some (h, r') ∧ nt_R ρ D F h0 u v h g ∧ V (nk_N g) r r' ∧ k ≤ nk_N g
section NT
variable {ρ : Nat → Nat} {D F : Nat → Prop} {h0 : nk_H} {u v n n' k k' : Nat} {h g : nk_H} {α β : Type} {V : Nat → α → α → Prop}
theorem nt_vS {a b : Nat} (h : nt_A ρ D n a b) : nt_V ρ D n (some a) (some b) := ⟨by rw [h.2]; rfl, fun c e => by cases e; exact h.1⟩
theorem nt_vn : nt_V ρ D n none none := ⟨rfl, fun _ e => by cases e⟩
theorem nt_vm {p q : Option Nat} (h : nt_V ρ D n p q) (le : n ≤ n') : nt_V ρ D n' p q := ⟨h.1, fun b e => ⟨(h.2 b e).1, Nat.lt_of_lt_of_le (h.2 b e).2 le⟩⟩
theorem nt_am {a b : Nat} (h : nt_A ρ D n a b) (le : n ≤ n') : nt_A ρ D n' a b := ⟨⟨h.1.1, Nat.lt_of_lt_of_le h.1.2 le⟩, h.2⟩
theorem nt_aN (R : nt_R ρ D F h0 u v h g) (lt : nk_N g < n) : nt_A ρ D n (nk_N g) (nk_N h) := ⟨⟨(R.2.2.2.1 0).1, lt⟩, (R.2.2.2.1 0).2.1.symm⟩
theorem nt_vN (R : nt_R ρ D F h0 u v h g) (lt : nk_N g < n) : nt_V ρ D n (some (nk_N g)) (some (nk_N h)) := nt_vS (nt_aN R lt)
theorem nt_vE (R : nt_R ρ D F h0 u v h g) (le : nk_N g ≤ n) : nt_V ρ D n (some (nk_E g)) (some (nk_E h)) := nt_vS ⟨⟨R.2.2.2.2.1.1, Nat.lt_of_lt_of_le R.2.2.2.2.1.2.2.2 le⟩, R.2.2.2.2.1.2.1.symm⟩
theorem nt_eq (R : nt_R ρ D F h0 u v h g) {p p' q q' : Option Nat} (a : nt_V ρ D n p p') (b : nt_V ρ D n' q q') : (p = q) ↔ (p' = q') := by
  obtain ⟨rfl, a2⟩ := a
  obtain ⟨rfl, b2⟩ := b
  cases p with
  | none => cases q <;> simp
  | some x =>
    cases q with
    | none => simp
    | some y =>
      simp only [Option.map_some, Option.some.injEq]
      exact ⟨fun e => by rw [e], fun e => R.1 x y (a2 x rfl).1 (b2 y rfl).1 e⟩
theorem nt_k (R : nt_R ρ D F h0 u v h g) {a b : Nat} (A : nt_A ρ D n a b) (c : Nat) : (nk_K g a = c) ↔ (nk_K h b = c) := by
  rw [A.2, R.2.1 a A.1.1]
theorem nt_none {y : Option (nk_H × α)} : nt_F ρ D F h0 u v k V none y := fun _ _ e => by cases e
theorem nt_fk {x y : Option (nk_H × α)} (f : nt_F ρ D F h0 u v k' V x y) (le : k ≤ k') : nt_F ρ D F h0 u v k V x y := fun g1 r1 e => by
  obtain ⟨h1, r2, a, b, c, d⟩ := f g1 r1 e
  exact ⟨h1, r2, a, b, c, Nat.le_trans le d⟩
theorem nt_ret (R : nt_R ρ D F h0 u v h g) {r r' : α} (hv : V (nk_N g) r r') (le : k ≤ nk_N g) : nt_F ρ D F h0 u v k V (some (g, r)) (some (h, r')) := fun g1 r1 e => by
  cases e; exact ⟨h, r', rfl, R, hv, le⟩
theorem nt_zr (R : nt_R ρ D F h0 u v h g) {r r' : α} (x : Int32) (hv : V (nk_N g) r r') (le : k ≤ nk_N g) : nt_F ρ D F h0 u v k V (nk_zr x (g, r)) (nk_zr x (h, r')) := by
  unfold nk_zr
  by_cases e : vp_nar .boolean x = x
  · rw [if_pos e, if_pos e]; exact nt_ret R hv le
  · rw [if_neg e]; exact nt_none
theorem nt_ite {c : Prop} [Decidable c] {a b a' b' : Option (nk_H × α)} (p : nt_F ρ D F h0 u v k V a a') (q : nt_F ρ D F h0 u v k V b b') : nt_F ρ D F h0 u v k V (if c then a else b) (if c then a' else b') := by
  by_cases e : c
  · rw [if_pos e, if_pos e]; exact p
  · rw [if_neg e, if_neg e]; exact q
theorem nt_iteP {c c' : Prop} [Decidable c] [Decidable c'] (w : c ↔ c') {a b a' b' : Option (nk_H × α)} (p : nt_F ρ D F h0 u v k V a a') (q : nt_F ρ D F h0 u v k V b b') : nt_F ρ D F h0 u v k V (if c then a else b) (if c' then a' else b') := by
  by_cases e : c
  · rw [if_pos e, if_pos (w.mp e)]; exact p
  · rw [if_neg e, if_neg (fun z => e (w.mpr z))]; exact q
theorem nt_doE {x y : Option (nk_H × β)} {A A' : nk_H → β → Option (nk_H × α)} (hx : nt_F ρ D F h0 u v k' nt_q x y) (hK : ∀ g1 h1 r, nt_R ρ D F h0 u v h1 g1 → k' ≤ nk_N g1 → nt_F ρ D F h0 u v k V (A g1 r) (A' h1 r)) : nt_F ρ D F h0 u v k V (nk_do x A) (nk_do y A') := by
  intro g2 r2 e
  cases hx2 : x with
  | none => rw [hx2] at e; cases e
  | some z =>
    obtain ⟨g1, r1⟩ := z
    obtain ⟨h1, r1', e1, R1, e9, le⟩ := hx g1 r1 hx2
    cases e9
    rw [hx2] at e
    obtain ⟨h2, r2', e2, R2, V2, le2⟩ := hK g1 h1 r1 R1 le g2 r2 e
    exact ⟨h2, r2', by rw [e1]; exact e2, R2, V2, le2⟩
theorem nt_doV {x y : Option (nk_H × Option Nat)} {A A' : nk_H → Option Nat → Option (nk_H × α)} (hx : nt_F ρ D F h0 u v k' (nt_V ρ D) x y) (hK : ∀ g1 h1 r r', nt_R ρ D F h0 u v h1 g1 → nt_V ρ D (nk_N g1) r r' → k' ≤ nk_N g1 → nt_F ρ D F h0 u v k V (A g1 r) (A' h1 r')) : nt_F ρ D F h0 u v k V (nk_do x A) (nk_do y A') := by
  intro g2 r2 e
  cases hx2 : x with
  | none => rw [hx2] at e; cases e
  | some z =>
    obtain ⟨g1, r1⟩ := z
    obtain ⟨h1, r1', e1, R1, V1, le⟩ := hx g1 r1 hx2
    rw [hx2] at e
    obtain ⟨h2, r2', e2, R2, V2, le2⟩ := hK g1 h1 r1 r1' R1 V1 le g2 r2 e
    exact ⟨h2, r2', by rw [e1]; exact e2, R2, V2, le2⟩
theorem nt_dt {γ : Type} {x y : Option (nk_H × (β ⊕ String))} {A A' : nk_H → β → Option (nk_H × (γ ⊕ String))} (hk : k ≤ k') (hx : nt_F ρ D F h0 u v k' nt_q x y) (hK : ∀ g1 h1 r, nt_R ρ D F h0 u v h1 g1 → k' ≤ nk_N g1 → nt_F ρ D F h0 u v k nt_q (A g1 r) (A' h1 r)) : nt_F ρ D F h0 u v k nt_q (nk_dt x A) (nk_dt y A') := by
  intro g2 r2 e
  cases hx2 : x with
  | none => rw [hx2] at e; cases e
  | some z =>
    obtain ⟨g1, r1⟩ := z
    obtain ⟨h1, r1', e1, R1, e9, le⟩ := hx g1 r1 hx2
    cases e9
    rw [hx2] at e
    rw [e1]
    cases r1 with
    | inl b => exact hK g1 h1 b R1 le g2 r2 e
    | inr E => cases e; exact ⟨h1, .inr E, rfl, R1, rfl, Nat.le_trans hk le⟩
/-- reading -/
theorem nt_ks {ks : List Nat} (hks : 0 ∉ ks ∧ 20 ∉ ks) {k : Nat} (hk : k ∈ ks) : k ≠ 0 ∧ k ≠ 20 := ⟨fun e => hks.1 (by rw [← e]; exact hk), fun e => hks.2 (by rw [← e]; exact hk)⟩
theorem nt_gI (R : nt_R ρ D F h0 u v h g) {p p' : Option Nat} (P : nt_V ρ D n p p') {ks : List Nat} {fk : Nat} {A A' : Int32 → Option (nk_H × α)} (hK : ∀ x, nt_F ρ D F h0 u v k V (A x) (A' x)) (hks : 0 ∉ ks ∧ 20 ∉ ks := by decide) : nt_F ρ D F h0 u v k V ((nk_gI ks fk g p).bind A) ((nk_gI ks fk h p').bind A') := by
  obtain ⟨rfl, P2⟩ := P
  cases p with
  | none => exact nt_none
  | some a =>
    have ha := (P2 a rfl).1
    have hk := R.2.1 a ha
    unfold nk_gI
    by_cases e : nk_K g a ∈ ks
    · have q := nt_ks hks e
      have := (R.2.2.1 a ha q.1 q.2).2.1 fk
      simp only [Option.map_some, Option.bind_some, hk, if_pos e, this]
      exact hK _
    · simp only [Option.bind_some, if_neg e]; exact nt_none
theorem nt_gP (R : nt_R ρ D F h0 u v h g) {p p' : Option Nat} (P : nt_V ρ D n p p') {ks : List Nat} {fk : Nat} {A A' : Option Nat → Option (nk_H × α)} (hK : ∀ x x', nt_V ρ D (nk_N g) x x' → nt_F ρ D F h0 u v k V (A x) (A' x')) (hks : 0 ∉ ks ∧ 20 ∉ ks := by decide) : nt_F ρ D F h0 u v k V ((nk_gP ks fk g p).bind A) ((nk_gP ks fk h p').bind A') := by
  obtain ⟨rfl, P2⟩ := P
  cases p with
  | none => exact nt_none
  | some a =>
    have ha := (P2 a rfl).1
    have hk := R.2.1 a ha
    unfold nk_gP
    by_cases e : nk_K g a ∈ ks
    · have q := nt_ks hks e
      obtain ⟨-, -, q3, q4⟩ := R.2.2.1 a ha q.1 q.2
      simp only [Option.map_some, Option.bind_some, hk, if_pos e]
      exact hK _ _ ⟨q3 fk, fun b hb => q4 fk b hb⟩
    · simp only [Option.bind_some, if_neg e]; exact nt_none
theorem nt_rcv (R : nt_R ρ D F h0 u v h g) {p p' : Option Nat} (P : nt_V ρ D n p p') {ks : List Nat} {A A' : Nat → Option (nk_H × α)} (hK : ∀ x x', nt_A ρ D n x x' → nt_F ρ D F h0 u v k V (A x) (A' x')) : nt_F ρ D F h0 u v k V ((nk_rcv ks g p).bind A) ((nk_rcv ks h p').bind A') := by
  obtain ⟨rfl, P2⟩ := P
  cases p with
  | none => exact nt_none
  | some a =>
    have ha := (P2 a rfl).1
    have hk := R.2.1 a ha
    unfold nk_rcv
    by_cases e : nk_K g a ∈ ks
    · simp only [Option.map_some, Option.bind_some, hk, if_pos e]
      exact hK _ _ ⟨P2 a rfl, rfl⟩
    · simp only [Option.bind_some, if_neg e]; exact nt_none
theorem nt_cc (R : nt_R ρ D F h0 u v h g) {p p' : Option Nat} (P : nt_V ρ D n p p') {ks : List Nat} {A A' : Unit → Option (nk_H × α)} (hK : nt_F ρ D F h0 u v k V (A ()) (A' ())) : nt_F ρ D F h0 u v k V ((nk_cc ks g p).bind A) ((nk_cc ks h p').bind A') := by
  obtain ⟨rfl, P2⟩ := P
  cases p with
  | none => exact hK
  | some a =>
    have ha := (P2 a rfl).1
    have hk := R.2.1 a ha
    unfold nk_cc
    by_cases e : nk_K g a ∈ ks
    · simp only [Option.map_some, hk, if_pos e]
      exact hK
    · simp only [if_neg e]; exact nt_none
theorem nt_aI (R : nt_R ρ D F h0 u v h g) {p p' : Option Nat} (P : nt_V ρ D n p p') {c : Nat} {i : Int32} {A A' : Int32 → Option (nk_H × α)} (hK : ∀ x, nt_F ρ D F h0 u v k V (A x) (A' x)) (hc : c ≠ 0 ∧ c ≠ 20 := by decide) : nt_F ρ D F h0 u v k V ((nk_aI c g p i).bind A) ((nk_aI c h p' i).bind A') := by
  obtain ⟨rfl, P2⟩ := P
  cases p with
  | none => exact nt_none
  | some a =>
    have ha := (P2 a rfl).1
    have hk := R.2.1 a ha
    unfold nk_aI
    by_cases e : nk_K g a = c ∧ ¬ i < 0 ∧ i.toNatClampNeg < nk_L g a
    · obtain ⟨q1, q2, -⟩ := R.2.2.1 a ha (by rw [e.1]; exact hc.1) (by rw [e.1]; exact hc.2)
      have e' : nk_K h (ρ a) = c ∧ ¬ i < 0 ∧ i.toNatClampNeg < nk_L h (ρ a) := by rw [hk, q1]; exact e
      simp only [Option.map_some, Option.bind_some, if_pos e, if_pos e', q2]
      exact hK _
    · simp only [Option.bind_some, if_neg e]; exact nt_none
theorem nt_aP (R : nt_R ρ D F h0 u v h g) {p p' : Option Nat} (P : nt_V ρ D n p p') {c : Nat} {i : Int32} {A A' : Option Nat → Option (nk_H × α)} (hK : ∀ x x', nt_V ρ D (nk_N g) x x' → nt_F ρ D F h0 u v k V (A x) (A' x')) (hc : c ≠ 0 ∧ c ≠ 20 := by decide) : nt_F ρ D F h0 u v k V ((nk_aP c g p i).bind A) ((nk_aP c h p' i).bind A') := by
  obtain ⟨rfl, P2⟩ := P
  cases p with
  | none => exact nt_none
  | some a =>
    have ha := (P2 a rfl).1
    have hk := R.2.1 a ha
    unfold nk_aP
    by_cases e : nk_K g a = c ∧ ¬ i < 0 ∧ i.toNatClampNeg < nk_L g a
    · obtain ⟨q1, -, q3, q4⟩ := R.2.2.1 a ha (by rw [e.1]; exact hc.1) (by rw [e.1]; exact hc.2)
      have e' : nk_K h (ρ a) = c ∧ ¬ i < 0 ∧ i.toNatClampNeg < nk_L h (ρ a) := by rw [hk, q1]; exact e
      simp only [Option.map_some, Option.bind_some, if_pos e, if_pos e']
      exact hK _ _ ⟨q3 _, fun b hb => q4 _ b hb⟩
    · simp only [Option.bind_some, if_neg e]; exact nt_none
theorem nt_len (R : nt_R ρ D F h0 u v h g) {p p' : Option Nat} (P : nt_V ρ D n p p') {A A' : Int32 → Option (nk_H × α)} (hK : ∀ x, nt_F ρ D F h0 u v k V (A x) (A' x)) : nt_F ρ D F h0 u v k V ((nk_len g p).bind A) ((nk_len h p').bind A') := by
  obtain ⟨rfl, P2⟩ := P
  cases p with
  | none => exact nt_none
  | some a =>
    have ha := (P2 a rfl).1
    have hk := R.2.1 a ha
    unfold nk_len
    by_cases e : 1 ≤ nk_K g a ∧ nk_K g a ≤ 6
    · obtain ⟨q1, -⟩ := R.2.2.1 a ha (by omega) (by omega)
      simp only [Option.map_some, Option.bind_some, hk, if_pos e, q1]
      exact hK _
    · by_cases e2 : nk_K g a = 20
      · simp only [Option.map_some, Option.bind_some, hk, if_neg e, if_pos e2]
        exact hK _
      · simp only [Option.bind_some, if_neg e, if_neg e2]; exact nt_none
theorem nt_gc (R : nt_R ρ D F h0 u v h g) {p p' : Option Nat} (P : nt_V ρ D n p p') {A A' : Option Nat → Option (nk_H × α)} (hK : ∀ x x', ((x = some (nk_M g)) ↔ (x' = some (nk_M h))) → nt_F ρ D F h0 u v k V (A x) (A' x')) : nt_F ρ D F h0 u v k V ((nk_gc g p).bind A) ((nk_gc h p').bind A') := by
  obtain ⟨rfl, P2⟩ := P
  cases p with
  | none => exact nt_none
  | some a =>
    have ha := (P2 a rfl).1
    have hk := R.2.1 a ha
    unfold nk_gc
    by_cases e : nk_K g a = 4
    · simp only [Option.map_some, Option.bind_some, hk, if_pos e]
      exact hK _ _ ⟨fun _ => rfl, fun _ => rfl⟩
    · simp only [Option.bind_some, if_neg e]; exact nt_none
/-- writing -/
theorem nt_sI (R : nt_R ρ D F h0 u v h g) {a : Nat} (ha : D a) (k0 : nk_K g a ≠ 0) (k1 : nk_K g a ≠ 20) (k : Nat) (x : Int32) : nt_R ρ D F h0 u v (nk_sI h (ρ a) k x) (nk_sI g a k x) := by
  obtain ⟨r1, r2, r3, r4, r5, r7, r8⟩ := R
  refine ⟨r1, r2, fun b hb b0 b1 => ?_, r4, r5, r7, fun y hy => ?_⟩
  · obtain ⟨q1, q2, q3, q4⟩ := r3 b hb b0 b1
    refine ⟨q1, fun j => ?_, q3, q4⟩
    rw [nk_I_sI, nk_I_sI]
    by_cases e : b = a
    · subst e
      by_cases ej : j = k
      · subst ej; rw [nk_u2_eq, nk_u2_eq]
      · rw [nk_u2_nk _ _ _ _ _ ej, nk_u2_nk _ _ _ _ _ ej]; exact q2 j
    · rw [nk_u2_ne _ _ _ _ j e, nk_u2_ne _ _ _ _ j (fun z => e (r1 b a hb ha z))]; exact q2 j
  · obtain ⟨q1, q2, q3, q4, q5, q6⟩ := r8 y hy
    refine ⟨q1, q2, q3, q4, fun j => ?_, q6⟩
    rw [nk_I_sI, nk_u2_ne _ _ _ _ j (fun z => q2 a ha k0 k1 z.symm)]; exact q5 j
theorem nt_sP (R : nt_R ρ D F h0 u v h g) {a : Nat} (ha : D a) (k0 : nk_K g a ≠ 0) (k1 : nk_K g a ≠ 20) (k : Nat) {p p' : Option Nat} (P : nt_V ρ D (nk_N g) p p') : nt_R ρ D F h0 u v (nk_sP h (ρ a) k p') (nk_sP g a k p) := by
  obtain ⟨r1, r2, r3, r4, r5, r7, r8⟩ := R
  obtain ⟨rfl, P3⟩ := P
  refine ⟨r1, r2, fun b hb b0 b1 => ?_, r4, r5, r7, fun y hy => ?_⟩
  · obtain ⟨q1, q2, q3, q4⟩ := r3 b hb b0 b1
    refine ⟨q1, q2, fun j => ?_, fun j c hc => ?_⟩
    · rw [nk_P_sP, nk_P_sP]
      by_cases e : b = a
      · subst e
        by_cases ej : j = k
        · subst ej; rw [nk_u2_eq, nk_u2_eq]
        · rw [nk_u2_nk _ _ _ _ _ ej, nk_u2_nk _ _ _ _ _ ej]; exact q3 j
      · rw [nk_u2_ne _ _ _ _ j e, nk_u2_ne _ _ _ _ j (fun z => e (r1 b a hb ha z))]; exact q3 j
    · rw [nk_P_sP] at hc
      by_cases e : b = a
      · subst e
        by_cases ej : j = k
        · subst ej; rw [nk_u2_eq] at hc; exact P3 c hc
        · rw [nk_u2_nk _ _ _ _ _ ej] at hc; exact q4 j c hc
      · rw [nk_u2_ne _ _ _ _ j e] at hc; exact q4 j c hc
  · obtain ⟨q1, q2, q3, q4, q5, q6⟩ := r8 y hy
    refine ⟨q1, q2, q3, q4, q5, fun j => ?_⟩
    rw [nk_P_sP, nk_u2_ne _ _ _ _ j (fun z => q2 a ha k0 k1 z.symm)]; exact q6 j
theorem nt_alR (R : nt_R ρ D F h0 u v h g) (c n w : Nat) : nt_R ρ D F h0 u v (nk_al h c n w) (nk_al g c n w) := by
  obtain ⟨r1, r2, r3, r4, r5, r7, r8⟩ := R
  have hd := (r4 0).1
  have hn : ρ (nk_N g) = nk_N h := (r4 0).2.1
  have ne : ∀ a, D a → a ≠ nk_N g → ρ a ≠ nk_N h := fun a ha e z => e (r1 a (nk_N g) ha hd (by rw [z, hn]))
  refine ⟨r1, fun a ha => ?_, fun a ha k0 k1 => ?_, fun i => ?_, ⟨r5.1, r5.2.1, r5.2.2.1, by rw [nk_N_al]; exact Nat.lt_succ_of_lt r5.2.2.2⟩, ⟨by rw [nk_S_al, nk_S_al]; omega, by rw [nk_N_al]; omega⟩, fun x hx => ?_⟩
  · rw [nk_K_al, nk_K_al]
    by_cases e : a = nk_N g
    · subst e; rw [hn, nk_u1_eq, nk_u1_eq]
    · rw [nk_u1_ne _ _ _ e, nk_u1_ne _ _ _ (ne a ha e)]; exact r2 a ha
  · rw [nk_L_al, nk_L_al, nk_I_al, nk_I_al, nk_P_al, nk_P_al]
    by_cases e : a = nk_N g
    · subst e
      rw [hn, nk_u1_eq, nk_u1_eq, nk_u1_eq, nk_u1_eq, nk_u1_eq, nk_u1_eq]
      exact ⟨rfl, fun _ => rfl, fun _ => rfl, fun _ _ z => by cases z⟩
    · rw [nk_K_al, nk_u1_ne _ _ _ e] at k0 k1
      rw [nk_u1_ne _ _ _ e, nk_u1_ne _ _ _ e, nk_u1_ne _ _ _ e, nk_u1_ne _ _ _ (ne a ha e), nk_u1_ne _ _ _ (ne a ha e), nk_u1_ne _ _ _ (ne a ha e)]
      obtain ⟨q1, q2, q3, q4⟩ := r3 a ha k0 k1
      exact ⟨q1, q2, q3, fun j b hb => ⟨(q4 j b hb).1, Nat.lt_succ_of_lt (q4 j b hb).2⟩⟩
  · rw [nk_N_al, nk_N_al, nk_K_al, show nk_N g + 1 + i = nk_N g + (1 + i) by omega, nk_u1_ne _ _ _ (by omega)]
    obtain ⟨q1, q2, q3⟩ := r4 (1 + i)
    exact ⟨q1, by rw [q2]; omega, q3⟩
  · obtain ⟨q1, q2, q3, q4, q5, q6⟩ := r8 x hx
    have hxn : x ≠ nk_N h := by omega
    rw [nk_N_al, nk_K_al h, nk_L_al h, nk_I_al h, nk_P_al h, nk_u1_ne _ _ _ hxn, nk_u1_ne _ _ _ hxn, nk_u1_ne _ _ _ hxn, nk_u1_ne _ _ _ hxn]
    refine ⟨by omega, fun a ha k0 k1 => ?_, q3, q4, q5, q6⟩
    by_cases e : a = nk_N g
    · subst e; rw [hn]; omega
    · rw [nk_K_al, nk_u1_ne _ _ _ e] at k0 k1
      exact q2 a ha k0 k1
theorem nt_pI (R : nt_R ρ D F h0 u v h g) {p p' : Option Nat} (P : nt_V ρ D n p p') {ks : List Nat} {fk : Nat} {x : Int32} {A A' : nk_H → Option (nk_H × α)} (hK : ∀ g1 h1, nt_R ρ D F h0 u v h1 g1 → nk_N g ≤ nk_N g1 → nt_F ρ D F h0 u v k V (A g1) (A' h1)) (hks : 0 ∉ ks ∧ 20 ∉ ks := by decide) : nt_F ρ D F h0 u v k V ((nk_pI ks fk g p x).bind A) ((nk_pI ks fk h p' x).bind A') := by
  obtain ⟨rfl, P2⟩ := P
  cases p with
  | none => exact nt_none
  | some a =>
    have ha := (P2 a rfl).1
    have hk := R.2.1 a ha
    unfold nk_pI
    by_cases e : nk_K g a ∈ ks
    · have q := nt_ks hks e
      simp only [Option.map_some, Option.bind_some, hk, if_pos e]
      exact hK _ _ (nt_sI R ha q.1 q.2 fk x) (Nat.le_refl _)
    · simp only [Option.bind_some, if_neg e]; exact nt_none
theorem nt_pZ (R : nt_R ρ D F h0 u v h g) {p p' : Option Nat} (P : nt_V ρ D n p p') {ks : List Nat} {fk : Nat} {x : Int32} {A A' : nk_H → Option (nk_H × α)} (hK : ∀ g1 h1, nt_R ρ D F h0 u v h1 g1 → nk_N g ≤ nk_N g1 → nt_F ρ D F h0 u v k V (A g1) (A' h1)) (hks : 0 ∉ ks ∧ 20 ∉ ks := by decide) : nt_F ρ D F h0 u v k V ((nk_pZ ks fk g p x).bind A) ((nk_pZ ks fk h p' x).bind A') := by
  obtain ⟨rfl, P2⟩ := P
  cases p with
  | none => exact nt_none
  | some a =>
    have ha := (P2 a rfl).1
    have hk := R.2.1 a ha
    unfold nk_pZ
    by_cases e : nk_K g a ∈ ks ∧ (x = 0 ∨ x = 1)
    · have q := nt_ks hks e.1
      simp only [Option.map_some, Option.bind_some, hk, if_pos e]
      exact hK _ _ (nt_sI R ha q.1 q.2 fk x) (Nat.le_refl _)
    · simp only [Option.bind_some, if_neg e]; exact nt_none
theorem nt_pP (R : nt_R ρ D F h0 u v h g) {p p' : Option Nat} (P : nt_V ρ D n p p') {ks : List Nat} {fk : Nat} {x x' : Option Nat} (Q : nt_V ρ D (nk_N g) x x') {A A' : nk_H → Option (nk_H × α)} (hK : ∀ g1 h1, nt_R ρ D F h0 u v h1 g1 → nk_N g ≤ nk_N g1 → nt_F ρ D F h0 u v k V (A g1) (A' h1)) (hks : 0 ∉ ks ∧ 20 ∉ ks := by decide) : nt_F ρ D F h0 u v k V ((nk_pP ks fk g p x).bind A) ((nk_pP ks fk h p' x').bind A') := by
  obtain ⟨rfl, P2⟩ := P
  cases p with
  | none => exact nt_none
  | some a =>
    have ha := (P2 a rfl).1
    have hk := R.2.1 a ha
    unfold nk_pP
    by_cases e : nk_K g a ∈ ks
    · have q := nt_ks hks e
      simp only [Option.map_some, Option.bind_some, hk, if_pos e]
      exact hK _ _ (nt_sP R ha q.1 q.2 fk Q) (Nat.le_refl _)
    · simp only [Option.bind_some, if_neg e]; exact nt_none
theorem nt_wI (R : nt_R ρ D F h0 u v h g) {p p' : Option Nat} (P : nt_V ρ D n p p') {i x : Int32} {A A' : nk_H → Option (nk_H × α)} (hK : ∀ g1 h1, nt_R ρ D F h0 u v h1 g1 → nk_N g ≤ nk_N g1 → nt_F ρ D F h0 u v k V (A g1) (A' h1)) : nt_F ρ D F h0 u v k V ((nk_wI g p i x).bind A) ((nk_wI h p' i x).bind A') := by
  obtain ⟨rfl, P2⟩ := P
  cases p with
  | none => exact nt_none
  | some a =>
    have ha := (P2 a rfl).1
    have hk := R.2.1 a ha
    unfold nk_wI
    by_cases e : nk_K g a = 1 ∧ ¬ i < 0 ∧ i.toNatClampNeg < nk_L g a
    · have k0 : nk_K g a ≠ 0 := by omega
      have k1 : nk_K g a ≠ 20 := by omega
      have e' : nk_K h (ρ a) = 1 ∧ ¬ i < 0 ∧ i.toNatClampNeg < nk_L h (ρ a) := by rw [hk, (R.2.2.1 a ha k0 k1).1]; exact e
      simp only [Option.map_some, Option.bind_some, if_pos e, if_pos e']
      exact hK _ _ (nt_sI R ha k0 k1 _ _) (Nat.le_refl _)
    · simp only [Option.bind_some, if_neg e]; exact nt_none
theorem nt_wZ (R : nt_R ρ D F h0 u v h g) {p p' : Option Nat} (P : nt_V ρ D n p p') {i x : Int32} {A A' : nk_H → Option (nk_H × α)} (hK : ∀ g1 h1, nt_R ρ D F h0 u v h1 g1 → nk_N g ≤ nk_N g1 → nt_F ρ D F h0 u v k V (A g1) (A' h1)) : nt_F ρ D F h0 u v k V ((nk_wZ g p i x).bind A) ((nk_wZ h p' i x).bind A') := by
  obtain ⟨rfl, P2⟩ := P
  cases p with
  | none => exact nt_none
  | some a =>
    have ha := (P2 a rfl).1
    have hk := R.2.1 a ha
    unfold nk_wZ
    by_cases e : nk_K g a = 2 ∧ ¬ i < 0 ∧ i.toNatClampNeg < nk_L g a
    · have k0 : nk_K g a ≠ 0 := by omega
      have k1 : nk_K g a ≠ 20 := by omega
      have e' : nk_K h (ρ a) = 2 ∧ ¬ i < 0 ∧ i.toNatClampNeg < nk_L h (ρ a) := by rw [hk, (R.2.2.1 a ha k0 k1).1]; exact e
      simp only [Option.map_some, Option.bind_some, if_pos e, if_pos e']
      exact hK _ _ (nt_sI R ha k0 k1 _ _) (Nat.le_refl _)
    · simp only [Option.bind_some, if_neg e]; exact nt_none
theorem nt_okv (R : nt_R ρ D F h0 u v h g) {p p' : Option Nat} (P : nt_V ρ D n p p') (c : Nat) : nk_okv c h p' = nk_okv c g p := by
  obtain ⟨rfl, P2⟩ := P
  cases p with
  | none => rfl
  | some a =>
    show (if c = 3 then nk_K h (ρ a) == 9 else _) = (if c = 3 then nk_K g a == 9 else _)
    rw [R.2.1 a (P2 a rfl).1]
theorem nt_wP (R : nt_R ρ D F h0 u v h g) {p p' : Option Nat} (P : nt_V ρ D n p p') {c : Nat} {i : Int32} {x x' : Option Nat} (Q : nt_V ρ D (nk_N g) x x') {A A' : nk_H → Option (nk_H × α)} (hK : ∀ g1 h1, nt_R ρ D F h0 u v h1 g1 → nk_N g ≤ nk_N g1 → nt_F ρ D F h0 u v k V (A g1) (A' h1)) (hc : c ≠ 0 ∧ c ≠ 20 := by decide) : nt_F ρ D F h0 u v k V ((nk_wP c g p i x).bind A) ((nk_wP c h p' i x').bind A') := by
  have ok := nt_okv R Q c
  obtain ⟨rfl, P2⟩ := P
  cases p with
  | none => exact nt_none
  | some a =>
    have ha := (P2 a rfl).1
    have hk := R.2.1 a ha
    unfold nk_wP
    by_cases e : nk_K g a = c ∧ ¬ i < 0 ∧ i.toNatClampNeg < nk_L g a ∧ nk_okv c g x = true
    · have k0 : nk_K g a ≠ 0 := by rw [e.1]; exact hc.1
      have k1 : nk_K g a ≠ 20 := by rw [e.1]; exact hc.2
      have e' : nk_K h (ρ a) = c ∧ ¬ i < 0 ∧ i.toNatClampNeg < nk_L h (ρ a) ∧ nk_okv c h x' = true := by rw [hk, (R.2.2.1 a ha k0 k1).1, ok]; exact e
      simp only [Option.map_some, Option.bind_some, if_pos e, if_pos e']
      exact hK _ _ (nt_sP R ha k0 k1 _ Q) (Nat.le_refl _)
    · simp only [Option.bind_some, if_neg e]; exact nt_none
theorem nt_al (R : nt_R ρ D F h0 u v h g) {c n w : Nat} {A A' : nk_H → Option (nk_H × α)} (hK : ∀ g1 h1, nt_R ρ D F h0 u v h1 g1 → nk_N g + 1 ≤ nk_N g1 → nt_F ρ D F h0 u v k V (A g1) (A' h1)) : nt_F ρ D F h0 u v k V ((some (nk_al g c n w)).bind A) ((some (nk_al h c n w)).bind A') := hK _ _ (nt_alR R c n w) (Nat.le_refl _)
theorem nt_na (R : nt_R ρ D F h0 u v h g) {c : Nat} {n : Int32} {A A' : nk_H → Option (nk_H × α)} (hK : ∀ g1 h1, nt_R ρ D F h0 u v h1 g1 → nk_N g + 1 ≤ nk_N g1 → nt_F ρ D F h0 u v k V (A g1) (A' h1)) : nt_F ρ D F h0 u v k V ((nk_na c g n).bind A) ((nk_na c h n).bind A') := by
  unfold nk_na
  by_cases e : ¬ n < 0 ∧ n.toNatClampNeg ≤ 65536
  · simp only [if_pos e, Option.bind_some]; exact hK _ _ (nt_alR R _ _ _) (Nat.le_refl _)
  · simp only [if_neg e]; exact nt_none
theorem nt_cPR (R : nt_R ρ D F h0 u v h g) {a0 a : Nat} (h0a : D a0) (k2 : nk_K g a0 ≠ 0) (k3 : nk_K g a0 ≠ 20) (ha : D a) (k0 : nk_K g a ≠ 0) (k1 : nk_K g a ≠ 20) (sp dp n : Nat) : nt_R ρ D F h0 u v (nk_cP h (ρ a) (va_cpy (nk_P h (ρ a0)) (nk_P h (ρ a)) sp dp n)) (nk_cP g a (va_cpy (nk_P g a0) (nk_P g a) sp dp n)) := by
  obtain ⟨r1, r2, r3, r4, r5, r7, r8⟩ := R
  obtain ⟨-, -, s3, s4⟩ := r3 a0 h0a k2 k3
  have hP : ∀ (x : nk_H) (y : Nat) (f : Nat → Option Nat), nk_P (nk_cP x y f) = nk_u1 (nk_P x) y f := fun _ _ _ => rfl
  refine ⟨r1, r2, fun b hb b0 b1 => ?_, r4, r5, r7, fun y hy => ?_⟩
  · obtain ⟨q1, q2, q3, q4⟩ := r3 b hb b0 b1
    refine ⟨q1, q2, fun j => ?_, fun j c hc => ?_⟩
    · rw [hP, hP]
      by_cases e : b = a
      · subst e
        rw [nk_u1_eq, nk_u1_eq]
        unfold va_cpy
        by_cases ej : dp ≤ j ∧ j < dp + n
        · rw [if_pos ej, if_pos ej]; exact s3 _
        · rw [if_neg ej, if_neg ej]; exact q3 j
      · rw [nk_u1_ne _ _ _ e, nk_u1_ne _ _ _ (fun z => e (r1 b a hb ha z))]; exact q3 j
    · rw [hP] at hc
      by_cases e : b = a
      · subst e
        rw [nk_u1_eq] at hc
        unfold va_cpy at hc
        by_cases ej : dp ≤ j ∧ j < dp + n
        · rw [if_pos ej] at hc; exact s4 _ c hc
        · rw [if_neg ej] at hc; exact q4 j c hc
      · rw [nk_u1_ne _ _ _ e] at hc; exact q4 j c hc
  · obtain ⟨q1, q2, q3, q4, q5, q6⟩ := r8 y hy
    refine ⟨q1, q2, q3, q4, q5, fun j => ?_⟩
    rw [hP, nk_u1_ne _ _ _ (fun z => q2 a ha k0 k1 z.symm)]; exact q6 j
theorem nt_cpP (R : nt_R ρ D F h0 u v h g) {p p' q q' : Option Nat} (P : nt_V ρ D n p p') (Q : nt_V ρ D n' q q') {sp dp n : Int32} {A A' : nk_H → Option (nk_H × α)} (hK : ∀ g1 h1, nt_R ρ D F h0 u v h1 g1 → nk_N g ≤ nk_N g1 → nt_F ρ D F h0 u v k V (A g1) (A' h1)) : nt_F ρ D F h0 u v k V ((nk_cpP g p sp q dp n).bind A) ((nk_cpP h p' sp q' dp n).bind A') := by
  obtain ⟨rfl, P2⟩ := P
  obtain ⟨rfl, Q2⟩ := Q
  cases p with
  | none => exact nt_none
  | some a0 =>
    cases q with
    | none => exact nt_none
    | some a =>
      have h1 := (P2 a0 rfl).1
      have h2 := (Q2 a rfl).1
      have hk1 := R.2.1 a0 h1
      have hk2 := R.2.1 a h2
      unfold nk_cpP
      by_cases e : nk_K g a0 = 4 ∧ nk_K g a = 4 ∧ a0 ≠ a ∧ nk_rg g a0 a sp dp n = true ∧ (List.range n.toNatClampNeg).all (fun j => nk_okv 4 g (nk_P g a0 (sp.toNatClampNeg + j))) = true
      · obtain ⟨e1, e2, e3, e4, e5⟩ := e
        obtain ⟨l1, -, p1, p2⟩ := R.2.2.1 a0 h1 (by omega) (by omega)
        obtain ⟨l2, -⟩ := R.2.2.1 a h2 (by omega) (by omega)
        have e' : nk_K h (ρ a0) = 4 ∧ nk_K h (ρ a) = 4 ∧ ρ a0 ≠ ρ a ∧ nk_rg h (ρ a0) (ρ a) sp dp n = true ∧ (List.range n.toNatClampNeg).all (fun j => nk_okv 4 h (nk_P h (ρ a0) (sp.toNatClampNeg + j))) = true := by
          refine ⟨by rw [hk1]; exact e1, by rw [hk2]; exact e2, fun z => e3 (R.1 a0 a h1 h2 z), ?_, ?_⟩
          · unfold nk_rg; rw [l1, l2]; exact e4
          · rw [← e5]
            congr 1
            funext j
            exact nt_okv R ⟨p1 _, fun b hb => p2 _ b hb⟩ 4
        simp only [Option.map_some, Option.bind_some, if_pos (And.intro e1 (And.intro e2 (And.intro e3 (And.intro e4 e5)))), if_pos e']
        exact hK _ _ (nt_cPR R h1 (by omega) (by omega) h2 (by omega) (by omega) _ _ _) (Nat.le_refl _)
      · simp only [Option.bind_some, if_neg e]; exact nt_none
theorem nt_cpI (R : nt_R ρ D F h0 u v h g) {p p' q q' : Option Nat} (P : nt_V ρ D n p p') (Q : nt_V ρ D n' q q') {sp dp n : Int32} {A A' : nk_H → Option (nk_H × α)} (hK : ∀ g1 h1, nt_R ρ D F h0 u v h1 g1 → nk_N g ≤ nk_N g1 → nt_F ρ D F h0 u v k V (A g1) (A' h1)) : nt_F ρ D F h0 u v k V ((nk_cpI g p sp q dp n).bind A) ((nk_cpI h p' sp q' dp n).bind A') := by
  obtain ⟨rfl, P2⟩ := P
  obtain ⟨rfl, Q2⟩ := Q
  cases p with
  | none => exact nt_none
  | some a0 =>
    cases q with
    | none => exact nt_none
    | some a =>
      have h1 := (P2 a0 rfl).1
      have h2 := (Q2 a rfl).1
      have hk1 := R.2.1 a0 h1
      have hk2 := R.2.1 a h2
      unfold nk_cpI
      by_cases e : nk_K g a0 = 1 ∧ nk_K g a = 1 ∧ a0 ≠ a ∧ nk_rg g a0 a sp dp n = true
      · obtain ⟨e1, e2, e3, e4⟩ := e
        obtain ⟨l1, i1, -⟩ := R.2.2.1 a0 h1 (by omega) (by omega)
        obtain ⟨l2, -⟩ := R.2.2.1 a h2 (by omega) (by omega)
        have e' : nk_K h (ρ a0) = 1 ∧ nk_K h (ρ a) = 1 ∧ ρ a0 ≠ ρ a ∧ nk_rg h (ρ a0) (ρ a) sp dp n = true := by
          refine ⟨by rw [hk1]; exact e1, by rw [hk2]; exact e2, fun z => e3 (R.1 a0 a h1 h2 z), ?_⟩
          unfold nk_rg; rw [l1, l2]; exact e4
        simp only [Option.map_some, Option.bind_some, if_pos (And.intro e1 (And.intro e2 (And.intro e3 e4))), if_pos e']
        refine hK _ _ ?_ (Nat.le_refl _)
        obtain ⟨r1, r2, r3, r4, r5, r7, r8⟩ := R
        have hI : ∀ (x : nk_H) (y : Nat) (f : Nat → Int32), nk_I (nk_cI x y f) = nk_u1 (nk_I x) y f := fun _ _ _ => rfl
        refine ⟨r1, r2, fun b hb b0 b1 => ?_, r4, r5, r7, fun y hy => ?_⟩
        · obtain ⟨q1, q2, q3, q4⟩ := r3 b hb b0 b1
          refine ⟨q1, fun j => ?_, q3, q4⟩
          rw [hI, hI]
          by_cases e : b = a
          · subst e
            rw [nk_u1_eq, nk_u1_eq]
            unfold va_cpy
            by_cases ej : dp.toNatClampNeg ≤ j ∧ j < dp.toNatClampNeg + n.toNatClampNeg
            · rw [if_pos ej, if_pos ej]; exact i1 _
            · rw [if_neg ej, if_neg ej]; exact q2 j
          · rw [nk_u1_ne _ _ _ e, nk_u1_ne _ _ _ (fun z => e (r1 b a hb h2 z))]; exact q2 j
        · obtain ⟨q1, q2, q3, q4, q5, q6⟩ := r8 y hy
          refine ⟨q1, q2, q3, q4, fun j => ?_, q6⟩
          rw [hI, nk_u1_ne _ _ _ (fun z => q2 a h2 (by omega) (by omega) z.symm)]; exact q5 j
      · simp only [Option.bind_some, if_neg e]; exact nt_none
theorem nt_mnR (R : nt_R ρ D F h0 u v h g) (n k : Nat) : nt_R ρ D F h0 u v (nk_mn h n k) (nk_mn g n k) := by
  obtain ⟨r1, r2, r3, r4, r5, r7, r8⟩ := R
  have new : ∀ a, D a → ((nk_N g ≤ a ∧ ρ a = nk_N h + (a - nk_N g)) ∨ (a < nk_N g ∧ ∀ i, ρ a ≠ nk_N h + i)) := fun a ha => by
    by_cases e : nk_N g ≤ a
    · left
      have := (r4 (a - nk_N g)).2.1
      rw [show nk_N g + (a - nk_N g) = a by omega] at this
      exact ⟨e, this⟩
    · right
      refine ⟨by omega, fun i z => ?_⟩
      have := r1 a (nk_N g + i) ha (r4 i).1 (by rw [z, (r4 i).2.1])
      omega
  have hK : ∀ x y, nk_K (nk_mn x n k) y = if y = nk_N x then 5 else if nk_N x < y ∧ y ≤ nk_N x + n then 1 else nk_K x y := fun _ _ => rfl
  have hI : ∀ x y j, nk_I (nk_mn x n k) y j = if nk_N x ≤ y ∧ y ≤ nk_N x + n then 0 else nk_I x y j := fun _ _ _ => rfl
  have hP : ∀ x y j, nk_P (nk_mn x n k) y j = if y = nk_N x then (if j < n then some (nk_N x + 1 + j) else none) else if nk_N x < y ∧ y ≤ nk_N x + n then none else nk_P x y j := fun _ _ _ => rfl
  have hL : ∀ x y, nk_L (nk_mn x n k) y = if y = nk_N x then n else if nk_N x < y ∧ y ≤ nk_N x + n then k else nk_L x y := fun _ _ => rfl
  refine ⟨r1, fun a ha => ?_, fun a ha k0 k1 => ?_, fun i => ?_, ⟨r5.1, r5.2.1, r5.2.2.1, by show nk_E g < nk_N g + 1 + n; omega⟩, ?_, fun x hx => ?_⟩
  · rw [hK, hK]
    rcases new a ha with ⟨e1, e2⟩ | ⟨e1, e2⟩
    · by_cases c1 : a = nk_N g
      · rw [if_pos c1, if_pos (by omega)]
      · rw [if_neg c1, if_neg (by omega)]
        by_cases c2 : nk_N g < a ∧ a ≤ nk_N g + n
        · rw [if_pos c2, if_pos (by omega)]
        · rw [if_neg c2, if_neg (by omega)]; exact r2 a ha
    · have z0 := e2 (ρ a - nk_N h)
      rw [if_neg (by omega), if_neg (by omega), if_neg (by omega), if_neg (by omega)]; exact r2 a ha
  · rw [hL, hL]
    rw [hK] at k0 k1
    rcases new a ha with ⟨e1, e2⟩ | ⟨e1, e2⟩
    · by_cases c1 : a = nk_N g
      · subst c1
        have c3 : ρ (nk_N g) = nk_N h := by omega
        rw [if_pos rfl, if_pos c3]
        refine ⟨rfl, fun j => ?_, fun j => ?_, fun j b hb => ?_⟩
        · rw [hI, hI, if_pos (by omega), if_pos (by omega)]
        · rw [hP, hP, if_pos rfl, if_pos c3]
          by_cases c4 : j < n
          · rw [if_pos c4, if_pos c4, Option.map_some]
            have := (r4 (1 + j)).2.1
            rw [show nk_N g + 1 + j = nk_N g + (1 + j) by omega, this, show nk_N h + (1 + j) = nk_N h + 1 + j by omega]
          · rw [if_neg c4, if_neg c4]; rfl
        · rw [hP, if_pos rfl] at hb
          by_cases c4 : j < n
          · rw [if_pos c4] at hb
            cases hb
            have := (r4 (1 + j)).1
            rw [show nk_N g + 1 + j = nk_N g + (1 + j) by omega]
            exact ⟨this, by show nk_N g + (1 + j) < nk_N g + 1 + n; omega⟩
          · rw [if_neg c4] at hb; cases hb
      · rw [if_neg c1, if_neg (show ¬ ρ a = nk_N h by omega)]
        rw [if_neg c1] at k0 k1
        by_cases c2 : nk_N g < a ∧ a ≤ nk_N g + n
        · have c3 : nk_N h < ρ a ∧ ρ a ≤ nk_N h + n := by omega
          rw [if_pos c2, if_pos c3]
          refine ⟨rfl, fun j => ?_, fun j => ?_, fun j b hb => ?_⟩
          · rw [hI, hI, if_pos (by omega), if_pos (by omega)]
          · rw [hP, hP, if_neg c1, if_neg (by omega), if_pos c2, if_pos c3]; rfl
          · rw [hP, if_neg c1, if_pos c2] at hb; cases hb
        · exfalso
          rw [if_neg c2] at k0
          have := (r4 (a - nk_N g)).2.2
          rw [show nk_N g + (a - nk_N g) = a by omega] at this
          exact k0 this
    · have z0 := e2 (ρ a - nk_N h)
      have c1 : ¬ a = nk_N g := by omega
      have c2 : ¬ (nk_N g < a ∧ a ≤ nk_N g + n) := by omega
      have c3 : ¬ ρ a = nk_N h := by omega
      have c4 : ¬ (nk_N h < ρ a ∧ ρ a ≤ nk_N h + n) := by omega
      rw [if_neg c1, if_neg c2] at k0 k1
      rw [if_neg c1, if_neg c2, if_neg c3, if_neg c4]
      obtain ⟨q1, q2, q3, q4⟩ := r3 a ha k0 k1
      refine ⟨q1, fun j => ?_, fun j => ?_, fun j b hb => ?_⟩
      · rw [hI, hI, if_neg (by omega), if_neg (by omega)]; exact q2 j
      · rw [hP, hP, if_neg c1, if_neg c2, if_neg c3, if_neg c4]; exact q3 j
      · rw [hP, if_neg c1, if_neg c2] at hb; exact ⟨(q4 j b hb).1, by show b < nk_N g + 1 + n; have := (q4 j b hb).2; omega⟩
  · have e1 : nk_N (nk_mn g n k) = nk_N g + 1 + n := rfl
    have e2 : nk_N (nk_mn h n k) = nk_N h + 1 + n := rfl
    rw [e1, e2, hK, show nk_N g + 1 + n + i = nk_N g + (1 + n + i) by omega, if_neg (by omega), if_neg (by omega)]
    obtain ⟨q1, q2, q3⟩ := r4 (1 + n + i)
    exact ⟨q1, by rw [q2]; omega, q3⟩
  · have e1 : nk_S (nk_mn g n k) = nk_S g + n + n * k := rfl
    have e2 : nk_S (nk_mn h n k) = nk_S h + n + n * k := rfl
    have e3 : nk_N (nk_mn h n k) = nk_N h + 1 + n := rfl
    rw [e1, e2, e3]; omega
  · obtain ⟨q1, q2, q3, q4, q5, q6⟩ := r8 x hx
    have e2 : nk_N (nk_mn h n k) = nk_N h + 1 + n := rfl
    rw [e2, hK, hL, if_neg (by omega), if_neg (by omega), if_neg (by omega), if_neg (by omega)]
    refine ⟨by omega, fun a ha k0 k1 => ?_, q3, q4, fun j => ?_, fun j => ?_⟩
    · rcases new a ha with ⟨e1, e2⟩ | ⟨e1, e2⟩
      · omega
      · rw [hK, if_neg (by omega), if_neg (by omega)] at k0 k1
        exact q2 a ha k0 k1
    · rw [hI, if_neg (by omega)]; exact q5 j
    · rw [hP, if_neg (by omega), if_neg (by omega)]; exact q6 j
theorem nt_mna (R : nt_R ρ D F h0 u v h g) {n k9 : Int32} {A A' : nk_H → Option (nk_H × α)} (hK : ∀ g1 h1, nt_R ρ D F h0 u v h1 g1 → nk_N g + 1 ≤ nk_N g1 → nt_F ρ D F h0 u v k V (A g1) (A' h1)) : nt_F ρ D F h0 u v k V ((nk_mna g n k9).bind A) ((nk_mna h n k9).bind A') := by
  unfold nk_mna
  by_cases e : ¬ n < 0 ∧ ¬ k9 < 0 ∧ n.toNatClampNeg ≤ 65536 ∧ k9.toNatClampNeg ≤ 65536
  · simp only [if_pos e, Option.bind_some]; exact hK _ _ (nt_mnR R _ _) (by show nk_N g + 1 ≤ nk_N g + 1 + _; omega)
  · simp only [if_neg e]; exact nt_none
end NT
end
section
/-! ===== naturality, function by function (by program: wip/p44/gen/gen_nat.py) ===== -/
theorem n_J6_bitCount_0f7a4 {ρ : Nat → Nat} {D F : Nat → Prop} {h0 : nk_H} {u v : Nat}   {h yh : nk_H} (Rh : nt_R ρ D F h0 u v yh h) (v0 : Int32) : nt_F ρ D F h0 u v (nk_N h) nt_q (f_J6_bitCount_0f7a4 h v0) (f_J6_bitCount_0f7a4 yh v0) := by
  unfold f_J6_bitCount_0f7a4
  exact nt_ret Rh rfl (by omega)
theorem n_Jxa1e45_init_da8c8 {ρ : Nat → Nat} {D F : Nat → Prop} {h0 : nk_H} {u v : Nat}   {h yh : nk_H} (Rh : nt_R ρ D F h0 u v yh h) {t0 yt0 : Nat} (At0 : nt_A ρ D (nk_N h) t0 yt0) : nt_F ρ D F h0 u v (nk_N h) nt_q (f_Jxa1e45_init_da8c8 h t0) (f_Jxa1e45_init_da8c8 yh yt0) := by
  unfold f_Jxa1e45_init_da8c8
  exact nt_ret Rh rfl (by omega)
theorem n_Jxc12de_init_da8c8 {ρ : Nat → Nat} {D F : Nat → Prop} {h0 : nk_H} {u v : Nat}   {h yh : nk_H} (Rh : nt_R ρ D F h0 u v yh h) {t0 yt0 : Nat} (At0 : nt_A ρ D (nk_N h) t0 yt0) : nt_F ρ D F h0 u v (nk_N h) nt_q (f_Jxc12de_init_da8c8 h t0) (f_Jxc12de_init_da8c8 yh yt0) := by
  unfold f_Jxc12de_init_da8c8
  refine nt_doE (n_Jxa1e45_init_da8c8 Rh (nt_am At0 (by omega))) (fun h1 yh1 x2 Rh1 Lh1 => ?_)
  refine nt_pI Rh1 (nt_vS At0) (fun h3 yh3 Rh3 Lh3 => ?_)
  exact nt_ret Rh3 rfl (by omega)
theorem n_Jx4a65c_init_da8c8 {ρ : Nat → Nat} {D F : Nat → Prop} {h0 : nk_H} {u v : Nat}   {h yh : nk_H} (Rh : nt_R ρ D F h0 u v yh h) {t0 yt0 : Nat} (At0 : nt_A ρ D (nk_N h) t0 yt0) : nt_F ρ D F h0 u v (nk_N h) nt_q (f_Jx4a65c_init_da8c8 h t0) (f_Jx4a65c_init_da8c8 yh yt0) := by
  unfold f_Jx4a65c_init_da8c8
  refine nt_doE (n_Jxc12de_init_da8c8 Rh (nt_am At0 (by omega))) (fun h1 yh1 x2 Rh1 Lh1 => ?_)
  refine nt_pP Rh1 (nt_vS At0) (nt_vE Rh1 (by omega)) (fun h3 yh3 Rh3 Lh3 => ?_)
  exact nt_ret Rh3 rfl (by omega)
theorem n_J8_hugeLength_7cf53 {ρ : Nat → Nat} {D F : Nat → Prop} {h0 : nk_H} {u v : Nat}   {h yh : nk_H} (Rh : nt_R ρ D F h0 u v yh h) (v0 : Int32) (v1 : Int32) : nt_F ρ D F h0 u v (nk_N h) nt_q (f_J8_hugeLength_7cf53 h v0 v1) (f_J8_hugeLength_7cf53 yh v0 v1) := by
  unfold f_J8_hugeLength_7cf53
  refine nt_ite ?_ ?_
  · refine nt_ite ?_ ?_
    · exact nt_ret Rh rfl (by omega)
    · exact nt_ret Rh rfl (by omega)
  · exact nt_none
theorem n_J8_newLength_cabcc_c21 {ρ : Nat → Nat} {D F : Nat → Prop} {h0 : nk_H} {u v : Nat}   {h yh : nk_H} (Rh : nt_R ρ D F h0 u v yh h) (v0 : Int32) (v1 : Int32) : nt_F ρ D F h0 u v (nk_N h) nt_q (f_J8_newLength_cabcc_c21 h v0 v1) (f_J8_newLength_cabcc_c21 yh v0 v1) := by
  unfold f_J8_newLength_cabcc_c21
  refine nt_doE (n_J8_hugeLength_7cf53 Rh _ _) (fun h1 yh1 x2 Rh1 Lh1 => ?_)
  exact nt_ret Rh1 rfl (by omega)
theorem n_J8_newLength_cabcc {ρ : Nat → Nat} {D F : Nat → Prop} {h0 : nk_H} {u v : Nat}   {h yh : nk_H} (Rh : nt_R ρ D F h0 u v yh h) (v0 : Int32) (v1 : Int32) (v2 : Int32) : nt_F ρ D F h0 u v (nk_N h) nt_q (f_J8_newLength_cabcc h v0 v1 v2) (f_J8_newLength_cabcc yh v0 v1 v2) := by
  unfold f_J8_newLength_cabcc
  refine nt_ite ?_ ?_
  · exact nt_fk (n_J8_newLength_cabcc_c21 Rh _ _) (by omega)
  · refine nt_ite ?_ ?_
    · exact nt_fk (n_J8_newLength_cabcc_c21 Rh _ _) (by omega)
    · exact nt_ret Rh rfl (by omega)
theorem n_J7_copyOf_6403c {ρ : Nat → Nat} {D F : Nat → Prop} {h0 : nk_H} {u v : Nat}   {h yh : nk_H} (Rh : nt_R ρ D F h0 u v yh h) {v0 yv0 : Option Nat} (Vv0 : nt_V ρ D (nk_N h) v0 yv0) (v1 : Int32) {v2 yv2 : Option Nat} (Vv2 : (v2 = some (nk_M h)) ↔ (yv2 = some (nk_M yh))) : nt_F ρ D F h0 u v (nk_N h) (nt_V ρ D) (f_J7_copyOf_6403c h v0 v1 v2) (f_J7_copyOf_6403c yh yv0 v1 yv2) := by
  unfold f_J7_copyOf_6403c
  refine nt_iteP Vv2 ?_ ?_
  · refine nt_na Rh (fun h1 yh1 Rh1 Lh1 => ?_)
    refine nt_len Rh1 Vv0 (fun x2 => ?_)
    refine nt_cpP Rh1 Vv0 (nt_vN Rh (Nat.lt_succ_self _)) (fun h3 yh3 Rh3 Lh3 => ?_)
    exact nt_ret Rh3 (nt_vN Rh (by omega)) (by omega)
  · exact nt_none
theorem n_J7_copyOf_1904c {ρ : Nat → Nat} {D F : Nat → Prop} {h0 : nk_H} {u v : Nat}   {h yh : nk_H} (Rh : nt_R ρ D F h0 u v yh h) {v0 yv0 : Option Nat} (Vv0 : nt_V ρ D (nk_N h) v0 yv0) (v1 : Int32) : nt_F ρ D F h0 u v (nk_N h) (nt_V ρ D) (f_J7_copyOf_1904c h v0 v1) (f_J7_copyOf_1904c yh yv0 v1) := by
  unfold f_J7_copyOf_1904c
  refine nt_gc Rh Vv0 (fun x1 yx1 Vx1 => ?_)
  refine nt_doV (n_J7_copyOf_6403c Rh (nt_vm Vv0 (by omega)) _ Vx1) (fun h2 yh2 x3 yx3 Rh2 Vx3 Lh2 => ?_)
  exact nt_ret Rh2 (nt_vm Vx3 (by omega)) (by omega)
theorem n_Jx4a65c_grow_92f84_c20 {ρ : Nat → Nat} {D F : Nat → Prop} {h0 : nk_H} {u v : Nat}   {h yh : nk_H} (Rh : nt_R ρ D F h0 u v yh h) {t0 yt0 : Nat} (At0 : nt_A ρ D (nk_N h) t0 yt0) (v1 : Int32) (v2 : Int32) : nt_F ρ D F h0 u v (nk_N h) (nt_V ρ D) (f_Jx4a65c_grow_92f84_c20 h t0 v1 v2) (f_Jx4a65c_grow_92f84_c20 yh yt0 v1 v2) := by
  unfold f_Jx4a65c_grow_92f84_c20
  refine nt_doE (n_J8_newLength_cabcc Rh _ _ _) (fun h1 yh1 x2 Rh1 Lh1 => ?_)
  refine nt_gP Rh1 (nt_vS At0) (fun x3 yx3 Vx3 => ?_)
  refine nt_doV (n_J7_copyOf_1904c Rh1 (nt_vm Vx3 (by omega)) _) (fun h4 yh4 x5 yx5 Rh4 Vx5 Lh4 => ?_)
  refine nt_pP Rh4 (nt_vS At0) (nt_vm Vx5 (by omega)) (fun h6 yh6 Rh6 Lh6 => ?_)
  exact nt_ret Rh6 (nt_vm Vx5 (by omega)) (by omega)
theorem n_Jx4a65c_grow_92f84 {ρ : Nat → Nat} {D F : Nat → Prop} {h0 : nk_H} {u v : Nat}   {h yh : nk_H} (Rh : nt_R ρ D F h0 u v yh h) {t0 yt0 : Nat} (At0 : nt_A ρ D (nk_N h) t0 yt0) (v1 : Int32) : nt_F ρ D F h0 u v (nk_N h) (nt_V ρ D) (f_Jx4a65c_grow_92f84 h t0 v1) (f_Jx4a65c_grow_92f84 yh yt0 v1) := by
  unfold f_Jx4a65c_grow_92f84
  refine nt_gP Rh (nt_vS At0) (fun x7 yx7 Vx7 => ?_)
  refine nt_len Rh Vx7 (fun x8 => ?_)
  refine nt_ite ?_ ?_
  · exact nt_fk (n_Jx4a65c_grow_92f84_c20 Rh (nt_am At0 (by omega)) _ _) (by omega)
  · refine nt_gP Rh (nt_vS At0) (fun x9 yx9 Vx9 => ?_)
    refine nt_iteP (nt_eq Rh Vx9 (nt_vE Rh (Nat.le_refl _))) ?_ ?_
    · refine nt_na Rh (fun h10 yh10 Rh10 Lh10 => ?_)
      refine nt_pP Rh10 (nt_vS At0) (nt_vN Rh (by omega)) (fun h11 yh11 Rh11 Lh11 => ?_)
      exact nt_ret Rh11 (nt_vN Rh (by omega)) (by omega)
    · exact nt_fk (n_Jx4a65c_grow_92f84_c20 Rh (nt_am At0 (by omega)) _ _) (by omega)
theorem n_Jx4a65c_grow_d5877 {ρ : Nat → Nat} {D F : Nat → Prop} {h0 : nk_H} {u v : Nat}   {h yh : nk_H} (Rh : nt_R ρ D F h0 u v yh h) {t0 yt0 : Nat} (At0 : nt_A ρ D (nk_N h) t0 yt0) : nt_F ρ D F h0 u v (nk_N h) (nt_V ρ D) (f_Jx4a65c_grow_d5877 h t0) (f_Jx4a65c_grow_d5877 yh yt0) := by
  unfold f_Jx4a65c_grow_d5877
  refine nt_gI Rh (nt_vS At0) (fun x1 => ?_)
  refine nt_rcv Rh (nt_vS At0) (fun a2 ya2 Aa2 => ?_)
  refine nt_doV (n_Jx4a65c_grow_92f84 Rh (nt_am Aa2 (by omega)) _) (fun h3 yh3 x4 yx4 Rh3 Vx4 Lh3 => ?_)
  exact nt_ret Rh3 (nt_vm Vx4 (by omega)) (by omega)
theorem n_Jx4a65c_size_8abf5 {ρ : Nat → Nat} {D F : Nat → Prop} {h0 : nk_H} {u v : Nat}   {h yh : nk_H} (Rh : nt_R ρ D F h0 u v yh h) {t0 yt0 : Nat} (At0 : nt_A ρ D (nk_N h) t0 yt0) : nt_F ρ D F h0 u v (nk_N h) nt_q (f_Jx4a65c_size_8abf5 h t0) (f_Jx4a65c_size_8abf5 yh yt0) := by
  unfold f_Jx4a65c_size_8abf5
  refine nt_gI Rh (nt_vS At0) (fun x1 => ?_)
  exact nt_ret Rh rfl (by omega)
theorem n_Jx4a65c_elementData_915e3 {ρ : Nat → Nat} {D F : Nat → Prop} {h0 : nk_H} {u v : Nat}   {h yh : nk_H} (Rh : nt_R ρ D F h0 u v yh h) {t0 yt0 : Nat} (At0 : nt_A ρ D (nk_N h) t0 yt0) (v1 : Int32) : nt_F ρ D F h0 u v (nk_N h) (nt_V ρ D) (f_Jx4a65c_elementData_915e3 h t0 v1) (f_Jx4a65c_elementData_915e3 yh yt0 v1) := by
  unfold f_Jx4a65c_elementData_915e3
  refine nt_gP Rh (nt_vS At0) (fun x1 yx1 Vx1 => ?_)
  refine nt_aP Rh Vx1 (fun x2 yx2 Vx2 => ?_)
  exact nt_ret Rh (nt_vm Vx2 (by omega)) (by omega)
theorem n_J3_checkIndex_8e157_c9 {ρ : Nat → Nat} {D F : Nat → Prop} {h0 : nk_H} {u v : Nat}   {h yh : nk_H} (Rh : nt_R ρ D F h0 u v yh h) (v0 : Int32) (v1 : Int32) {v2 yv2 : Option Nat} (Vv2 : nt_V ρ D (nk_N h) v2 yv2) : nt_F ρ D F h0 u v (nk_N h) nt_q (f_J3_checkIndex_8e157_c9 h v0 v1 v2) (f_J3_checkIndex_8e157_c9 yh v0 v1 yv2) := by
  unfold f_J3_checkIndex_8e157_c9
  exact nt_none
theorem n_J3_checkIndex_8e157 {ρ : Nat → Nat} {D F : Nat → Prop} {h0 : nk_H} {u v : Nat}   {h yh : nk_H} (Rh : nt_R ρ D F h0 u v yh h) (v0 : Int32) (v1 : Int32) {v2 yv2 : Option Nat} (Vv2 : nt_V ρ D (nk_N h) v2 yv2) : nt_F ρ D F h0 u v (nk_N h) nt_q (f_J3_checkIndex_8e157 h v0 v1 v2) (f_J3_checkIndex_8e157 yh v0 v1 yv2) := by
  unfold f_J3_checkIndex_8e157
  refine nt_ite ?_ ?_
  · exact nt_fk (n_J3_checkIndex_8e157_c9 Rh _ _ (nt_vm Vv2 (by omega))) (by omega)
  · refine nt_ite ?_ ?_
    · exact nt_ret Rh rfl (by omega)
    · exact nt_fk (n_J3_checkIndex_8e157_c9 Rh _ _ (nt_vm Vv2 (by omega))) (by omega)
theorem n_J15_checkIndex_7cf53 {ρ : Nat → Nat} {D F : Nat → Prop} {h0 : nk_H} {u v : Nat}   {h yh : nk_H} (Rh : nt_R ρ D F h0 u v yh h) (v0 : Int32) (v1 : Int32) : nt_F ρ D F h0 u v (nk_N h) nt_q (f_J15_checkIndex_7cf53 h v0 v1) (f_J15_checkIndex_7cf53 yh v0 v1) := by
  unfold f_J15_checkIndex_7cf53
  refine nt_doE (n_J3_checkIndex_8e157 Rh _ _ nt_vn) (fun h1 yh1 x2 Rh1 Lh1 => ?_)
  exact nt_ret Rh1 rfl (by omega)
theorem n_Jx4a65c_get_915e3 {ρ : Nat → Nat} {D F : Nat → Prop} {h0 : nk_H} {u v : Nat}   {h yh : nk_H} (Rh : nt_R ρ D F h0 u v yh h) {t0 yt0 : Nat} (At0 : nt_A ρ D (nk_N h) t0 yt0) (v1 : Int32) : nt_F ρ D F h0 u v (nk_N h) (nt_V ρ D) (f_Jx4a65c_get_915e3 h t0 v1) (f_Jx4a65c_get_915e3 yh yt0 v1) := by
  unfold f_Jx4a65c_get_915e3
  refine nt_gI Rh (nt_vS At0) (fun x1 => ?_)
  refine nt_doE (n_J15_checkIndex_7cf53 Rh _ _) (fun h2 yh2 x3 Rh2 Lh2 => ?_)
  refine nt_rcv Rh2 (nt_vS At0) (fun a4 ya4 Aa4 => ?_)
  refine nt_doV (n_Jx4a65c_elementData_915e3 Rh2 (nt_am Aa4 (by omega)) _) (fun h5 yh5 x6 yx6 Rh5 Vx6 Lh5 => ?_)
  exact nt_ret Rh5 (nt_vm Vx6 (by omega)) (by omega)
theorem n_Jx4a65c_add_72be8_c11 {ρ : Nat → Nat} {D F : Nat → Prop} {h0 : nk_H} {u v : Nat}   {h yh : nk_H} (Rh : nt_R ρ D F h0 u v yh h) {t0 yt0 : Nat} (At0 : nt_A ρ D (nk_N h) t0 yt0) {v1 yv1 : Option Nat} (Vv1 : nt_V ρ D (nk_N h) v1 yv1) {v2 yv2 : Option Nat} (Vv2 : nt_V ρ D (nk_N h) v2 yv2) (v3 : Int32) : nt_F ρ D F h0 u v (nk_N h) nt_q (f_Jx4a65c_add_72be8_c11 h t0 v1 v2 v3) (f_Jx4a65c_add_72be8_c11 yh yt0 yv1 yv2 v3) := by
  unfold f_Jx4a65c_add_72be8_c11
  refine nt_wP Rh Vv2 (nt_vm Vv1 (by omega)) (fun h1 yh1 Rh1 Lh1 => ?_)
  refine nt_pI Rh1 (nt_vS At0) (fun h2 yh2 Rh2 Lh2 => ?_)
  exact nt_ret Rh2 rfl (by omega)
theorem n_Jx4a65c_add_72be8 {ρ : Nat → Nat} {D F : Nat → Prop} {h0 : nk_H} {u v : Nat}   {h yh : nk_H} (Rh : nt_R ρ D F h0 u v yh h) {t0 yt0 : Nat} (At0 : nt_A ρ D (nk_N h) t0 yt0) {v1 yv1 : Option Nat} (Vv1 : nt_V ρ D (nk_N h) v1 yv1) {v2 yv2 : Option Nat} (Vv2 : nt_V ρ D (nk_N h) v2 yv2) (v3 : Int32) : nt_F ρ D F h0 u v (nk_N h) nt_q (f_Jx4a65c_add_72be8 h t0 v1 v2 v3) (f_Jx4a65c_add_72be8 yh yt0 yv1 yv2 v3) := by
  unfold f_Jx4a65c_add_72be8
  refine nt_len Rh Vv2 (fun x3 => ?_)
  refine nt_ite ?_ ?_
  · refine nt_rcv Rh (nt_vS At0) (fun a4 ya4 Aa4 => ?_)
    refine nt_doV (n_Jx4a65c_grow_d5877 Rh (nt_am Aa4 (by omega))) (fun h5 yh5 x6 yx6 Rh5 Vx6 Lh5 => ?_)
    exact nt_fk (n_Jx4a65c_add_72be8_c11 Rh5 (nt_am At0 (by omega)) (nt_vm Vv1 (by omega)) (nt_vm Vx6 (by omega)) _) (by omega)
  · exact nt_fk (n_Jx4a65c_add_72be8_c11 Rh (nt_am At0 (by omega)) (nt_vm Vv1 (by omega)) (nt_vm Vv2 (by omega)) _) (by omega)
theorem n_Jx4a65c_add_9ea2d {ρ : Nat → Nat} {D F : Nat → Prop} {h0 : nk_H} {u v : Nat}   {h yh : nk_H} (Rh : nt_R ρ D F h0 u v yh h) {t0 yt0 : Nat} (At0 : nt_A ρ D (nk_N h) t0 yt0) {v1 yv1 : Option Nat} (Vv1 : nt_V ρ D (nk_N h) v1 yv1) : nt_F ρ D F h0 u v (nk_N h) nt_q (f_Jx4a65c_add_9ea2d h t0 v1) (f_Jx4a65c_add_9ea2d yh yt0 yv1) := by
  unfold f_Jx4a65c_add_9ea2d
  refine nt_gI Rh (nt_vS At0) (fun x1 => ?_)
  refine nt_pI Rh (nt_vS At0) (fun h2 yh2 Rh2 Lh2 => ?_)
  refine nt_gP Rh2 (nt_vS At0) (fun x3 yx3 Vx3 => ?_)
  refine nt_gI Rh2 (nt_vS At0) (fun x4 => ?_)
  refine nt_rcv Rh2 (nt_vS At0) (fun a5 ya5 Aa5 => ?_)
  refine nt_doE (n_Jx4a65c_add_72be8 Rh2 (nt_am Aa5 (by omega)) (nt_vm Vv1 (by omega)) (nt_vm Vx3 (by omega)) _) (fun h6 yh6 x7 Rh6 Lh6 => ?_)
  exact nt_zr Rh6 _ rfl (by omega)
theorem n_J7_fill_53178_c5 {ρ : Nat → Nat} {D F : Nat → Prop} {h0 : nk_H} {u v : Nat} {r5 r5' : nk_H → Option Nat → Int32 → Int32 → Int32 → Option (nk_H × Unit)} (hr5 : ∀ (g h : nk_H) (p1 q1 : Option Nat) (i2 : Int32) (i3 : Int32) (i4 : Int32), nt_R ρ D F h0 u v h g → nt_V ρ D (nk_N g) p1 q1 → nt_F ρ D F h0 u v (nk_N g) nt_q (r5 g p1 i2 i3 i4) (r5' h q1 i2 i3 i4)) {h yh : nk_H} (Rh : nt_R ρ D F h0 u v yh h) {v0 yv0 : Option Nat} (Vv0 : nt_V ρ D (nk_N h) v0 yv0) (v1 : Int32) (v2 : Int32) (v3 : Int32) : nt_F ρ D F h0 u v (nk_N h) nt_q (f_J7_fill_53178_c5 r5 h v0 v1 v2 v3) (f_J7_fill_53178_c5 r5' yh yv0 v1 v2 v3) := by
  unfold f_J7_fill_53178_c5
  refine nt_ite ?_ ?_
  · exact nt_ret Rh rfl (by omega)
  · refine nt_wI Rh Vv0 (fun h1 yh1 Rh1 Lh1 => ?_)
    exact nt_fk (hr5 _ _ _ _ _ _ _ Rh1 (nt_vm Vv0 (by omega))) (by omega)
theorem n_J7_fill_53178_b5 {ρ : Nat → Nat} {D F : Nat → Prop} {h0 : nk_H} {u v : Nat}   : ∀ (n : Nat) {g h : nk_H} (R : nt_R ρ D F h0 u v h g) {p1 q1 : Option Nat} (V1 : nt_V ρ D (nk_N g) p1 q1) (i2 : Int32) (i3 : Int32) (i4 : Int32), nt_F ρ D F h0 u v (nk_N g) nt_q (f_J7_fill_53178_b5 n g p1 i2 i3 i4) (f_J7_fill_53178_b5 n h q1 i2 i3 i4)
  | 0, _, _, _, _, _, _, _, _, _ => nt_none
  | n + 1, _, _, R, _, _, V1, i2, i3, i4 => n_J7_fill_53178_c5 (fun g h p1 q1 i2 i3 i4 R V1 => n_J7_fill_53178_b5 n R V1 i2 i3 i4) R V1 i2 i3 i4
theorem n_J7_fill_53178 {ρ : Nat → Nat} {D F : Nat → Prop} {h0 : nk_H} {u v : Nat}   {h yh : nk_H} (Rh : nt_R ρ D F h0 u v yh h) {v0 yv0 : Option Nat} (Vv0 : nt_V ρ D (nk_N h) v0 yv0) (v1 : Int32) : nt_F ρ D F h0 u v (nk_N h) nt_q (f_J7_fill_53178 h v0 v1) (f_J7_fill_53178 yh yv0 v1) := by
  unfold f_J7_fill_53178
  refine nt_len Rh Vv0 (fun x2 => ?_)
  exact nt_fk (n_J7_fill_53178_b5 _ Rh (nt_vm Vv0 (by omega)) _ _ _) (by omega)
theorem n_X8_init {ρ : Nat → Nat} {D F : Nat → Prop} {h0 : nk_H} {u v : Nat}   {h yh : nk_H} (Rh : nt_R ρ D F h0 u v yh h) {t0 yt0 : Nat} (At0 : nt_A ρ D (nk_N h) t0 yt0) : nt_F ρ D F h0 u v (nk_N h) nt_q (f_X8_init h t0) (f_X8_init yh yt0) := by
  unfold f_X8_init
  refine nt_na Rh (fun h1 yh1 Rh1 Lh1 => ?_)
  refine nt_pP Rh1 (nt_vS At0) (nt_vN Rh (by omega)) (fun h2 yh2 Rh2 Lh2 => ?_)
  refine nt_gP Rh2 (nt_vS At0) (fun x3 yx3 Vx3 => ?_)
  refine nt_doE (n_J7_fill_53178 Rh2 (nt_vm Vx3 (by omega)) _) (fun h4 yh4 x5 Rh4 Lh4 => ?_)
  exact nt_ret Rh4 rfl (by omega)
theorem n_X0_init {ρ : Nat → Nat} {D F : Nat → Prop} {h0 : nk_H} {u v : Nat}   {h yh : nk_H} (Rh : nt_R ρ D F h0 u v yh h) {t0 yt0 : Nat} (At0 : nt_A ρ D (nk_N h) t0 yt0) {v1 yv1 : Option Nat} (Vv1 : nt_V ρ D (nk_N h) v1 yv1) {v2 yv2 : Option Nat} (Vv2 : nt_V ρ D (nk_N h) v2 yv2) : nt_F ρ D F h0 u v (nk_N h) nt_q (f_X0_init h t0 v1 v2) (f_X0_init yh yt0 yv1 yv2) := by
  unfold f_X0_init
  refine nt_doE (n_X8_init Rh (nt_am At0 (by omega))) (fun h1 yh1 x2 Rh1 Lh1 => ?_)
  refine nt_pP Rh1 (nt_vS At0) (nt_vm Vv1 (by omega)) (fun h3 yh3 Rh3 Lh3 => ?_)
  refine nt_pP Rh3 (nt_vS At0) (nt_vm Vv2 (by omega)) (fun h4 yh4 Rh4 Lh4 => ?_)
  refine nt_na Rh4 (fun h5 yh5 Rh5 Lh5 => ?_)
  refine nt_pP Rh5 (nt_vS At0) (nt_vN Rh4 (by omega)) (fun h6 yh6 Rh6 Lh6 => ?_)
  refine nt_gP Rh6 (nt_vS At0) (fun x7 yx7 Vx7 => ?_)
  refine nt_gI Rh6 Vv2 (fun x8 => ?_)
  refine nt_wI Rh6 Vx7 (fun h9 yh9 Rh9 Lh9 => ?_)
  refine nt_gP Rh9 (nt_vS At0) (fun x10 yx10 Vx10 => ?_)
  refine nt_gI Rh9 Vv1 (fun x11 => ?_)
  refine nt_wI Rh9 Vx10 (fun h12 yh12 Rh12 Lh12 => ?_)
  refine nt_gP Rh12 (nt_vS At0) (fun x13 yx13 Vx13 => ?_)
  refine nt_gI Rh12 Vv2 (fun x14 => ?_)
  refine nt_wI Rh12 Vx13 (fun h15 yh15 Rh15 Lh15 => ?_)
  refine nt_gP Rh15 (nt_vS At0) (fun x16 yx16 Vx16 => ?_)
  refine nt_gI Rh15 Vv2 (fun x17 => ?_)
  refine nt_wI Rh15 Vx16 (fun h18 yh18 Rh18 Lh18 => ?_)
  refine nt_gP Rh18 (nt_vS At0) (fun x19 yx19 Vx19 => ?_)
  refine nt_gI Rh18 Vv2 (fun x20 => ?_)
  refine nt_wI Rh18 Vx19 (fun h21 yh21 Rh21 Lh21 => ?_)
  refine nt_gP Rh21 (nt_vS At0) (fun x22 yx22 Vx22 => ?_)
  refine nt_gI Rh21 Vv2 (fun x23 => ?_)
  refine nt_wI Rh21 Vx22 (fun h24 yh24 Rh24 Lh24 => ?_)
  exact nt_ret Rh24 rfl (by omega)
theorem n_X9_hasInLine_c2 {ρ : Nat → Nat} {D F : Nat → Prop} {h0 : nk_H} {u v : Nat} {r2 r2' : nk_H → Option Nat → Option Nat → Option (nk_H × Int32)} (hr2 : ∀ (g h : nk_H) (p1 q1 : Option Nat) (p2 q2 : Option Nat), nt_R ρ D F h0 u v h g → nt_V ρ D (nk_N g) p1 q1 → nt_V ρ D (nk_N g) p2 q2 → nt_F ρ D F h0 u v (nk_N g) nt_q (r2 g p1 p2) (r2' h q1 q2)) {h yh : nk_H} (Rh : nt_R ρ D F h0 u v yh h) {v1 yv1 : Option Nat} (Vv1 : nt_V ρ D (nk_N h) v1 yv1) {v2 yv2 : Option Nat} (Vv2 : nt_V ρ D (nk_N h) v2 yv2) : nt_F ρ D F h0 u v (nk_N h) nt_q (f_X9_hasInLine_c2 r2 h v1 v2) (f_X9_hasInLine_c2 r2' yh yv1 yv2) := by
  unfold f_X9_hasInLine_c2
  refine nt_iteP (nt_eq Rh Vv2 (nt_vn (n := 0))) ?_ ?_
  · exact nt_zr Rh _ rfl (by omega)
  · refine nt_iteP (nt_eq Rh Vv2 Vv1) ?_ ?_
    · exact nt_zr Rh _ rfl (by omega)
    · refine nt_gP Rh Vv2 (fun x1 yx1 Vx1 => ?_)
      exact nt_fk (hr2 _ _ _ _ _ _ Rh (nt_vm Vv1 (by omega)) (nt_vm Vx1 (by omega))) (by omega)
theorem n_X9_hasInLine_b2 {ρ : Nat → Nat} {D F : Nat → Prop} {h0 : nk_H} {u v : Nat}   : ∀ (n : Nat) {g h : nk_H} (R : nt_R ρ D F h0 u v h g) {p1 q1 : Option Nat} (V1 : nt_V ρ D (nk_N g) p1 q1) {p2 q2 : Option Nat} (V2 : nt_V ρ D (nk_N g) p2 q2), nt_F ρ D F h0 u v (nk_N g) nt_q (f_X9_hasInLine_b2 n g p1 p2) (f_X9_hasInLine_b2 n h q1 q2)
  | 0, _, _, _, _, _, _, _, _, _ => nt_none
  | n + 1, _, _, R, _, _, V1, _, _, V2 => n_X9_hasInLine_c2 (fun g h p1 q1 p2 q2 R V1 V2 => n_X9_hasInLine_b2 n R V1 V2) R V1 V2
theorem n_X9_hasInLine {ρ : Nat → Nat} {D F : Nat → Prop} {h0 : nk_H} {u v : Nat}   {h yh : nk_H} (Rh : nt_R ρ D F h0 u v yh h) {t0 yt0 : Nat} (At0 : nt_A ρ D (nk_N h) t0 yt0) {v1 yv1 : Option Nat} (Vv1 : nt_V ρ D (nk_N h) v1 yv1) : nt_F ρ D F h0 u v (nk_N h) nt_q (f_X9_hasInLine h t0 v1) (f_X9_hasInLine yh yt0 yv1) := by
  unfold f_X9_hasInLine
  exact nt_fk (n_X9_hasInLine_b2 _ Rh (nt_vm Vv1 (by omega)) (nt_vS (nt_am At0 (by omega)))) (by omega)
theorem n_X0_amountBy_c22 {ρ : Nat → Nat} {D F : Nat → Prop} {h0 : nk_H} {u v : Nat}   {h yh : nk_H} (Rh : nt_R ρ D F h0 u v yh h) (s0 : Int32) : nt_F ρ D F h0 u v (nk_N h) nt_q (f_X0_amountBy_c22 h s0) (f_X0_amountBy_c22 yh s0) := by
  unfold f_X0_amountBy_c22
  exact nt_ret Rh rfl (by omega)
theorem n_X0_amountBy {ρ : Nat → Nat} {D F : Nat → Prop} {h0 : nk_H} {u v : Nat}   {h yh : nk_H} (Rh : nt_R ρ D F h0 u v yh h) {t0 yt0 : Nat} (At0 : nt_A ρ D (nk_N h) t0 yt0) {v1 yv1 : Option Nat} (Vv1 : nt_V ρ D (nk_N h) v1 yv1) : nt_F ρ D F h0 u v (nk_N h) nt_q (f_X0_amountBy h t0 v1) (f_X0_amountBy yh yt0 yv1) := by
  unfold f_X0_amountBy
  refine nt_gP Rh (nt_vS At0) (fun x1 yx1 Vx1 => ?_)
  refine nt_rcv Rh Vx1 (fun a2 ya2 Aa2 => ?_)
  refine nt_doE (n_X9_hasInLine Rh (nt_am Aa2 (by omega)) (nt_vm Vv1 (by omega))) (fun h3 yh3 x4 Rh3 Lh3 => ?_)
  refine nt_ite ?_ ?_
  · exact nt_fk (n_X0_amountBy_c22 Rh3 _) (by omega)
  · refine nt_gP Rh3 (nt_vS At0) (fun x5 yx5 Vx5 => ?_)
    refine nt_gI Rh3 Vx5 (fun x6 => ?_)
    exact nt_fk (n_X0_amountBy_c22 Rh3 _) (by omega)
theorem n_X1_init {ρ : Nat → Nat} {D F : Nat → Prop} {h0 : nk_H} {u v : Nat}   {h yh : nk_H} (Rh : nt_R ρ D F h0 u v yh h) {t0 yt0 : Nat} (At0 : nt_A ρ D (nk_N h) t0 yt0) (v1 : Int32) : nt_F ρ D F h0 u v (nk_N h) nt_q (f_X1_init h t0 v1) (f_X1_init yh yt0 v1) := by
  unfold f_X1_init
  refine nt_pI Rh (nt_vS At0) (fun h1 yh1 Rh1 Lh1 => ?_)
  refine nt_al Rh1 (fun h2 yh2 Rh2 Lh2 => ?_)
  refine nt_doE (n_Jx4a65c_init_da8c8 Rh2 (nt_aN Rh1 (by omega))) (fun h3 yh3 x4 Rh3 Lh3 => ?_)
  refine nt_pP Rh3 (nt_vS At0) (nt_vN Rh1 (by omega)) (fun h5 yh5 Rh5 Lh5 => ?_)
  exact nt_ret Rh5 rfl (by omega)
theorem n_X1_count {ρ : Nat → Nat} {D F : Nat → Prop} {h0 : nk_H} {u v : Nat}   {h yh : nk_H} (Rh : nt_R ρ D F h0 u v yh h) {t0 yt0 : Nat} (At0 : nt_A ρ D (nk_N h) t0 yt0) : nt_F ρ D F h0 u v (nk_N h) nt_q (f_X1_count h t0) (f_X1_count yh yt0) := by
  unfold f_X1_count
  refine nt_gP Rh (nt_vS At0) (fun x1 yx1 Vx1 => ?_)
  refine nt_rcv Rh Vx1 (fun a2 ya2 Aa2 => ?_)
  refine nt_doE (n_Jx4a65c_size_8abf5 Rh (nt_am Aa2 (by omega))) (fun h3 yh3 x4 Rh3 Lh3 => ?_)
  exact nt_ret Rh3 rfl (by omega)
theorem n_X1_actOf {ρ : Nat → Nat} {D F : Nat → Prop} {h0 : nk_H} {u v : Nat}   {h yh : nk_H} (Rh : nt_R ρ D F h0 u v yh h) {t0 yt0 : Nat} (At0 : nt_A ρ D (nk_N h) t0 yt0) (v1 : Int32) : nt_F ρ D F h0 u v (nk_N h) (nt_V ρ D) (f_X1_actOf h t0 v1) (f_X1_actOf yh yt0 v1) := by
  unfold f_X1_actOf
  refine nt_gP Rh (nt_vS At0) (fun x1 yx1 Vx1 => ?_)
  refine nt_rcv Rh Vx1 (fun a2 ya2 Aa2 => ?_)
  refine nt_doV (n_Jx4a65c_get_915e3 Rh (nt_am Aa2 (by omega)) _) (fun h3 yh3 x4 yx4 Rh3 Vx4 Lh3 => ?_)
  refine nt_cc Rh3 Vx4 ?_
  exact nt_ret Rh3 (nt_vm Vx4 (by omega)) (by omega)
theorem n_X1_sealAhead_c31 {ρ : Nat → Nat} {D F : Nat → Prop} {h0 : nk_H} {u v : Nat}   {h yh : nk_H} (Rh : nt_R ρ D F h0 u v yh h) (s0 : Int32) : nt_F ρ D F h0 u v (nk_N h) nt_q (f_X1_sealAhead_c31 h s0) (f_X1_sealAhead_c31 yh s0) := by
  unfold f_X1_sealAhead_c31
  exact nt_ret Rh rfl (by omega)
theorem n_X1_sealAhead {ρ : Nat → Nat} {D F : Nat → Prop} {h0 : nk_H} {u v : Nat}   {h yh : nk_H} (Rh : nt_R ρ D F h0 u v yh h) {t0 yt0 : Nat} (At0 : nt_A ρ D (nk_N h) t0 yt0) (v1 : Int32) : nt_F ρ D F h0 u v (nk_N h) nt_q (f_X1_sealAhead h t0 v1) (f_X1_sealAhead yh yt0 v1) := by
  unfold f_X1_sealAhead
  refine nt_ite ?_ ?_
  · refine nt_gI Rh (nt_vS At0) (fun x1 => ?_)
    exact nt_fk (n_X1_sealAhead_c31 Rh _) (by omega)
  · refine nt_gP Rh (nt_vS At0) (fun x2 yx2 Vx2 => ?_)
    refine nt_rcv Rh Vx2 (fun a3 ya3 Aa3 => ?_)
    refine nt_doV (n_Jx4a65c_get_915e3 Rh (nt_am Aa3 (by omega)) _) (fun h4 yh4 x5 yx5 Rh4 Vx5 Lh4 => ?_)
    refine nt_cc Rh4 Vx5 ?_
    refine nt_gI Rh4 Vx5 (fun x7 => ?_)
    exact nt_fk (n_X1_sealAhead_c31 Rh4 _) (by omega)
theorem n_X11_bit {ρ : Nat → Nat} {D F : Nat → Prop} {h0 : nk_H} {u v : Nat}   {h yh : nk_H} (Rh : nt_R ρ D F h0 u v yh h) (v0 : Int32) : nt_F ρ D F h0 u v (nk_N h) nt_q (f_X11_bit h v0) (f_X11_bit yh v0) := by
  unfold f_X11_bit
  exact nt_ret Rh rfl (by omega)
theorem n_X11_hasBit_c14 {ρ : Nat → Nat} {D F : Nat → Prop} {h0 : nk_H} {u v : Nat}   {h yh : nk_H} (Rh : nt_R ρ D F h0 u v yh h) (s0 : Int32) : nt_F ρ D F h0 u v (nk_N h) nt_q (f_X11_hasBit_c14 h s0) (f_X11_hasBit_c14 yh s0) := by
  unfold f_X11_hasBit_c14
  exact nt_zr Rh _ rfl (by omega)
theorem n_X11_hasBit {ρ : Nat → Nat} {D F : Nat → Prop} {h0 : nk_H} {u v : Nat}   {h yh : nk_H} (Rh : nt_R ρ D F h0 u v yh h) (v0 : Int32) (v1 : Int32) : nt_F ρ D F h0 u v (nk_N h) nt_q (f_X11_hasBit h v0 v1) (f_X11_hasBit yh v0 v1) := by
  unfold f_X11_hasBit
  refine nt_doE (n_X11_bit Rh _) (fun h1 yh1 x2 Rh1 Lh1 => ?_)
  refine nt_ite ?_ ?_
  · exact nt_fk (n_X11_hasBit_c14 Rh1 _) (by omega)
  · exact nt_fk (n_X11_hasBit_c14 Rh1 _) (by omega)
theorem n_X11_saltOf {ρ : Nat → Nat} {D F : Nat → Prop} {h0 : nk_H} {u v : Nat}   {h yh : nk_H} (Rh : nt_R ρ D F h0 u v yh h) (v0 : Int32) (v1 : Int32) (v2 : Int32) : nt_F ρ D F h0 u v (nk_N h) nt_q (f_X11_saltOf h v0 v1 v2) (f_X11_saltOf yh v0 v1 v2) := by
  unfold f_X11_saltOf
  exact nt_ret Rh rfl (by omega)
theorem n_X11_sealOf {ρ : Nat → Nat} {D F : Nat → Prop} {h0 : nk_H} {u v : Nat}   {h yh : nk_H} (Rh : nt_R ρ D F h0 u v yh h) (v0 : Int32) (v1 : Int32) : nt_F ρ D F h0 u v (nk_N h) nt_q (f_X11_sealOf h v0 v1) (f_X11_sealOf yh v0 v1) := by
  unfold f_X11_sealOf
  exact nt_ret Rh rfl (by omega)
theorem n_X11_markOf {ρ : Nat → Nat} {D F : Nat → Prop} {h0 : nk_H} {u v : Nat}   {h yh : nk_H} (Rh : nt_R ρ D F h0 u v yh h) (v0 : Int32) (v1 : Int32) (v2 : Int32) (v3 : Int32) : nt_F ρ D F h0 u v (nk_N h) nt_q (f_X11_markOf h v0 v1 v2 v3) (f_X11_markOf yh v0 v1 v2 v3) := by
  unfold f_X11_markOf
  refine nt_doE (n_X11_saltOf Rh _ _ _) (fun h1 yh1 x2 Rh1 Lh1 => ?_)
  refine nt_doE (n_X11_sealOf Rh1 _ _) (fun h3 yh3 x4 Rh3 Lh3 => ?_)
  exact nt_ret Rh3 rfl (by omega)
theorem n_X11_sealFrom_c48 {ρ : Nat → Nat} {D F : Nat → Prop} {h0 : nk_H} {u v : Nat} {r6 r6' : nk_H → Int32 → Int32 → Int32 → Option Nat → Int32 → Int32 → Int32 → Option (nk_H × Int32)} (hr6 : ∀ (g h : nk_H) (i1 : Int32) (i2 : Int32) (i3 : Int32) (p4 q4 : Option Nat) (i5 : Int32) (i6 : Int32) (i7 : Int32), nt_R ρ D F h0 u v h g → nt_V ρ D (nk_N g) p4 q4 → nt_F ρ D F h0 u v (nk_N g) nt_q (r6 g i1 i2 i3 p4 i5 i6 i7) (r6' h i1 i2 i3 q4 i5 i6 i7)) {h yh : nk_H} (Rh : nt_R ρ D F h0 u v yh h) (v0 : Int32) (v1 : Int32) (v2 : Int32) {v3 yv3 : Option Nat} (Vv3 : nt_V ρ D (nk_N h) v3 yv3) (v4 : Int32) (v5 : Int32) (v6 : Int32) (s0 : Int32) : nt_F ρ D F h0 u v (nk_N h) nt_q (f_X11_sealFrom_c48 r6 h v0 v1 v2 v3 v4 v5 v6 s0) (f_X11_sealFrom_c48 r6' yh v0 v1 v2 yv3 v4 v5 v6 s0) := by
  unfold f_X11_sealFrom_c48
  refine nt_doE (n_X11_sealOf Rh _ _) (fun h1 yh1 x2 Rh1 Lh1 => ?_)
  exact nt_fk (hr6 _ _ _ _ _ _ _ _ _ _ Rh1 (nt_vm Vv3 (by omega))) (by omega)
theorem n_X11_sealFrom_c65 {ρ : Nat → Nat} {D F : Nat → Prop} {h0 : nk_H} {u v : Nat}   {h yh : nk_H} (Rh : nt_R ρ D F h0 u v yh h) (v0 : Int32) (v5 : Int32) : nt_F ρ D F h0 u v (nk_N h) nt_q (f_X11_sealFrom_c65 h v0 v5) (f_X11_sealFrom_c65 yh v0 v5) := by
  unfold f_X11_sealFrom_c65
  refine nt_doE (n_X11_sealOf Rh _ _) (fun h3 yh3 x4 Rh3 Lh3 => ?_)
  exact nt_ret Rh3 rfl (by omega)
theorem n_X11_sealFrom_c6 {ρ : Nat → Nat} {D F : Nat → Prop} {h0 : nk_H} {u v : Nat} {r6 r6' : nk_H → Int32 → Int32 → Int32 → Option Nat → Int32 → Int32 → Int32 → Option (nk_H × Int32)} (hr6 : ∀ (g h : nk_H) (i1 : Int32) (i2 : Int32) (i3 : Int32) (p4 q4 : Option Nat) (i5 : Int32) (i6 : Int32) (i7 : Int32), nt_R ρ D F h0 u v h g → nt_V ρ D (nk_N g) p4 q4 → nt_F ρ D F h0 u v (nk_N g) nt_q (r6 g i1 i2 i3 p4 i5 i6 i7) (r6' h i1 i2 i3 q4 i5 i6 i7)) {h yh : nk_H} (Rh : nt_R ρ D F h0 u v yh h) (v0 : Int32) (v1 : Int32) (v2 : Int32) {v3 yv3 : Option Nat} (Vv3 : nt_V ρ D (nk_N h) v3 yv3) (v4 : Int32) (v5 : Int32) (v6 : Int32) : nt_F ρ D F h0 u v (nk_N h) nt_q (f_X11_sealFrom_c6 r6 h v0 v1 v2 v3 v4 v5 v6) (f_X11_sealFrom_c6 r6' yh v0 v1 v2 yv3 v4 v5 v6) := by
  unfold f_X11_sealFrom_c6
  refine nt_ite ?_ ?_
  · exact nt_fk (n_X11_sealFrom_c65 Rh _ _) (by omega)
  · refine nt_len Rh Vv3 (fun x5 => ?_)
    refine nt_ite ?_ ?_
    · exact nt_fk (n_X11_sealFrom_c65 Rh _ _) (by omega)
    · refine nt_doE (n_X11_hasBit Rh _ _) (fun h6 yh6 x7 Rh6 Lh6 => ?_)
      refine nt_ite ?_ ?_
      · refine nt_aI Rh6 Vv3 (fun x8 => ?_)
        refine nt_doE (n_X11_markOf Rh6 _ _ _ _) (fun h9 yh9 x10 Rh9 Lh9 => ?_)
        exact nt_fk (n_X11_sealFrom_c48 hr6 Rh9 _ _ _ (nt_vm Vv3 (by omega)) _ _ _ _) (by omega)
      · refine nt_aI Rh6 Vv3 (fun x11 => ?_)
        exact nt_fk (n_X11_sealFrom_c48 hr6 Rh6 _ _ _ (nt_vm Vv3 (by omega)) _ _ _ _) (by omega)
theorem n_X11_sealFrom_b6 {ρ : Nat → Nat} {D F : Nat → Prop} {h0 : nk_H} {u v : Nat}   : ∀ (n : Nat) {g h : nk_H} (R : nt_R ρ D F h0 u v h g) (i1 : Int32) (i2 : Int32) (i3 : Int32) {p4 q4 : Option Nat} (V4 : nt_V ρ D (nk_N g) p4 q4) (i5 : Int32) (i6 : Int32) (i7 : Int32), nt_F ρ D F h0 u v (nk_N g) nt_q (f_X11_sealFrom_b6 n g i1 i2 i3 p4 i5 i6 i7) (f_X11_sealFrom_b6 n h i1 i2 i3 q4 i5 i6 i7)
  | 0, _, _, _, _, _, _, _, _, _, _, _, _ => nt_none
  | n + 1, _, _, R, i1, i2, i3, _, _, V4, i5, i6, i7 => n_X11_sealFrom_c6 (fun g h i1 i2 i3 p4 q4 i5 i6 i7 R V4 => n_X11_sealFrom_b6 n R i1 i2 i3 V4 i5 i6 i7) R i1 i2 i3 V4 i5 i6 i7
theorem n_X11_sealFrom {ρ : Nat → Nat} {D F : Nat → Prop} {h0 : nk_H} {u v : Nat}   {h yh : nk_H} (Rh : nt_R ρ D F h0 u v yh h) (v0 : Int32) (v1 : Int32) (v2 : Int32) {v3 yv3 : Option Nat} (Vv3 : nt_V ρ D (nk_N h) v3 yv3) (v4 : Int32) : nt_F ρ D F h0 u v (nk_N h) nt_q (f_X11_sealFrom h v0 v1 v2 v3 v4) (f_X11_sealFrom yh v0 v1 v2 yv3 v4) := by
  unfold f_X11_sealFrom
  exact nt_fk (n_X11_sealFrom_b6 _ Rh _ _ _ (nt_vm Vv3 (by omega)) _ _ _) (by omega)
theorem n_X1_sealNow {ρ : Nat → Nat} {D F : Nat → Prop} {h0 : nk_H} {u v : Nat}   {h yh : nk_H} (Rh : nt_R ρ D F h0 u v yh h) {t0 yt0 : Nat} (At0 : nt_A ρ D (nk_N h) t0 yt0) (v1 : Int32) {v2 yv2 : Option Nat} (Vv2 : nt_V ρ D (nk_N h) v2 yv2) : nt_F ρ D F h0 u v (nk_N h) nt_q (f_X1_sealNow h t0 v1 v2) (f_X1_sealNow yh yt0 v1 yv2) := by
  unfold f_X1_sealNow
  refine nt_rcv Rh (nt_vS At0) (fun a1 ya1 Aa1 => ?_)
  refine nt_doE (n_X1_sealAhead Rh (nt_am Aa1 (by omega)) _) (fun h2 yh2 x3 Rh2 Lh2 => ?_)
  refine nt_gI Rh2 (nt_vS At0) (fun x4 => ?_)
  refine nt_gP Rh2 Vv2 (fun x5 yx5 Vx5 => ?_)
  refine nt_doE (n_X11_sealFrom Rh2 _ _ _ (nt_vm Vx5 (by omega)) _) (fun h6 yh6 x7 Rh6 Lh6 => ?_)
  exact nt_ret Rh6 rfl (by omega)
theorem n_X1_enter {ρ : Nat → Nat} {D F : Nat → Prop} {h0 : nk_H} {u v : Nat}   {h yh : nk_H} (Rh : nt_R ρ D F h0 u v yh h) {t0 yt0 : Nat} (At0 : nt_A ρ D (nk_N h) t0 yt0) {v1 yv1 : Option Nat} (Vv1 : nt_V ρ D (nk_N h) v1 yv1) : nt_F ρ D F h0 u v (nk_N h) nt_q (f_X1_enter h t0 v1) (f_X1_enter yh yt0 yv1) := by
  unfold f_X1_enter
  refine nt_gP Rh (nt_vS At0) (fun x1 yx1 Vx1 => ?_)
  refine nt_rcv Rh Vx1 (fun a2 ya2 Aa2 => ?_)
  refine nt_doE (n_Jx4a65c_size_8abf5 Rh (nt_am Aa2 (by omega))) (fun h3 yh3 x4 Rh3 Lh3 => ?_)
  refine nt_rcv Rh3 (nt_vS At0) (fun a5 ya5 Aa5 => ?_)
  refine nt_doE (n_X1_sealNow Rh3 (nt_am Aa5 (by omega)) _ (nt_vm Vv1 (by omega))) (fun h6 yh6 x7 Rh6 Lh6 => ?_)
  refine nt_pI Rh6 Vv1 (fun h8 yh8 Rh8 Lh8 => ?_)
  refine nt_gP Rh8 (nt_vS At0) (fun x9 yx9 Vx9 => ?_)
  refine nt_rcv Rh8 Vx9 (fun a10 ya10 Aa10 => ?_)
  refine nt_doE (n_Jx4a65c_add_9ea2d Rh8 (nt_am Aa10 (by omega)) (nt_vm Vv1 (by omega))) (fun h11 yh11 x12 Rh11 Lh11 => ?_)
  exact nt_ret Rh11 rfl (by omega)
theorem n_X1_firstBroken_c2 {ρ : Nat → Nat} {D F : Nat → Prop} {h0 : nk_H} {u v : Nat} {r2 r2' : nk_H → Nat → Int32 → Option (nk_H × Int32)} (hr2 : ∀ (g h : nk_H) (a1 b1 : Nat) (i2 : Int32), nt_R ρ D F h0 u v h g → nt_A ρ D (nk_N g) a1 b1 → nt_F ρ D F h0 u v (nk_N g) nt_q (r2 g a1 i2) (r2' h b1 i2)) {h yh : nk_H} (Rh : nt_R ρ D F h0 u v yh h) {t0 yt0 : Nat} (At0 : nt_A ρ D (nk_N h) t0 yt0) (v1 : Int32) : nt_F ρ D F h0 u v (nk_N h) nt_q (f_X1_firstBroken_c2 r2 h t0 v1) (f_X1_firstBroken_c2 r2' yh yt0 v1) := by
  unfold f_X1_firstBroken_c2
  refine nt_gP Rh (nt_vS At0) (fun x1 yx1 Vx1 => ?_)
  refine nt_rcv Rh Vx1 (fun a2 ya2 Aa2 => ?_)
  refine nt_doE (n_Jx4a65c_size_8abf5 Rh (nt_am Aa2 (by omega))) (fun h3 yh3 x4 Rh3 Lh3 => ?_)
  refine nt_ite ?_ ?_
  · exact nt_ret Rh3 rfl (by omega)
  · refine nt_gP Rh3 (nt_vS At0) (fun x5 yx5 Vx5 => ?_)
    refine nt_rcv Rh3 Vx5 (fun a6 ya6 Aa6 => ?_)
    refine nt_doV (n_Jx4a65c_get_915e3 Rh3 (nt_am Aa6 (by omega)) _) (fun h7 yh7 x8 yx8 Rh7 Vx8 Lh7 => ?_)
    refine nt_cc Rh7 Vx8 ?_
    refine nt_rcv Rh7 (nt_vS At0) (fun a10 ya10 Aa10 => ?_)
    refine nt_doE (n_X1_sealNow Rh7 (nt_am Aa10 (by omega)) _ (nt_vm Vx8 (by omega))) (fun h11 yh11 x12 Rh11 Lh11 => ?_)
    refine nt_gI Rh11 Vx8 (fun x13 => ?_)
    refine nt_ite ?_ ?_
    · exact nt_fk (hr2 _ _ _ _ _ Rh11 (nt_am At0 (by omega))) (by omega)
    · exact nt_ret Rh11 rfl (by omega)
theorem n_X1_firstBroken_b2 {ρ : Nat → Nat} {D F : Nat → Prop} {h0 : nk_H} {u v : Nat}   : ∀ (n : Nat) {g h : nk_H} (R : nt_R ρ D F h0 u v h g) {a1 b1 : Nat} (A1 : nt_A ρ D (nk_N g) a1 b1) (i2 : Int32), nt_F ρ D F h0 u v (nk_N g) nt_q (f_X1_firstBroken_b2 n g a1 i2) (f_X1_firstBroken_b2 n h b1 i2)
  | 0, _, _, _, _, _, _, _ => nt_none
  | n + 1, _, _, R, _, _, A1, i2 => n_X1_firstBroken_c2 (fun g h a1 b1 i2 R A1 => n_X1_firstBroken_b2 n R A1 i2) R A1 i2
theorem n_X1_firstBroken {ρ : Nat → Nat} {D F : Nat → Prop} {h0 : nk_H} {u v : Nat}   {h yh : nk_H} (Rh : nt_R ρ D F h0 u v yh h) {t0 yt0 : Nat} (At0 : nt_A ρ D (nk_N h) t0 yt0) : nt_F ρ D F h0 u v (nk_N h) nt_q (f_X1_firstBroken h t0) (f_X1_firstBroken yh yt0) := by
  unfold f_X1_firstBroken
  exact nt_fk (n_X1_firstBroken_b2 _ Rh (nt_am At0 (by omega)) _) (by omega)
theorem n_X1_countStanding_c35 {ρ : Nat → Nat} {D F : Nat → Prop} {h0 : nk_H} {u v : Nat} {r4 r4' : nk_H → Nat → Int32 → Int32 → Option (nk_H × Int32)} (hr4 : ∀ (g h : nk_H) (a1 b1 : Nat) (i2 : Int32) (i3 : Int32), nt_R ρ D F h0 u v h g → nt_A ρ D (nk_N g) a1 b1 → nt_F ρ D F h0 u v (nk_N g) nt_q (r4 g a1 i2 i3) (r4' h b1 i2 i3)) {h yh : nk_H} (Rh : nt_R ρ D F h0 u v yh h) {t0 yt0 : Nat} (At0 : nt_A ρ D (nk_N h) t0 yt0) (v1 : Int32) (v2 : Int32) : nt_F ρ D F h0 u v (nk_N h) nt_q (f_X1_countStanding_c35 r4 h t0 v1 v2) (f_X1_countStanding_c35 r4' yh yt0 v1 v2) := by
  unfold f_X1_countStanding_c35
  exact nt_fk (hr4 _ _ _ _ _ _ Rh (nt_am At0 (by omega))) (by omega)
theorem n_X1_countStanding_c4 {ρ : Nat → Nat} {D F : Nat → Prop} {h0 : nk_H} {u v : Nat} {r4 r4' : nk_H → Nat → Int32 → Int32 → Option (nk_H × Int32)} (hr4 : ∀ (g h : nk_H) (a1 b1 : Nat) (i2 : Int32) (i3 : Int32), nt_R ρ D F h0 u v h g → nt_A ρ D (nk_N g) a1 b1 → nt_F ρ D F h0 u v (nk_N g) nt_q (r4 g a1 i2 i3) (r4' h b1 i2 i3)) {h yh : nk_H} (Rh : nt_R ρ D F h0 u v yh h) {t0 yt0 : Nat} (At0 : nt_A ρ D (nk_N h) t0 yt0) (v1 : Int32) (v2 : Int32) : nt_F ρ D F h0 u v (nk_N h) nt_q (f_X1_countStanding_c4 r4 h t0 v1 v2) (f_X1_countStanding_c4 r4' yh yt0 v1 v2) := by
  unfold f_X1_countStanding_c4
  refine nt_gP Rh (nt_vS At0) (fun x1 yx1 Vx1 => ?_)
  refine nt_rcv Rh Vx1 (fun a2 ya2 Aa2 => ?_)
  refine nt_doE (n_Jx4a65c_size_8abf5 Rh (nt_am Aa2 (by omega))) (fun h3 yh3 x4 Rh3 Lh3 => ?_)
  refine nt_ite ?_ ?_
  · exact nt_ret Rh3 rfl (by omega)
  · refine nt_gP Rh3 (nt_vS At0) (fun x5 yx5 Vx5 => ?_)
    refine nt_rcv Rh3 Vx5 (fun a6 ya6 Aa6 => ?_)
    refine nt_doV (n_Jx4a65c_get_915e3 Rh3 (nt_am Aa6 (by omega)) _) (fun h7 yh7 x8 yx8 Rh7 Vx8 Lh7 => ?_)
    refine nt_cc Rh7 Vx8 ?_
    refine nt_gI Rh7 Vx8 (fun x10 => ?_)
    refine nt_ite ?_ ?_
    · exact nt_fk (n_X1_countStanding_c35 hr4 Rh7 (nt_am At0 (by omega)) _ _) (by omega)
    · exact nt_fk (n_X1_countStanding_c35 hr4 Rh7 (nt_am At0 (by omega)) _ _) (by omega)
theorem n_X1_countStanding_b4 {ρ : Nat → Nat} {D F : Nat → Prop} {h0 : nk_H} {u v : Nat}   : ∀ (n : Nat) {g h : nk_H} (R : nt_R ρ D F h0 u v h g) {a1 b1 : Nat} (A1 : nt_A ρ D (nk_N g) a1 b1) (i2 : Int32) (i3 : Int32), nt_F ρ D F h0 u v (nk_N g) nt_q (f_X1_countStanding_b4 n g a1 i2 i3) (f_X1_countStanding_b4 n h b1 i2 i3)
  | 0, _, _, _, _, _, _, _, _ => nt_none
  | n + 1, _, _, R, _, _, A1, i2, i3 => n_X1_countStanding_c4 (fun g h a1 b1 i2 i3 R A1 => n_X1_countStanding_b4 n R A1 i2 i3) R A1 i2 i3
theorem n_X1_countStanding {ρ : Nat → Nat} {D F : Nat → Prop} {h0 : nk_H} {u v : Nat}   {h yh : nk_H} (Rh : nt_R ρ D F h0 u v yh h) {t0 yt0 : Nat} (At0 : nt_A ρ D (nk_N h) t0 yt0) : nt_F ρ D F h0 u v (nk_N h) nt_q (f_X1_countStanding h t0) (f_X1_countStanding yh yt0) := by
  unfold f_X1_countStanding
  exact nt_fk (n_X1_countStanding_b4 _ Rh (nt_am At0 (by omega)) _ _) (by omega)
theorem n_X2_init {ρ : Nat → Nat} {D F : Nat → Prop} {h0 : nk_H} {u v : Nat}   {h yh : nk_H} (Rh : nt_R ρ D F h0 u v yh h) {t0 yt0 : Nat} (At0 : nt_A ρ D (nk_N h) t0 yt0) (v1 : Int32) (v2 : Int32) (v3 : Int32) (v4 : Int32) : nt_F ρ D F h0 u v (nk_N h) nt_q (f_X2_init h t0 v1 v2 v3 v4) (f_X2_init yh yt0 v1 v2 v3 v4) := by
  unfold f_X2_init
  refine nt_pI Rh (nt_vS At0) (fun h1 yh1 Rh1 Lh1 => ?_)
  refine nt_pI Rh1 (nt_vS At0) (fun h2 yh2 Rh2 Lh2 => ?_)
  refine nt_pI Rh2 (nt_vS At0) (fun h3 yh3 Rh3 Lh3 => ?_)
  refine nt_pI Rh3 (nt_vS At0) (fun h4 yh4 Rh4 Lh4 => ?_)
  refine nt_mna Rh4 (fun h5 yh5 Rh5 Lh5 => ?_)
  refine nt_pP Rh5 (nt_vS At0) (nt_vN Rh4 (by omega)) (fun h6 yh6 Rh6 Lh6 => ?_)
  refine nt_na Rh6 (fun h7 yh7 Rh7 Lh7 => ?_)
  refine nt_pP Rh7 (nt_vS At0) (nt_vN Rh6 (by omega)) (fun h8 yh8 Rh8 Lh8 => ?_)
  exact nt_ret Rh8 rfl (by omega)
theorem n_X2_leavesOut {ρ : Nat → Nat} {D F : Nat → Prop} {h0 : nk_H} {u v : Nat}   {h yh : nk_H} (Rh : nt_R ρ D F h0 u v yh h) {t0 yt0 : Nat} (At0 : nt_A ρ D (nk_N h) t0 yt0) (v1 : Int32) : nt_F ρ D F h0 u v (nk_N h) nt_q (f_X2_leavesOut h t0 v1) (f_X2_leavesOut yh yt0 v1) := by
  unfold f_X2_leavesOut
  refine nt_gI Rh (nt_vS At0) (fun x1 => ?_)
  refine nt_doE (n_X11_hasBit Rh _ _) (fun h2 yh2 x3 Rh2 Lh2 => ?_)
  exact nt_zr Rh2 _ rfl (by omega)
theorem n_X2_takeFrom_c102 {ρ : Nat → Nat} {D F : Nat → Prop} {h0 : nk_H} {u v : Nat} {r14 r14' : nk_H → Nat → Option Nat → Int32 → Option (nk_H × Unit)} {r46 r46' : nk_H → Nat → Option Nat → Int32 → Option Nat → Int32 → Option (nk_H × Unit)} (hr14 : ∀ (g h : nk_H) (a1 b1 : Nat) (p2 q2 : Option Nat) (i3 : Int32), nt_R ρ D F h0 u v h g → nt_A ρ D (nk_N g) a1 b1 → nt_V ρ D (nk_N g) p2 q2 → nt_F ρ D F h0 u v (nk_N g) nt_q (r14 g a1 p2 i3) (r14' h b1 q2 i3)) (hr46 : ∀ (g h : nk_H) (a1 b1 : Nat) (p2 q2 : Option Nat) (i3 : Int32) (p4 q4 : Option Nat) (i5 : Int32), nt_R ρ D F h0 u v h g → nt_A ρ D (nk_N g) a1 b1 → nt_V ρ D (nk_N g) p2 q2 → nt_V ρ D (nk_N g) p4 q4 → nt_F ρ D F h0 u v (nk_N g) nt_q (r46 g a1 p2 i3 p4 i5) (r46' h b1 q2 i3 q4 i5)) {h yh : nk_H} (Rh : nt_R ρ D F h0 u v yh h) {t0 yt0 : Nat} (At0 : nt_A ρ D (nk_N h) t0 yt0) {v1 yv1 : Option Nat} (Vv1 : nt_V ρ D (nk_N h) v1 yv1) (v2 : Int32) {v3 yv3 : Option Nat} (Vv3 : nt_V ρ D (nk_N h) v3 yv3) (v4 : Int32) (s0 : Int32) (s1 : Int32) {s2 ys2 : Option Nat} (Vs2 : nt_V ρ D (nk_N h) s2 ys2) : nt_F ρ D F h0 u v (nk_N h) nt_q (f_X2_takeFrom_c102 r14 r46 h t0 v1 v2 v3 v4 s0 s1 s2) (f_X2_takeFrom_c102 r14' r46' yh yt0 yv1 v2 yv3 v4 s0 s1 ys2) := by
  unfold f_X2_takeFrom_c102
  refine nt_wI Rh Vs2 (fun h1 yh1 Rh1 Lh1 => ?_)
  exact nt_fk (hr46 _ _ _ _ _ _ _ _ _ _ Rh1 (nt_am At0 (by omega)) (nt_vm Vv1 (by omega)) (nt_vm Vv3 (by omega))) (by omega)
theorem n_X2_takeFrom_c46 {ρ : Nat → Nat} {D F : Nat → Prop} {h0 : nk_H} {u v : Nat} {r14 r14' : nk_H → Nat → Option Nat → Int32 → Option (nk_H × Unit)} {r46 r46' : nk_H → Nat → Option Nat → Int32 → Option Nat → Int32 → Option (nk_H × Unit)} (hr14 : ∀ (g h : nk_H) (a1 b1 : Nat) (p2 q2 : Option Nat) (i3 : Int32), nt_R ρ D F h0 u v h g → nt_A ρ D (nk_N g) a1 b1 → nt_V ρ D (nk_N g) p2 q2 → nt_F ρ D F h0 u v (nk_N g) nt_q (r14 g a1 p2 i3) (r14' h b1 q2 i3)) (hr46 : ∀ (g h : nk_H) (a1 b1 : Nat) (p2 q2 : Option Nat) (i3 : Int32) (p4 q4 : Option Nat) (i5 : Int32), nt_R ρ D F h0 u v h g → nt_A ρ D (nk_N g) a1 b1 → nt_V ρ D (nk_N g) p2 q2 → nt_V ρ D (nk_N g) p4 q4 → nt_F ρ D F h0 u v (nk_N g) nt_q (r46 g a1 p2 i3 p4 i5) (r46' h b1 q2 i3 q4 i5)) {h yh : nk_H} (Rh : nt_R ρ D F h0 u v yh h) {t0 yt0 : Nat} (At0 : nt_A ρ D (nk_N h) t0 yt0) {v1 yv1 : Option Nat} (Vv1 : nt_V ρ D (nk_N h) v1 yv1) (v2 : Int32) {v3 yv3 : Option Nat} (Vv3 : nt_V ρ D (nk_N h) v3 yv3) (v4 : Int32) : nt_F ρ D F h0 u v (nk_N h) nt_q (f_X2_takeFrom_c46 r14 r46 h t0 v1 v2 v3 v4) (f_X2_takeFrom_c46 r14' r46' yh yt0 yv1 v2 yv3 v4) := by
  unfold f_X2_takeFrom_c46
  refine nt_ite ?_ ?_
  · exact nt_fk (hr14 _ _ _ _ _ _ _ Rh (nt_am At0 (by omega)) (nt_vm Vv1 (by omega))) (by omega)
  · refine nt_gP Rh (nt_vS At0) (fun x2 yx2 Vx2 => ?_)
    refine nt_aP Rh Vx2 (fun x3 yx3 Vx3 => ?_)
    refine nt_rcv Rh (nt_vS At0) (fun a4 ya4 Aa4 => ?_)
    refine nt_doE (n_X2_leavesOut Rh (nt_am Aa4 (by omega)) _) (fun h5 yh5 x6 Rh5 Lh5 => ?_)
    refine nt_ite ?_ ?_
    · refine nt_gP Rh5 Vv3 (fun x7 yx7 Vx7 => ?_)
      refine nt_aI Rh5 Vx7 (fun x8 => ?_)
      exact nt_fk (n_X2_takeFrom_c102 hr14 hr46 Rh5 (nt_am At0 (by omega)) (nt_vm Vv1 (by omega)) _ (nt_vm Vv3 (by omega)) _ _ _ (nt_vm Vx3 (by omega))) (by omega)
    · refine nt_gI Rh5 (nt_vS At0) (fun x9 => ?_)
      refine nt_gI Rh5 (nt_vS At0) (fun x10 => ?_)
      refine nt_gP Rh5 Vv3 (fun x11 yx11 Vx11 => ?_)
      refine nt_aI Rh5 Vx11 (fun x12 => ?_)
      refine nt_doE (n_X11_markOf Rh5 _ _ _ _) (fun h13 yh13 x14 Rh13 Lh13 => ?_)
      exact nt_fk (n_X2_takeFrom_c102 hr14 hr46 Rh13 (nt_am At0 (by omega)) (nt_vm Vv1 (by omega)) _ (nt_vm Vv3 (by omega)) _ _ _ (nt_vm Vx3 (by omega))) (by omega)
theorem n_X2_takeFrom_b46 {ρ : Nat → Nat} {D F : Nat → Prop} {h0 : nk_H} {u v : Nat} {r14 r14' : nk_H → Nat → Option Nat → Int32 → Option (nk_H × Unit)} (hr14 : ∀ (g h : nk_H) (a1 b1 : Nat) (p2 q2 : Option Nat) (i3 : Int32), nt_R ρ D F h0 u v h g → nt_A ρ D (nk_N g) a1 b1 → nt_V ρ D (nk_N g) p2 q2 → nt_F ρ D F h0 u v (nk_N g) nt_q (r14 g a1 p2 i3) (r14' h b1 q2 i3)) : ∀ (n : Nat) {g h : nk_H} (R : nt_R ρ D F h0 u v h g) {a1 b1 : Nat} (A1 : nt_A ρ D (nk_N g) a1 b1) {p2 q2 : Option Nat} (V2 : nt_V ρ D (nk_N g) p2 q2) (i3 : Int32) {p4 q4 : Option Nat} (V4 : nt_V ρ D (nk_N g) p4 q4) (i5 : Int32), nt_F ρ D F h0 u v (nk_N g) nt_q (f_X2_takeFrom_b46 r14 n g a1 p2 i3 p4 i5) (f_X2_takeFrom_b46 r14' n h b1 q2 i3 q4 i5)
  | 0, _, _, _, _, _, _, _, _, _, _, _, _, _, _ => nt_none
  | n + 1, _, _, R, _, _, A1, _, _, V2, i3, _, _, V4, i5 => n_X2_takeFrom_c46 hr14 (fun g h a1 b1 p2 q2 i3 p4 q4 i5 R A1 V2 V4 => n_X2_takeFrom_b46 hr14 n R A1 V2 i3 V4 i5) R A1 V2 i3 V4 i5
theorem n_X2_takeFrom_c14 {ρ : Nat → Nat} {D F : Nat → Prop} {h0 : nk_H} {u v : Nat} {r14 r14' : nk_H → Nat → Option Nat → Int32 → Option (nk_H × Unit)} (hr14 : ∀ (g h : nk_H) (a1 b1 : Nat) (p2 q2 : Option Nat) (i3 : Int32), nt_R ρ D F h0 u v h g → nt_A ρ D (nk_N g) a1 b1 → nt_V ρ D (nk_N g) p2 q2 → nt_F ρ D F h0 u v (nk_N g) nt_q (r14 g a1 p2 i3) (r14' h b1 q2 i3)) {h yh : nk_H} (Rh : nt_R ρ D F h0 u v yh h) {t0 yt0 : Nat} (At0 : nt_A ρ D (nk_N h) t0 yt0) {v1 yv1 : Option Nat} (Vv1 : nt_V ρ D (nk_N h) v1 yv1) (v2 : Int32) : nt_F ρ D F h0 u v (nk_N h) nt_q (f_X2_takeFrom_c14 r14 h t0 v1 v2) (f_X2_takeFrom_c14 r14' yh yt0 yv1 v2) := by
  unfold f_X2_takeFrom_c14
  refine nt_gI Rh (nt_vS At0) (fun x15 => ?_)
  refine nt_ite ?_ ?_
  · exact nt_ret Rh rfl (by omega)
  · refine nt_gI Rh (nt_vS At0) (fun x16 => ?_)
    refine nt_rcv Rh Vv1 (fun a17 ya17 Aa17 => ?_)
    refine nt_doV (n_X1_actOf Rh (nt_am Aa17 (by omega)) _) (fun h18 yh18 x19 yx19 Rh18 Vx19 Lh18 => ?_)
    refine nt_gP Rh18 (nt_vS At0) (fun x20 yx20 Vx20 => ?_)
    refine nt_gI Rh18 Vx19 (fun x21 => ?_)
    refine nt_wI Rh18 Vx20 (fun h22 yh22 Rh22 Lh22 => ?_)
    exact nt_fk (n_X2_takeFrom_b46 hr14 _ Rh22 (nt_am At0 (by omega)) (nt_vm Vv1 (by omega)) _ (nt_vm Vx19 (by omega)) _) (by omega)
theorem n_X2_takeFrom_b14 {ρ : Nat → Nat} {D F : Nat → Prop} {h0 : nk_H} {u v : Nat}   : ∀ (n : Nat) {g h : nk_H} (R : nt_R ρ D F h0 u v h g) {a1 b1 : Nat} (A1 : nt_A ρ D (nk_N g) a1 b1) {p2 q2 : Option Nat} (V2 : nt_V ρ D (nk_N g) p2 q2) (i3 : Int32), nt_F ρ D F h0 u v (nk_N g) nt_q (f_X2_takeFrom_b14 n g a1 p2 i3) (f_X2_takeFrom_b14 n h b1 q2 i3)
  | 0, _, _, _, _, _, _, _, _, _, _ => nt_none
  | n + 1, _, _, R, _, _, A1, _, _, V2, i3 => n_X2_takeFrom_c14 (fun g h a1 b1 p2 q2 i3 R A1 V2 => n_X2_takeFrom_b14 n R A1 V2 i3) R A1 V2 i3
theorem n_X2_takeFrom {ρ : Nat → Nat} {D F : Nat → Prop} {h0 : nk_H} {u v : Nat}   {h yh : nk_H} (Rh : nt_R ρ D F h0 u v yh h) {t0 yt0 : Nat} (At0 : nt_A ρ D (nk_N h) t0 yt0) {v1 yv1 : Option Nat} (Vv1 : nt_V ρ D (nk_N h) v1 yv1) : nt_F ρ D F h0 u v (nk_N h) nt_q (f_X2_takeFrom h t0 v1) (f_X2_takeFrom yh yt0 yv1) := by
  unfold f_X2_takeFrom
  refine nt_gI Rh (nt_vS At0) (fun x23 => ?_)
  refine nt_rcv Rh Vv1 (fun a24 ya24 Aa24 => ?_)
  refine nt_doE (n_X1_sealAhead Rh (nt_am Aa24 (by omega)) _) (fun h25 yh25 x26 Rh25 Lh25 => ?_)
  refine nt_pI Rh25 (nt_vS At0) (fun h27 yh27 Rh27 Lh27 => ?_)
  exact nt_fk (n_X2_takeFrom_b14 _ Rh27 (nt_am At0 (by omega)) (nt_vm Vv1 (by omega)) _) (by omega)
theorem n_X2_firstBroken_c7 {ρ : Nat → Nat} {D F : Nat → Prop} {h0 : nk_H} {u v : Nat} {r7 r7' : nk_H → Nat → Int32 → Int32 → Option (nk_H × Int32)} (hr7 : ∀ (g h : nk_H) (a1 b1 : Nat) (i2 : Int32) (i3 : Int32), nt_R ρ D F h0 u v h g → nt_A ρ D (nk_N g) a1 b1 → nt_F ρ D F h0 u v (nk_N g) nt_q (r7 g a1 i2 i3) (r7' h b1 i2 i3)) {h yh : nk_H} (Rh : nt_R ρ D F h0 u v yh h) {t0 yt0 : Nat} (At0 : nt_A ρ D (nk_N h) t0 yt0) (v1 : Int32) (v2 : Int32) : nt_F ρ D F h0 u v (nk_N h) nt_q (f_X2_firstBroken_c7 r7 h t0 v1 v2) (f_X2_firstBroken_c7 r7' yh yt0 v1 v2) := by
  unfold f_X2_firstBroken_c7
  refine nt_gI Rh (nt_vS At0) (fun x1 => ?_)
  refine nt_ite ?_ ?_
  · exact nt_ret Rh rfl (by omega)
  · refine nt_gI Rh (nt_vS At0) (fun x2 => ?_)
    refine nt_gI Rh (nt_vS At0) (fun x3 => ?_)
    refine nt_gP Rh (nt_vS At0) (fun x4 yx4 Vx4 => ?_)
    refine nt_aP Rh Vx4 (fun x5 yx5 Vx5 => ?_)
    refine nt_gI Rh (nt_vS At0) (fun x6 => ?_)
    refine nt_doE (n_X11_sealFrom Rh _ _ _ (nt_vm Vx5 (by omega)) _) (fun h7 yh7 x8 Rh7 Lh7 => ?_)
    refine nt_gP Rh7 (nt_vS At0) (fun x9 yx9 Vx9 => ?_)
    refine nt_aI Rh7 Vx9 (fun x10 => ?_)
    refine nt_ite ?_ ?_
    · refine nt_gP Rh7 (nt_vS At0) (fun x11 yx11 Vx11 => ?_)
      refine nt_aI Rh7 Vx11 (fun x12 => ?_)
      exact nt_fk (hr7 _ _ _ _ _ _ Rh7 (nt_am At0 (by omega))) (by omega)
    · exact nt_ret Rh7 rfl (by omega)
theorem n_X2_firstBroken_b7 {ρ : Nat → Nat} {D F : Nat → Prop} {h0 : nk_H} {u v : Nat}   : ∀ (n : Nat) {g h : nk_H} (R : nt_R ρ D F h0 u v h g) {a1 b1 : Nat} (A1 : nt_A ρ D (nk_N g) a1 b1) (i2 : Int32) (i3 : Int32), nt_F ρ D F h0 u v (nk_N g) nt_q (f_X2_firstBroken_b7 n g a1 i2 i3) (f_X2_firstBroken_b7 n h b1 i2 i3)
  | 0, _, _, _, _, _, _, _, _ => nt_none
  | n + 1, _, _, R, _, _, A1, i2, i3 => n_X2_firstBroken_c7 (fun g h a1 b1 i2 i3 R A1 => n_X2_firstBroken_b7 n R A1 i2 i3) R A1 i2 i3
theorem n_X2_firstBroken {ρ : Nat → Nat} {D F : Nat → Prop} {h0 : nk_H} {u v : Nat}   {h yh : nk_H} (Rh : nt_R ρ D F h0 u v yh h) {t0 yt0 : Nat} (At0 : nt_A ρ D (nk_N h) t0 yt0) : nt_F ρ D F h0 u v (nk_N h) nt_q (f_X2_firstBroken h t0) (f_X2_firstBroken yh yt0) := by
  unfold f_X2_firstBroken
  refine nt_gI Rh (nt_vS At0) (fun x13 => ?_)
  exact nt_fk (n_X2_firstBroken_b7 _ Rh (nt_am At0 (by omega)) _ _) (by omega)
theorem n_X2_tellsRecordAs_c50 {ρ : Nat → Nat} {D F : Nat → Prop} {h0 : nk_H} {u v : Nat} {r17 r17' : nk_H → Nat → Int32 → Option Nat → Int32 → Option (nk_H × Int32)} (hr17 : ∀ (g h : nk_H) (a1 b1 : Nat) (i2 : Int32) (p3 q3 : Option Nat) (i4 : Int32), nt_R ρ D F h0 u v h g → nt_A ρ D (nk_N g) a1 b1 → nt_V ρ D (nk_N g) p3 q3 → nt_F ρ D F h0 u v (nk_N g) nt_q (r17 g a1 i2 p3 i4) (r17' h b1 i2 q3 i4)) {h yh : nk_H} (Rh : nt_R ρ D F h0 u v yh h) {t0 yt0 : Nat} (At0 : nt_A ρ D (nk_N h) t0 yt0) (v1 : Int32) {v2 yv2 : Option Nat} (Vv2 : nt_V ρ D (nk_N h) v2 yv2) (v3 : Int32) : nt_F ρ D F h0 u v (nk_N h) nt_q (f_X2_tellsRecordAs_c50 r17 h t0 v1 v2 v3) (f_X2_tellsRecordAs_c50 r17' yh yt0 v1 yv2 v3) := by
  unfold f_X2_tellsRecordAs_c50
  exact nt_fk (hr17 _ _ _ _ _ _ _ _ Rh (nt_am At0 (by omega)) (nt_vm Vv2 (by omega))) (by omega)
theorem n_X2_tellsRecordAs_c17 {ρ : Nat → Nat} {D F : Nat → Prop} {h0 : nk_H} {u v : Nat} {r17 r17' : nk_H → Nat → Int32 → Option Nat → Int32 → Option (nk_H × Int32)} (hr17 : ∀ (g h : nk_H) (a1 b1 : Nat) (i2 : Int32) (p3 q3 : Option Nat) (i4 : Int32), nt_R ρ D F h0 u v h g → nt_A ρ D (nk_N g) a1 b1 → nt_V ρ D (nk_N g) p3 q3 → nt_F ρ D F h0 u v (nk_N g) nt_q (r17 g a1 i2 p3 i4) (r17' h b1 i2 q3 i4)) {h yh : nk_H} (Rh : nt_R ρ D F h0 u v yh h) {t0 yt0 : Nat} (At0 : nt_A ρ D (nk_N h) t0 yt0) (v1 : Int32) {v2 yv2 : Option Nat} (Vv2 : nt_V ρ D (nk_N h) v2 yv2) (v3 : Int32) : nt_F ρ D F h0 u v (nk_N h) nt_q (f_X2_tellsRecordAs_c17 r17 h t0 v1 v2 v3) (f_X2_tellsRecordAs_c17 r17' yh yt0 v1 yv2 v3) := by
  unfold f_X2_tellsRecordAs_c17
  refine nt_ite ?_ ?_
  · exact nt_zr Rh _ rfl (by omega)
  · refine nt_rcv Rh (nt_vS At0) (fun a1 ya1 Aa1 => ?_)
    refine nt_doE (n_X2_leavesOut Rh (nt_am Aa1 (by omega)) _) (fun h2 yh2 x3 Rh2 Lh2 => ?_)
    refine nt_ite ?_ ?_
    · refine nt_gP Rh2 (nt_vS At0) (fun x4 yx4 Vx4 => ?_)
      refine nt_aP Rh2 Vx4 (fun x5 yx5 Vx5 => ?_)
      refine nt_aI Rh2 Vx5 (fun x6 => ?_)
      refine nt_gP Rh2 Vv2 (fun x7 yx7 Vx7 => ?_)
      refine nt_aI Rh2 Vx7 (fun x8 => ?_)
      refine nt_ite ?_ ?_
      · exact nt_fk (n_X2_tellsRecordAs_c50 hr17 Rh2 (nt_am At0 (by omega)) _ (nt_vm Vv2 (by omega)) _) (by omega)
      · exact nt_zr Rh2 _ rfl (by omega)
    · exact nt_fk (n_X2_tellsRecordAs_c50 hr17 Rh2 (nt_am At0 (by omega)) _ (nt_vm Vv2 (by omega)) _) (by omega)
theorem n_X2_tellsRecordAs_b17 {ρ : Nat → Nat} {D F : Nat → Prop} {h0 : nk_H} {u v : Nat}   : ∀ (n : Nat) {g h : nk_H} (R : nt_R ρ D F h0 u v h g) {a1 b1 : Nat} (A1 : nt_A ρ D (nk_N g) a1 b1) (i2 : Int32) {p3 q3 : Option Nat} (V3 : nt_V ρ D (nk_N g) p3 q3) (i4 : Int32), nt_F ρ D F h0 u v (nk_N g) nt_q (f_X2_tellsRecordAs_b17 n g a1 i2 p3 i4) (f_X2_tellsRecordAs_b17 n h b1 i2 q3 i4)
  | 0, _, _, _, _, _, _, _, _, _, _, _ => nt_none
  | n + 1, _, _, R, _, _, A1, i2, _, _, V3, i4 => n_X2_tellsRecordAs_c17 (fun g h a1 b1 i2 p3 q3 i4 R A1 V3 => n_X2_tellsRecordAs_b17 n R A1 i2 V3 i4) R A1 i2 V3 i4
theorem n_X2_tellsRecordAs {ρ : Nat → Nat} {D F : Nat → Prop} {h0 : nk_H} {u v : Nat}   {h yh : nk_H} (Rh : nt_R ρ D F h0 u v yh h) {t0 yt0 : Nat} (At0 : nt_A ρ D (nk_N h) t0 yt0) (v1 : Int32) {v2 yv2 : Option Nat} (Vv2 : nt_V ρ D (nk_N h) v2 yv2) : nt_F ρ D F h0 u v (nk_N h) nt_q (f_X2_tellsRecordAs h t0 v1 v2) (f_X2_tellsRecordAs yh yt0 v1 yv2) := by
  unfold f_X2_tellsRecordAs
  refine nt_gP Rh (nt_vS At0) (fun x9 yx9 Vx9 => ?_)
  refine nt_aI Rh Vx9 (fun x10 => ?_)
  refine nt_gI Rh Vv2 (fun x11 => ?_)
  refine nt_ite ?_ ?_
  · exact nt_fk (n_X2_tellsRecordAs_b17 _ Rh (nt_am At0 (by omega)) _ (nt_vm Vv2 (by omega)) _) (by omega)
  · exact nt_zr Rh _ rfl (by omega)
theorem n_X2_tellsAs_c2 {ρ : Nat → Nat} {D F : Nat → Prop} {h0 : nk_H} {u v : Nat} {r2 r2' : nk_H → Nat → Option Nat → Int32 → Option (nk_H × Int32)} (hr2 : ∀ (g h : nk_H) (a1 b1 : Nat) (p2 q2 : Option Nat) (i3 : Int32), nt_R ρ D F h0 u v h g → nt_A ρ D (nk_N g) a1 b1 → nt_V ρ D (nk_N g) p2 q2 → nt_F ρ D F h0 u v (nk_N g) nt_q (r2 g a1 p2 i3) (r2' h b1 q2 i3)) {h yh : nk_H} (Rh : nt_R ρ D F h0 u v yh h) {t0 yt0 : Nat} (At0 : nt_A ρ D (nk_N h) t0 yt0) {v1 yv1 : Option Nat} (Vv1 : nt_V ρ D (nk_N h) v1 yv1) (v2 : Int32) : nt_F ρ D F h0 u v (nk_N h) nt_q (f_X2_tellsAs_c2 r2 h t0 v1 v2) (f_X2_tellsAs_c2 r2' yh yt0 yv1 v2) := by
  unfold f_X2_tellsAs_c2
  refine nt_gI Rh (nt_vS At0) (fun x1 => ?_)
  refine nt_ite ?_ ?_
  · exact nt_zr Rh _ rfl (by omega)
  · refine nt_gI Rh (nt_vS At0) (fun x2 => ?_)
    refine nt_rcv Rh Vv1 (fun a3 ya3 Aa3 => ?_)
    refine nt_doV (n_X1_actOf Rh (nt_am Aa3 (by omega)) _) (fun h4 yh4 x5 yx5 Rh4 Vx5 Lh4 => ?_)
    refine nt_rcv Rh4 (nt_vS At0) (fun a6 ya6 Aa6 => ?_)
    refine nt_doE (n_X2_tellsRecordAs Rh4 (nt_am Aa6 (by omega)) _ (nt_vm Vx5 (by omega))) (fun h7 yh7 x8 Rh7 Lh7 => ?_)
    refine nt_ite ?_ ?_
    · exact nt_zr Rh7 _ rfl (by omega)
    · exact nt_fk (hr2 _ _ _ _ _ _ _ Rh7 (nt_am At0 (by omega)) (nt_vm Vv1 (by omega))) (by omega)
theorem n_X2_tellsAs_b2 {ρ : Nat → Nat} {D F : Nat → Prop} {h0 : nk_H} {u v : Nat}   : ∀ (n : Nat) {g h : nk_H} (R : nt_R ρ D F h0 u v h g) {a1 b1 : Nat} (A1 : nt_A ρ D (nk_N g) a1 b1) {p2 q2 : Option Nat} (V2 : nt_V ρ D (nk_N g) p2 q2) (i3 : Int32), nt_F ρ D F h0 u v (nk_N g) nt_q (f_X2_tellsAs_b2 n g a1 p2 i3) (f_X2_tellsAs_b2 n h b1 q2 i3)
  | 0, _, _, _, _, _, _, _, _, _, _ => nt_none
  | n + 1, _, _, R, _, _, A1, _, _, V2, i3 => n_X2_tellsAs_c2 (fun g h a1 b1 p2 q2 i3 R A1 V2 => n_X2_tellsAs_b2 n R A1 V2 i3) R A1 V2 i3
theorem n_X2_tellsAs {ρ : Nat → Nat} {D F : Nat → Prop} {h0 : nk_H} {u v : Nat}   {h yh : nk_H} (Rh : nt_R ρ D F h0 u v yh h) {t0 yt0 : Nat} (At0 : nt_A ρ D (nk_N h) t0 yt0) {v1 yv1 : Option Nat} (Vv1 : nt_V ρ D (nk_N h) v1 yv1) : nt_F ρ D F h0 u v (nk_N h) nt_q (f_X2_tellsAs h t0 v1) (f_X2_tellsAs yh yt0 yv1) := by
  unfold f_X2_tellsAs
  exact nt_fk (n_X2_tellsAs_b2 _ Rh (nt_am At0 (by omega)) (nt_vm Vv1 (by omega)) _) (by omega)
theorem n_X3_init {ρ : Nat → Nat} {D F : Nat → Prop} {h0 : nk_H} {u v : Nat}   {h yh : nk_H} (Rh : nt_R ρ D F h0 u v yh h) {t0 yt0 : Nat} (At0 : nt_A ρ D (nk_N h) t0 yt0) (v1 : Int32) (v2 : Int32) (v3 : Int32) (v4 : Int32) (v5 : Int32) (v6 : Int32) : nt_F ρ D F h0 u v (nk_N h) nt_q (f_X3_init h t0 v1 v2 v3 v4 v5 v6) (f_X3_init yh yt0 v1 v2 v3 v4 v5 v6) := by
  unfold f_X3_init
  refine nt_pI Rh (nt_vS At0) (fun h1 yh1 Rh1 Lh1 => ?_)
  refine nt_pI Rh1 (nt_vS At0) (fun h2 yh2 Rh2 Lh2 => ?_)
  refine nt_pI Rh2 (nt_vS At0) (fun h3 yh3 Rh3 Lh3 => ?_)
  refine nt_pI Rh3 (nt_vS At0) (fun h4 yh4 Rh4 Lh4 => ?_)
  refine nt_pI Rh4 (nt_vS At0) (fun h5 yh5 Rh5 Lh5 => ?_)
  refine nt_pI Rh5 (nt_vS At0) (fun h6 yh6 Rh6 Lh6 => ?_)
  exact nt_ret Rh6 rfl (by omega)
theorem n_X4_init {ρ : Nat → Nat} {D F : Nat → Prop} {h0 : nk_H} {u v : Nat}   {h yh : nk_H} (Rh : nt_R ρ D F h0 u v yh h) {t0 yt0 : Nat} (At0 : nt_A ρ D (nk_N h) t0 yt0) (v1 : Int32) (v2 : Int32) (v3 : Int32) : nt_F ρ D F h0 u v (nk_N h) nt_q (f_X4_init h t0 v1 v2 v3) (f_X4_init yh yt0 v1 v2 v3) := by
  unfold f_X4_init
  refine nt_doE (n_X8_init Rh (nt_am At0 (by omega))) (fun h1 yh1 x2 Rh1 Lh1 => ?_)
  refine nt_pI Rh1 (nt_vS At0) (fun h3 yh3 Rh3 Lh3 => ?_)
  refine nt_pI Rh3 (nt_vS At0) (fun h4 yh4 Rh4 Lh4 => ?_)
  refine nt_pI Rh4 (nt_vS At0) (fun h5 yh5 Rh5 Lh5 => ?_)
  exact nt_ret Rh5 rfl (by omega)
theorem n_X4_isDeputation_c29 {ρ : Nat → Nat} {D F : Nat → Prop} {h0 : nk_H} {u v : Nat}   {h yh : nk_H} (Rh : nt_R ρ D F h0 u v yh h) (s0 : Int32) : nt_F ρ D F h0 u v (nk_N h) nt_q (f_X4_isDeputation_c29 h s0) (f_X4_isDeputation_c29 yh s0) := by
  unfold f_X4_isDeputation_c29
  exact nt_zr Rh _ rfl (by omega)
theorem n_X4_isDeputation_c28 {ρ : Nat → Nat} {D F : Nat → Prop} {h0 : nk_H} {u v : Nat}   {h yh : nk_H} (Rh : nt_R ρ D F h0 u v yh h) : nt_F ρ D F h0 u v (nk_N h) nt_q (f_X4_isDeputation_c28 h) (f_X4_isDeputation_c28 yh) := by
  unfold f_X4_isDeputation_c28
  exact nt_fk (n_X4_isDeputation_c29 Rh _) (by omega)
theorem n_X4_isDeputation {ρ : Nat → Nat} {D F : Nat → Prop} {h0 : nk_H} {u v : Nat}   {h yh : nk_H} (Rh : nt_R ρ D F h0 u v yh h) {t0 yt0 : Nat} (At0 : nt_A ρ D (nk_N h) t0 yt0) (v1 : Int32) (v2 : Int32) (v3 : Int32) : nt_F ρ D F h0 u v (nk_N h) nt_q (f_X4_isDeputation h t0 v1 v2 v3) (f_X4_isDeputation yh yt0 v1 v2 v3) := by
  unfold f_X4_isDeputation
  refine nt_gI Rh (nt_vS At0) (fun x1 => ?_)
  refine nt_ite ?_ ?_
  · refine nt_gI Rh (nt_vS At0) (fun x2 => ?_)
    refine nt_ite ?_ ?_
    · exact nt_fk (n_X4_isDeputation_c28 Rh) (by omega)
    · refine nt_gI Rh (nt_vS At0) (fun x3 => ?_)
      refine nt_ite ?_ ?_
      · exact nt_fk (n_X4_isDeputation_c28 Rh) (by omega)
      · exact nt_fk (n_X4_isDeputation_c29 Rh _) (by omega)
  · exact nt_fk (n_X4_isDeputation_c28 Rh) (by omega)
theorem n_X5_init {ρ : Nat → Nat} {D F : Nat → Prop} {h0 : nk_H} {u v : Nat}   {h yh : nk_H} (Rh : nt_R ρ D F h0 u v yh h) {t0 yt0 : Nat} (At0 : nt_A ρ D (nk_N h) t0 yt0) (v1 : Int32) (v2 : Int32) (v3 : Int32) (v4 : Int32) (v5 : Int32) : nt_F ρ D F h0 u v (nk_N h) nt_q (f_X5_init h t0 v1 v2 v3 v4 v5) (f_X5_init yh yt0 v1 v2 v3 v4 v5) := by
  unfold f_X5_init
  refine nt_pI Rh (nt_vS At0) (fun h1 yh1 Rh1 Lh1 => ?_)
  refine nt_pI Rh1 (nt_vS At0) (fun h2 yh2 Rh2 Lh2 => ?_)
  refine nt_pI Rh2 (nt_vS At0) (fun h3 yh3 Rh3 Lh3 => ?_)
  refine nt_pI Rh3 (nt_vS At0) (fun h4 yh4 Rh4 Lh4 => ?_)
  refine nt_pI Rh4 (nt_vS At0) (fun h5 yh5 Rh5 Lh5 => ?_)
  exact nt_ret Rh5 rfl (by omega)
theorem n_X6_init {ρ : Nat → Nat} {D F : Nat → Prop} {h0 : nk_H} {u v : Nat}   {h yh : nk_H} (Rh : nt_R ρ D F h0 u v yh h) {t0 yt0 : Nat} (At0 : nt_A ρ D (nk_N h) t0 yt0) : nt_F ρ D F h0 u v (nk_N h) nt_q (f_X6_init h t0) (f_X6_init yh yt0) := by
  unfold f_X6_init
  refine nt_na Rh (fun h1 yh1 Rh1 Lh1 => ?_)
  refine nt_pP Rh1 (nt_vS At0) (nt_vN Rh (by omega)) (fun h2 yh2 Rh2 Lh2 => ?_)
  refine nt_na Rh2 (fun h3 yh3 Rh3 Lh3 => ?_)
  refine nt_pP Rh3 (nt_vS At0) (nt_vN Rh2 (by omega)) (fun h4 yh4 Rh4 Lh4 => ?_)
  exact nt_ret Rh4 rfl (by omega)
theorem n_X6_areLinked {ρ : Nat → Nat} {D F : Nat → Prop} {h0 : nk_H} {u v : Nat}   {h yh : nk_H} (Rh : nt_R ρ D F h0 u v yh h) {t0 yt0 : Nat} (At0 : nt_A ρ D (nk_N h) t0 yt0) (v1 : Int32) (v2 : Int32) : nt_F ρ D F h0 u v (nk_N h) nt_q (f_X6_areLinked h t0 v1 v2) (f_X6_areLinked yh yt0 v1 v2) := by
  unfold f_X6_areLinked
  refine nt_gP Rh (nt_vS At0) (fun x1 yx1 Vx1 => ?_)
  refine nt_aI Rh Vx1 (fun x2 => ?_)
  refine nt_doE (n_X11_hasBit Rh _ _) (fun h3 yh3 x4 Rh3 Lh3 => ?_)
  exact nt_zr Rh3 _ rfl (by omega)
theorem n_X6_degree {ρ : Nat → Nat} {D F : Nat → Prop} {h0 : nk_H} {u v : Nat}   {h yh : nk_H} (Rh : nt_R ρ D F h0 u v yh h) {t0 yt0 : Nat} (At0 : nt_A ρ D (nk_N h) t0 yt0) (v1 : Int32) : nt_F ρ D F h0 u v (nk_N h) nt_q (f_X6_degree h t0 v1) (f_X6_degree yh yt0 v1) := by
  unfold f_X6_degree
  refine nt_gP Rh (nt_vS At0) (fun x1 yx1 Vx1 => ?_)
  refine nt_aI Rh Vx1 (fun x2 => ?_)
  refine nt_doE (n_J6_bitCount_0f7a4 Rh _) (fun h3 yh3 x4 Rh3 Lh3 => ?_)
  exact nt_ret Rh3 rfl (by omega)
theorem n_X6_turn {ρ : Nat → Nat} {D F : Nat → Prop} {h0 : nk_H} {u v : Nat}   {h yh : nk_H} (Rh : nt_R ρ D F h0 u v yh h) {t0 yt0 : Nat} (At0 : nt_A ρ D (nk_N h) t0 yt0) (v1 : Int32) (v2 : Int32) : nt_F ρ D F h0 u v (nk_N h) nt_q (f_X6_turn h t0 v1 v2) (f_X6_turn yh yt0 v1 v2) := by
  unfold f_X6_turn
  refine nt_gP Rh (nt_vS At0) (fun x1 yx1 Vx1 => ?_)
  refine nt_aI Rh Vx1 (fun x2 => ?_)
  refine nt_doE (n_X11_bit Rh _) (fun h3 yh3 x4 Rh3 Lh3 => ?_)
  refine nt_wI Rh3 Vx1 (fun h5 yh5 Rh5 Lh5 => ?_)
  refine nt_gP Rh5 (nt_vS At0) (fun x6 yx6 Vx6 => ?_)
  refine nt_aI Rh5 Vx6 (fun x7 => ?_)
  refine nt_doE (n_X11_bit Rh5 _) (fun h8 yh8 x9 Rh8 Lh8 => ?_)
  refine nt_wI Rh8 Vx6 (fun h10 yh10 Rh10 Lh10 => ?_)
  exact nt_ret Rh10 rfl (by omega)
theorem n_X6_keep {ρ : Nat → Nat} {D F : Nat → Prop} {h0 : nk_H} {u v : Nat}   {h yh : nk_H} (Rh : nt_R ρ D F h0 u v yh h) {t0 yt0 : Nat} (At0 : nt_A ρ D (nk_N h) t0 yt0) (v1 : Int32) : nt_F ρ D F h0 u v (nk_N h) nt_q (f_X6_keep h t0 v1) (f_X6_keep yh yt0 v1) := by
  unfold f_X6_keep
  refine nt_gP Rh (nt_vS At0) (fun x1 yx1 Vx1 => ?_)
  refine nt_gP Rh (nt_vS At0) (fun x2 yx2 Vx2 => ?_)
  refine nt_cpI Rh Vx1 Vx2 (fun h3 yh3 Rh3 Lh3 => ?_)
  exact nt_ret Rh3 rfl (by omega)
theorem n_X6_reach_c36 {ρ : Nat → Nat} {D F : Nat → Prop} {h0 : nk_H} {u v : Nat} {r5 r5' : nk_H → Nat → Int32 → Int32 → Int32 → Int32 → Option (nk_H × Int32)} (hr5 : ∀ (g h : nk_H) (a1 b1 : Nat) (i2 : Int32) (i3 : Int32) (i4 : Int32) (i5 : Int32), nt_R ρ D F h0 u v h g → nt_A ρ D (nk_N g) a1 b1 → nt_F ρ D F h0 u v (nk_N g) nt_q (r5 g a1 i2 i3 i4 i5) (r5' h b1 i2 i3 i4 i5)) {h yh : nk_H} (Rh : nt_R ρ D F h0 u v yh h) {t0 yt0 : Nat} (At0 : nt_A ρ D (nk_N h) t0 yt0) (v1 : Int32) (v2 : Int32) (v3 : Int32) (v4 : Int32) : nt_F ρ D F h0 u v (nk_N h) nt_q (f_X6_reach_c36 r5 h t0 v1 v2 v3 v4) (f_X6_reach_c36 r5' yh yt0 v1 v2 v3 v4) := by
  unfold f_X6_reach_c36
  exact nt_fk (hr5 _ _ _ _ _ _ _ _ Rh (nt_am At0 (by omega))) (by omega)
theorem n_X6_reach_c5 {ρ : Nat → Nat} {D F : Nat → Prop} {h0 : nk_H} {u v : Nat} {r5 r5' : nk_H → Nat → Int32 → Int32 → Int32 → Int32 → Option (nk_H × Int32)} (hr5 : ∀ (g h : nk_H) (a1 b1 : Nat) (i2 : Int32) (i3 : Int32) (i4 : Int32) (i5 : Int32), nt_R ρ D F h0 u v h g → nt_A ρ D (nk_N g) a1 b1 → nt_F ρ D F h0 u v (nk_N g) nt_q (r5 g a1 i2 i3 i4 i5) (r5' h b1 i2 i3 i4 i5)) {h yh : nk_H} (Rh : nt_R ρ D F h0 u v yh h) {t0 yt0 : Nat} (At0 : nt_A ρ D (nk_N h) t0 yt0) (v1 : Int32) (v2 : Int32) (v3 : Int32) (v4 : Int32) : nt_F ρ D F h0 u v (nk_N h) nt_q (f_X6_reach_c5 r5 h t0 v1 v2 v3 v4) (f_X6_reach_c5 r5' yh yt0 v1 v2 v3 v4) := by
  unfold f_X6_reach_c5
  refine nt_ite ?_ ?_
  · exact nt_ret Rh rfl (by omega)
  · refine nt_doE (n_X11_hasBit Rh _ _) (fun h1 yh1 x2 Rh1 Lh1 => ?_)
    refine nt_ite ?_ ?_
    · exact nt_fk (n_X6_reach_c36 hr5 Rh1 (nt_am At0 (by omega)) _ _ _ _) (by omega)
    · refine nt_gP Rh1 (nt_vS At0) (fun x3 yx3 Vx3 => ?_)
      refine nt_aI Rh1 Vx3 (fun x4 => ?_)
      exact nt_fk (n_X6_reach_c36 hr5 Rh1 (nt_am At0 (by omega)) _ _ _ _) (by omega)
theorem n_X6_reach_b5 {ρ : Nat → Nat} {D F : Nat → Prop} {h0 : nk_H} {u v : Nat}   : ∀ (n : Nat) {g h : nk_H} (R : nt_R ρ D F h0 u v h g) {a1 b1 : Nat} (A1 : nt_A ρ D (nk_N g) a1 b1) (i2 : Int32) (i3 : Int32) (i4 : Int32) (i5 : Int32), nt_F ρ D F h0 u v (nk_N g) nt_q (f_X6_reach_b5 n g a1 i2 i3 i4 i5) (f_X6_reach_b5 n h b1 i2 i3 i4 i5)
  | 0, _, _, _, _, _, _, _, _, _, _ => nt_none
  | n + 1, _, _, R, _, _, A1, i2, i3, i4, i5 => n_X6_reach_c5 (fun g h a1 b1 i2 i3 i4 i5 R A1 => n_X6_reach_b5 n R A1 i2 i3 i4 i5) R A1 i2 i3 i4 i5
theorem n_X6_reach {ρ : Nat → Nat} {D F : Nat → Prop} {h0 : nk_H} {u v : Nat}   {h yh : nk_H} (Rh : nt_R ρ D F h0 u v yh h) {t0 yt0 : Nat} (At0 : nt_A ρ D (nk_N h) t0 yt0) (v1 : Int32) (v2 : Int32) : nt_F ρ D F h0 u v (nk_N h) nt_q (f_X6_reach h t0 v1 v2) (f_X6_reach yh yt0 v1 v2) := by
  unfold f_X6_reach
  exact nt_fk (n_X6_reach_b5 _ Rh (nt_am At0 (by omega)) _ _ _ _) (by omega)
theorem n_X7_init {ρ : Nat → Nat} {D F : Nat → Prop} {h0 : nk_H} {u v : Nat}   {h yh : nk_H} (Rh : nt_R ρ D F h0 u v yh h) {t0 yt0 : Nat} (At0 : nt_A ρ D (nk_N h) t0 yt0) : nt_F ρ D F h0 u v (nk_N h) nt_q (f_X7_init h t0) (f_X7_init yh yt0) := by
  unfold f_X7_init
  refine nt_al Rh (fun h1 yh1 Rh1 Lh1 => ?_)
  refine nt_doE (n_Jx4a65c_init_da8c8 Rh1 (nt_aN Rh (by omega))) (fun h2 yh2 x3 Rh2 Lh2 => ?_)
  refine nt_pP Rh2 (nt_vS At0) (nt_vN Rh (by omega)) (fun h4 yh4 Rh4 Lh4 => ?_)
  refine nt_na Rh4 (fun h5 yh5 Rh5 Lh5 => ?_)
  refine nt_pP Rh5 (nt_vS At0) (nt_vN Rh4 (by omega)) (fun h6 yh6 Rh6 Lh6 => ?_)
  exact nt_ret Rh6 rfl (by omega)
theorem n_X7_count {ρ : Nat → Nat} {D F : Nat → Prop} {h0 : nk_H} {u v : Nat}   {h yh : nk_H} (Rh : nt_R ρ D F h0 u v yh h) {t0 yt0 : Nat} (At0 : nt_A ρ D (nk_N h) t0 yt0) : nt_F ρ D F h0 u v (nk_N h) nt_q (f_X7_count h t0) (f_X7_count yh yt0) := by
  unfold f_X7_count
  refine nt_gP Rh (nt_vS At0) (fun x1 yx1 Vx1 => ?_)
  refine nt_rcv Rh Vx1 (fun a2 ya2 Aa2 => ?_)
  refine nt_doE (n_Jx4a65c_size_8abf5 Rh (nt_am Aa2 (by omega))) (fun h3 yh3 x4 Rh3 Lh3 => ?_)
  exact nt_ret Rh3 rfl (by omega)
theorem n_X7_pieceAt {ρ : Nat → Nat} {D F : Nat → Prop} {h0 : nk_H} {u v : Nat}   {h yh : nk_H} (Rh : nt_R ρ D F h0 u v yh h) {t0 yt0 : Nat} (At0 : nt_A ρ D (nk_N h) t0 yt0) (v1 : Int32) : nt_F ρ D F h0 u v (nk_N h) (nt_V ρ D) (f_X7_pieceAt h t0 v1) (f_X7_pieceAt yh yt0 v1) := by
  unfold f_X7_pieceAt
  refine nt_gP Rh (nt_vS At0) (fun x1 yx1 Vx1 => ?_)
  refine nt_rcv Rh Vx1 (fun a2 ya2 Aa2 => ?_)
  refine nt_doV (n_Jx4a65c_get_915e3 Rh (nt_am Aa2 (by omega)) _) (fun h3 yh3 x4 yx4 Rh3 Vx4 Lh3 => ?_)
  refine nt_cc Rh3 Vx4 ?_
  exact nt_ret Rh3 (nt_vm Vx4 (by omega)) (by omega)
theorem n_X8_comeTo {ρ : Nat → Nat} {D F : Nat → Prop} {h0 : nk_H} {u v : Nat}   {h yh : nk_H} (Rh : nt_R ρ D F h0 u v yh h) {t0 yt0 : Nat} (At0 : nt_A ρ D (nk_N h) t0 yt0) (v1 : Int32) (v2 : Int32) : nt_F ρ D F h0 u v (nk_N h) nt_q (f_X8_comeTo h t0 v1 v2) (f_X8_comeTo yh yt0 v1 v2) := by
  unfold f_X8_comeTo
  refine nt_gP Rh (nt_vS At0) (fun x1 yx1 Vx1 => ?_)
  refine nt_wI Rh Vx1 (fun h2 yh2 Rh2 Lh2 => ?_)
  refine nt_gI Rh2 (nt_vS At0) (fun x3 => ?_)
  refine nt_doE (n_X11_bit Rh2 _) (fun h4 yh4 x5 Rh4 Lh4 => ?_)
  refine nt_pI Rh4 (nt_vS At0) (fun h6 yh6 Rh6 Lh6 => ?_)
  exact nt_ret Rh6 rfl (by omega)
theorem n_X7_publish {ρ : Nat → Nat} {D F : Nat → Prop} {h0 : nk_H} {u v : Nat}   {h yh : nk_H} (Rh : nt_R ρ D F h0 u v yh h) {t0 yt0 : Nat} (At0 : nt_A ρ D (nk_N h) t0 yt0) {v1 yv1 : Option Nat} (Vv1 : nt_V ρ D (nk_N h) v1 yv1) (v2 : Int32) (v3 : Int32) : nt_F ρ D F h0 u v (nk_N h) nt_q (f_X7_publish h t0 v1 v2 v3) (f_X7_publish yh yt0 yv1 v2 v3) := by
  unfold f_X7_publish
  refine nt_gP Rh (nt_vS At0) (fun x1 yx1 Vx1 => ?_)
  refine nt_rcv Rh Vx1 (fun a2 ya2 Aa2 => ?_)
  refine nt_doE (n_Jx4a65c_size_8abf5 Rh (nt_am Aa2 (by omega))) (fun h3 yh3 x4 Rh3 Lh3 => ?_)
  refine nt_pI Rh3 Vv1 (fun h5 yh5 Rh5 Lh5 => ?_)
  refine nt_pI Rh5 Vv1 (fun h6 yh6 Rh6 Lh6 => ?_)
  refine nt_pI Rh6 Vv1 (fun h7 yh7 Rh7 Lh7 => ?_)
  refine nt_rcv Rh7 Vv1 (fun a8 ya8 Aa8 => ?_)
  refine nt_doE (n_X8_comeTo Rh7 (nt_am Aa8 (by omega)) _ _) (fun h9 yh9 x10 Rh9 Lh9 => ?_)
  refine nt_doE (n_X11_bit Rh9 _) (fun h11 yh11 x12 Rh11 Lh11 => ?_)
  refine nt_pI Rh11 Vv1 (fun h13 yh13 Rh13 Lh13 => ?_)
  refine nt_gP Rh13 (nt_vS At0) (fun x14 yx14 Vx14 => ?_)
  refine nt_rcv Rh13 Vx14 (fun a15 ya15 Aa15 => ?_)
  refine nt_doE (n_Jx4a65c_add_9ea2d Rh13 (nt_am Aa15 (by omega)) (nt_vm Vv1 (by omega))) (fun h16 yh16 x17 Rh16 Lh16 => ?_)
  refine nt_gI Rh16 Vv1 (fun x18 => ?_)
  exact nt_ret Rh16 rfl (by omega)
theorem n_X7_spread_c79 {ρ : Nat → Nat} {D F : Nat → Prop} {h0 : nk_H} {u v : Nat} {r5 r5' : nk_H → Nat → Option Nat → Int32 → Int32 → Int32 → Option (nk_H × Int32)} {r54 r54' : nk_H → Nat → Option Nat → Int32 → Int32 → Int32 → Option Nat → Int32 → Int32 → Option (nk_H × Int32)} (hr5 : ∀ (g h : nk_H) (a1 b1 : Nat) (p2 q2 : Option Nat) (i3 : Int32) (i4 : Int32) (i5 : Int32), nt_R ρ D F h0 u v h g → nt_A ρ D (nk_N g) a1 b1 → nt_V ρ D (nk_N g) p2 q2 → nt_F ρ D F h0 u v (nk_N g) nt_q (r5 g a1 p2 i3 i4 i5) (r5' h b1 q2 i3 i4 i5)) (hr54 : ∀ (g h : nk_H) (a1 b1 : Nat) (p2 q2 : Option Nat) (i3 : Int32) (i4 : Int32) (i5 : Int32) (p6 q6 : Option Nat) (i7 : Int32) (i8 : Int32), nt_R ρ D F h0 u v h g → nt_A ρ D (nk_N g) a1 b1 → nt_V ρ D (nk_N g) p2 q2 → nt_V ρ D (nk_N g) p6 q6 → nt_F ρ D F h0 u v (nk_N g) nt_q (r54 g a1 p2 i3 i4 i5 p6 i7 i8) (r54' h b1 q2 i3 i4 i5 q6 i7 i8)) {h yh : nk_H} (Rh : nt_R ρ D F h0 u v yh h) {t0 yt0 : Nat} (At0 : nt_A ρ D (nk_N h) t0 yt0) {v1 yv1 : Option Nat} (Vv1 : nt_V ρ D (nk_N h) v1 yv1) (v2 : Int32) (v3 : Int32) (v4 : Int32) {v5 yv5 : Option Nat} (Vv5 : nt_V ρ D (nk_N h) v5 yv5) (v6 : Int32) (v7 : Int32) : nt_F ρ D F h0 u v (nk_N h) nt_q (f_X7_spread_c79 r5 r54 h t0 v1 v2 v3 v4 v5 v6 v7) (f_X7_spread_c79 r5' r54' yh yt0 yv1 v2 v3 v4 yv5 v6 v7) := by
  unfold f_X7_spread_c79
  exact nt_fk (hr54 _ _ _ _ _ _ _ _ _ _ _ _ _ Rh (nt_am At0 (by omega)) (nt_vm Vv1 (by omega)) (nt_vm Vv5 (by omega))) (by omega)
theorem n_X7_spread_c54 {ρ : Nat → Nat} {D F : Nat → Prop} {h0 : nk_H} {u v : Nat} {r5 r5' : nk_H → Nat → Option Nat → Int32 → Int32 → Int32 → Option (nk_H × Int32)} {r54 r54' : nk_H → Nat → Option Nat → Int32 → Int32 → Int32 → Option Nat → Int32 → Int32 → Option (nk_H × Int32)} (hr5 : ∀ (g h : nk_H) (a1 b1 : Nat) (p2 q2 : Option Nat) (i3 : Int32) (i4 : Int32) (i5 : Int32), nt_R ρ D F h0 u v h g → nt_A ρ D (nk_N g) a1 b1 → nt_V ρ D (nk_N g) p2 q2 → nt_F ρ D F h0 u v (nk_N g) nt_q (r5 g a1 p2 i3 i4 i5) (r5' h b1 q2 i3 i4 i5)) (hr54 : ∀ (g h : nk_H) (a1 b1 : Nat) (p2 q2 : Option Nat) (i3 : Int32) (i4 : Int32) (i5 : Int32) (p6 q6 : Option Nat) (i7 : Int32) (i8 : Int32), nt_R ρ D F h0 u v h g → nt_A ρ D (nk_N g) a1 b1 → nt_V ρ D (nk_N g) p2 q2 → nt_V ρ D (nk_N g) p6 q6 → nt_F ρ D F h0 u v (nk_N g) nt_q (r54 g a1 p2 i3 i4 i5 p6 i7 i8) (r54' h b1 q2 i3 i4 i5 q6 i7 i8)) {h yh : nk_H} (Rh : nt_R ρ D F h0 u v yh h) {t0 yt0 : Nat} (At0 : nt_A ρ D (nk_N h) t0 yt0) {v1 yv1 : Option Nat} (Vv1 : nt_V ρ D (nk_N h) v1 yv1) (v2 : Int32) (v3 : Int32) (v4 : Int32) {v5 yv5 : Option Nat} (Vv5 : nt_V ρ D (nk_N h) v5 yv5) (v6 : Int32) (v7 : Int32) : nt_F ρ D F h0 u v (nk_N h) nt_q (f_X7_spread_c54 r5 r54 h t0 v1 v2 v3 v4 v5 v6 v7) (f_X7_spread_c54 r5' r54' yh yt0 yv1 v2 v3 v4 yv5 v6 v7) := by
  unfold f_X7_spread_c54
  refine nt_ite ?_ ?_
  · refine nt_doE (n_J6_bitCount_0f7a4 Rh _) (fun h1 yh1 x2 Rh1 Lh1 => ?_)
    exact nt_fk (hr5 _ _ _ _ _ _ _ _ _ Rh1 (nt_am At0 (by omega)) (nt_vm Vv1 (by omega))) (by omega)
  · refine nt_doE (n_X11_hasBit Rh _ _) (fun h3 yh3 x4 Rh3 Lh3 => ?_)
    refine nt_ite ?_ ?_
    · exact nt_fk (n_X7_spread_c79 hr5 hr54 Rh3 (nt_am At0 (by omega)) (nt_vm Vv1 (by omega)) _ _ _ (nt_vm Vv5 (by omega)) _ _) (by omega)
    · refine nt_rcv Rh3 Vv5 (fun a5 ya5 Aa5 => ?_)
      refine nt_doE (n_X8_comeTo Rh3 (nt_am Aa5 (by omega)) _ _) (fun h6 yh6 x7 Rh6 Lh6 => ?_)
      exact nt_fk (n_X7_spread_c79 hr5 hr54 Rh6 (nt_am At0 (by omega)) (nt_vm Vv1 (by omega)) _ _ _ (nt_vm Vv5 (by omega)) _ _) (by omega)
theorem n_X7_spread_b54 {ρ : Nat → Nat} {D F : Nat → Prop} {h0 : nk_H} {u v : Nat} {r5 r5' : nk_H → Nat → Option Nat → Int32 → Int32 → Int32 → Option (nk_H × Int32)} (hr5 : ∀ (g h : nk_H) (a1 b1 : Nat) (p2 q2 : Option Nat) (i3 : Int32) (i4 : Int32) (i5 : Int32), nt_R ρ D F h0 u v h g → nt_A ρ D (nk_N g) a1 b1 → nt_V ρ D (nk_N g) p2 q2 → nt_F ρ D F h0 u v (nk_N g) nt_q (r5 g a1 p2 i3 i4 i5) (r5' h b1 q2 i3 i4 i5)) : ∀ (n : Nat) {g h : nk_H} (R : nt_R ρ D F h0 u v h g) {a1 b1 : Nat} (A1 : nt_A ρ D (nk_N g) a1 b1) {p2 q2 : Option Nat} (V2 : nt_V ρ D (nk_N g) p2 q2) (i3 : Int32) (i4 : Int32) (i5 : Int32) {p6 q6 : Option Nat} (V6 : nt_V ρ D (nk_N g) p6 q6) (i7 : Int32) (i8 : Int32), nt_F ρ D F h0 u v (nk_N g) nt_q (f_X7_spread_b54 r5 n g a1 p2 i3 i4 i5 p6 i7 i8) (f_X7_spread_b54 r5' n h b1 q2 i3 i4 i5 q6 i7 i8)
  | 0, _, _, _, _, _, _, _, _, _, _, _, _, _, _, _, _, _ => nt_none
  | n + 1, _, _, R, _, _, A1, _, _, V2, i3, i4, i5, _, _, V6, i7, i8 => n_X7_spread_c54 hr5 (fun g h a1 b1 p2 q2 i3 i4 i5 p6 q6 i7 i8 R A1 V2 V6 => n_X7_spread_b54 hr5 n R A1 V2 i3 i4 i5 V6 i7 i8) R A1 V2 i3 i4 i5 V6 i7 i8
theorem n_X7_spread_c5 {ρ : Nat → Nat} {D F : Nat → Prop} {h0 : nk_H} {u v : Nat} {r5 r5' : nk_H → Nat → Option Nat → Int32 → Int32 → Int32 → Option (nk_H × Int32)} (hr5 : ∀ (g h : nk_H) (a1 b1 : Nat) (p2 q2 : Option Nat) (i3 : Int32) (i4 : Int32) (i5 : Int32), nt_R ρ D F h0 u v h g → nt_A ρ D (nk_N g) a1 b1 → nt_V ρ D (nk_N g) p2 q2 → nt_F ρ D F h0 u v (nk_N g) nt_q (r5 g a1 p2 i3 i4 i5) (r5' h b1 q2 i3 i4 i5)) {h yh : nk_H} (Rh : nt_R ρ D F h0 u v yh h) {t0 yt0 : Nat} (At0 : nt_A ρ D (nk_N h) t0 yt0) {v1 yv1 : Option Nat} (Vv1 : nt_V ρ D (nk_N h) v1 yv1) (v2 : Int32) (v3 : Int32) (v4 : Int32) : nt_F ρ D F h0 u v (nk_N h) nt_q (f_X7_spread_c5 r5 h t0 v1 v2 v3 v4) (f_X7_spread_c5 r5' yh yt0 yv1 v2 v3 v4) := by
  unfold f_X7_spread_c5
  refine nt_gP Rh (nt_vS At0) (fun x8 yx8 Vx8 => ?_)
  refine nt_rcv Rh Vx8 (fun a9 ya9 Aa9 => ?_)
  refine nt_doE (n_Jx4a65c_size_8abf5 Rh (nt_am Aa9 (by omega))) (fun h10 yh10 x11 Rh10 Lh10 => ?_)
  refine nt_ite ?_ ?_
  · exact nt_ret Rh10 rfl (by omega)
  · refine nt_gP Rh10 (nt_vS At0) (fun x12 yx12 Vx12 => ?_)
    refine nt_rcv Rh10 Vx12 (fun a13 ya13 Aa13 => ?_)
    refine nt_doV (n_Jx4a65c_get_915e3 Rh10 (nt_am Aa13 (by omega)) _) (fun h14 yh14 x15 yx15 Rh14 Vx15 Lh14 => ?_)
    refine nt_cc Rh14 Vx15 ?_
    refine nt_gI Rh14 Vx15 (fun x17 => ?_)
    refine nt_rcv Rh14 Vv1 (fun a18 ya18 Aa18 => ?_)
    refine nt_doE (n_X6_reach Rh14 (nt_am Aa18 (by omega)) _ _) (fun h19 yh19 x20 Rh19 Lh19 => ?_)
    refine nt_gI Rh19 Vx15 (fun x21 => ?_)
    exact nt_fk (n_X7_spread_b54 hr5 _ Rh19 (nt_am At0 (by omega)) (nt_vm Vv1 (by omega)) _ _ _ (nt_vm Vx15 (by omega)) _ _) (by omega)
theorem n_X7_spread_b5 {ρ : Nat → Nat} {D F : Nat → Prop} {h0 : nk_H} {u v : Nat}   : ∀ (n : Nat) {g h : nk_H} (R : nt_R ρ D F h0 u v h g) {a1 b1 : Nat} (A1 : nt_A ρ D (nk_N g) a1 b1) {p2 q2 : Option Nat} (V2 : nt_V ρ D (nk_N g) p2 q2) (i3 : Int32) (i4 : Int32) (i5 : Int32), nt_F ρ D F h0 u v (nk_N g) nt_q (f_X7_spread_b5 n g a1 p2 i3 i4 i5) (f_X7_spread_b5 n h b1 q2 i3 i4 i5)
  | 0, _, _, _, _, _, _, _, _, _, _, _, _ => nt_none
  | n + 1, _, _, R, _, _, A1, _, _, V2, i3, i4, i5 => n_X7_spread_c5 (fun g h a1 b1 p2 q2 i3 i4 i5 R A1 V2 => n_X7_spread_b5 n R A1 V2 i3 i4 i5) R A1 V2 i3 i4 i5
theorem n_X7_spread {ρ : Nat → Nat} {D F : Nat → Prop} {h0 : nk_H} {u v : Nat}   {h yh : nk_H} (Rh : nt_R ρ D F h0 u v yh h) {t0 yt0 : Nat} (At0 : nt_A ρ D (nk_N h) t0 yt0) {v1 yv1 : Option Nat} (Vv1 : nt_V ρ D (nk_N h) v1 yv1) (v2 : Int32) : nt_F ρ D F h0 u v (nk_N h) nt_q (f_X7_spread h t0 v1 v2) (f_X7_spread yh yt0 yv1 v2) := by
  unfold f_X7_spread
  exact nt_fk (n_X7_spread_b5 _ Rh (nt_am At0 (by omega)) (nt_vm Vv1 (by omega)) _ _ _) (by omega)
theorem n_X8_isInMail {ρ : Nat → Nat} {D F : Nat → Prop} {h0 : nk_H} {u v : Nat}   {h yh : nk_H} (Rh : nt_R ρ D F h0 u v yh h) {t0 yt0 : Nat} (At0 : nt_A ρ D (nk_N h) t0 yt0) (v1 : Int32) : nt_F ρ D F h0 u v (nk_N h) nt_q (f_X8_isInMail h t0 v1) (f_X8_isInMail yh yt0 v1) := by
  unfold f_X8_isInMail
  refine nt_gI Rh (nt_vS At0) (fun x1 => ?_)
  refine nt_gI Rh (nt_vS At0) (fun x2 => ?_)
  refine nt_doE (n_X11_hasBit Rh _ _) (fun h3 yh3 x4 Rh3 Lh3 => ?_)
  exact nt_zr Rh3 _ rfl (by omega)
theorem n_X7_unread_c36 {ρ : Nat → Nat} {D F : Nat → Prop} {h0 : nk_H} {u v : Nat} {r4 r4' : nk_H → Nat → Int32 → Int32 → Int32 → Option (nk_H × Int32)} (hr4 : ∀ (g h : nk_H) (a1 b1 : Nat) (i2 : Int32) (i3 : Int32) (i4 : Int32), nt_R ρ D F h0 u v h g → nt_A ρ D (nk_N g) a1 b1 → nt_F ρ D F h0 u v (nk_N g) nt_q (r4 g a1 i2 i3 i4) (r4' h b1 i2 i3 i4)) {h yh : nk_H} (Rh : nt_R ρ D F h0 u v yh h) {t0 yt0 : Nat} (At0 : nt_A ρ D (nk_N h) t0 yt0) (v1 : Int32) (v2 : Int32) (v3 : Int32) : nt_F ρ D F h0 u v (nk_N h) nt_q (f_X7_unread_c36 r4 h t0 v1 v2 v3) (f_X7_unread_c36 r4' yh yt0 v1 v2 v3) := by
  unfold f_X7_unread_c36
  exact nt_fk (hr4 _ _ _ _ _ _ _ Rh (nt_am At0 (by omega))) (by omega)
theorem n_X7_unread_c4 {ρ : Nat → Nat} {D F : Nat → Prop} {h0 : nk_H} {u v : Nat} {r4 r4' : nk_H → Nat → Int32 → Int32 → Int32 → Option (nk_H × Int32)} (hr4 : ∀ (g h : nk_H) (a1 b1 : Nat) (i2 : Int32) (i3 : Int32) (i4 : Int32), nt_R ρ D F h0 u v h g → nt_A ρ D (nk_N g) a1 b1 → nt_F ρ D F h0 u v (nk_N g) nt_q (r4 g a1 i2 i3 i4) (r4' h b1 i2 i3 i4)) {h yh : nk_H} (Rh : nt_R ρ D F h0 u v yh h) {t0 yt0 : Nat} (At0 : nt_A ρ D (nk_N h) t0 yt0) (v1 : Int32) (v2 : Int32) (v3 : Int32) : nt_F ρ D F h0 u v (nk_N h) nt_q (f_X7_unread_c4 r4 h t0 v1 v2 v3) (f_X7_unread_c4 r4' yh yt0 v1 v2 v3) := by
  unfold f_X7_unread_c4
  refine nt_gP Rh (nt_vS At0) (fun x1 yx1 Vx1 => ?_)
  refine nt_rcv Rh Vx1 (fun a2 ya2 Aa2 => ?_)
  refine nt_doE (n_Jx4a65c_size_8abf5 Rh (nt_am Aa2 (by omega))) (fun h3 yh3 x4 Rh3 Lh3 => ?_)
  refine nt_ite ?_ ?_
  · exact nt_ret Rh3 rfl (by omega)
  · refine nt_gP Rh3 (nt_vS At0) (fun x5 yx5 Vx5 => ?_)
    refine nt_rcv Rh3 Vx5 (fun a6 ya6 Aa6 => ?_)
    refine nt_doV (n_Jx4a65c_get_915e3 Rh3 (nt_am Aa6 (by omega)) _) (fun h7 yh7 x8 yx8 Rh7 Vx8 Lh7 => ?_)
    refine nt_cc Rh7 Vx8 ?_
    refine nt_rcv Rh7 Vx8 (fun a10 ya10 Aa10 => ?_)
    refine nt_doE (n_X8_isInMail Rh7 (nt_am Aa10 (by omega)) _) (fun h11 yh11 x12 Rh11 Lh11 => ?_)
    refine nt_ite ?_ ?_
    · exact nt_fk (n_X7_unread_c36 hr4 Rh11 (nt_am At0 (by omega)) _ _ _) (by omega)
    · exact nt_fk (n_X7_unread_c36 hr4 Rh11 (nt_am At0 (by omega)) _ _ _) (by omega)
theorem n_X7_unread_b4 {ρ : Nat → Nat} {D F : Nat → Prop} {h0 : nk_H} {u v : Nat}   : ∀ (n : Nat) {g h : nk_H} (R : nt_R ρ D F h0 u v h g) {a1 b1 : Nat} (A1 : nt_A ρ D (nk_N g) a1 b1) (i2 : Int32) (i3 : Int32) (i4 : Int32), nt_F ρ D F h0 u v (nk_N g) nt_q (f_X7_unread_b4 n g a1 i2 i3 i4) (f_X7_unread_b4 n h b1 i2 i3 i4)
  | 0, _, _, _, _, _, _, _, _, _ => nt_none
  | n + 1, _, _, R, _, _, A1, i2, i3, i4 => n_X7_unread_c4 (fun g h a1 b1 i2 i3 i4 R A1 => n_X7_unread_b4 n R A1 i2 i3 i4) R A1 i2 i3 i4
theorem n_X7_unread {ρ : Nat → Nat} {D F : Nat → Prop} {h0 : nk_H} {u v : Nat}   {h yh : nk_H} (Rh : nt_R ρ D F h0 u v yh h) {t0 yt0 : Nat} (At0 : nt_A ρ D (nk_N h) t0 yt0) (v1 : Int32) : nt_F ρ D F h0 u v (nk_N h) nt_q (f_X7_unread h t0 v1) (f_X7_unread yh yt0 v1) := by
  unfold f_X7_unread
  exact nt_fk (n_X7_unread_b4 _ Rh (nt_am At0 (by omega)) _ _ _) (by omega)
theorem n_X7_readMail_c55 {ρ : Nat → Nat} {D F : Nat → Prop} {h0 : nk_H} {u v : Nat} {r8 r8' : nk_H → Nat → Int32 → Int32 → Int32 → Option (nk_H × Int32)} (hr8 : ∀ (g h : nk_H) (a1 b1 : Nat) (i2 : Int32) (i3 : Int32) (i4 : Int32), nt_R ρ D F h0 u v h g → nt_A ρ D (nk_N g) a1 b1 → nt_F ρ D F h0 u v (nk_N g) nt_q (r8 g a1 i2 i3 i4) (r8' h b1 i2 i3 i4)) {h yh : nk_H} (Rh : nt_R ρ D F h0 u v yh h) {t0 yt0 : Nat} (At0 : nt_A ρ D (nk_N h) t0 yt0) (v1 : Int32) (v2 : Int32) (v3 : Int32) : nt_F ρ D F h0 u v (nk_N h) nt_q (f_X7_readMail_c55 r8 h t0 v1 v2 v3) (f_X7_readMail_c55 r8' yh yt0 v1 v2 v3) := by
  unfold f_X7_readMail_c55
  exact nt_fk (hr8 _ _ _ _ _ _ _ Rh (nt_am At0 (by omega))) (by omega)
theorem n_X7_readMail_c8 {ρ : Nat → Nat} {D F : Nat → Prop} {h0 : nk_H} {u v : Nat} {r8 r8' : nk_H → Nat → Int32 → Int32 → Int32 → Option (nk_H × Int32)} (hr8 : ∀ (g h : nk_H) (a1 b1 : Nat) (i2 : Int32) (i3 : Int32) (i4 : Int32), nt_R ρ D F h0 u v h g → nt_A ρ D (nk_N g) a1 b1 → nt_F ρ D F h0 u v (nk_N g) nt_q (r8 g a1 i2 i3 i4) (r8' h b1 i2 i3 i4)) {h yh : nk_H} (Rh : nt_R ρ D F h0 u v yh h) {t0 yt0 : Nat} (At0 : nt_A ρ D (nk_N h) t0 yt0) (v1 : Int32) (v2 : Int32) (v3 : Int32) : nt_F ρ D F h0 u v (nk_N h) nt_q (f_X7_readMail_c8 r8 h t0 v1 v2 v3) (f_X7_readMail_c8 r8' yh yt0 v1 v2 v3) := by
  unfold f_X7_readMail_c8
  refine nt_gP Rh (nt_vS At0) (fun x1 yx1 Vx1 => ?_)
  refine nt_rcv Rh Vx1 (fun a2 ya2 Aa2 => ?_)
  refine nt_doE (n_Jx4a65c_size_8abf5 Rh (nt_am Aa2 (by omega))) (fun h3 yh3 x4 Rh3 Lh3 => ?_)
  refine nt_ite ?_ ?_
  · exact nt_ret Rh3 rfl (by omega)
  · refine nt_gP Rh3 (nt_vS At0) (fun x5 yx5 Vx5 => ?_)
    refine nt_rcv Rh3 Vx5 (fun a6 ya6 Aa6 => ?_)
    refine nt_doV (n_Jx4a65c_get_915e3 Rh3 (nt_am Aa6 (by omega)) _) (fun h7 yh7 x8 yx8 Rh7 Vx8 Lh7 => ?_)
    refine nt_cc Rh7 Vx8 ?_
    refine nt_rcv Rh7 Vx8 (fun a10 ya10 Aa10 => ?_)
    refine nt_doE (n_X8_isInMail Rh7 (nt_am Aa10 (by omega)) _) (fun h11 yh11 x12 Rh11 Lh11 => ?_)
    refine nt_ite ?_ ?_
    · exact nt_fk (n_X7_readMail_c55 hr8 Rh11 (nt_am At0 (by omega)) _ _ _) (by omega)
    · refine nt_gI Rh11 Vx8 (fun x13 => ?_)
      refine nt_doE (n_X11_bit Rh11 _) (fun h14 yh14 x15 Rh14 Lh14 => ?_)
      refine nt_pI Rh14 Vx8 (fun h16 yh16 Rh16 Lh16 => ?_)
      exact nt_fk (n_X7_readMail_c55 hr8 Rh16 (nt_am At0 (by omega)) _ _ _) (by omega)
theorem n_X7_readMail_b8 {ρ : Nat → Nat} {D F : Nat → Prop} {h0 : nk_H} {u v : Nat}   : ∀ (n : Nat) {g h : nk_H} (R : nt_R ρ D F h0 u v h g) {a1 b1 : Nat} (A1 : nt_A ρ D (nk_N g) a1 b1) (i2 : Int32) (i3 : Int32) (i4 : Int32), nt_F ρ D F h0 u v (nk_N g) nt_q (f_X7_readMail_b8 n g a1 i2 i3 i4) (f_X7_readMail_b8 n h b1 i2 i3 i4)
  | 0, _, _, _, _, _, _, _, _, _ => nt_none
  | n + 1, _, _, R, _, _, A1, i2, i3, i4 => n_X7_readMail_c8 (fun g h a1 b1 i2 i3 i4 R A1 => n_X7_readMail_b8 n R A1 i2 i3 i4) R A1 i2 i3 i4
theorem n_X7_readMail {ρ : Nat → Nat} {D F : Nat → Prop} {h0 : nk_H} {u v : Nat}   {h yh : nk_H} (Rh : nt_R ρ D F h0 u v yh h) {t0 yt0 : Nat} (At0 : nt_A ρ D (nk_N h) t0 yt0) (v1 : Int32) : nt_F ρ D F h0 u v (nk_N h) nt_q (f_X7_readMail h t0 v1) (f_X7_readMail yh yt0 v1) := by
  unfold f_X7_readMail
  refine nt_rcv Rh (nt_vS At0) (fun a17 ya17 Aa17 => ?_)
  refine nt_doE (n_X7_unread Rh (nt_am Aa17 (by omega)) _) (fun h18 yh18 x19 Rh18 Lh18 => ?_)
  exact nt_fk (n_X7_readMail_b8 _ Rh18 (nt_am At0 (by omega)) _ _ _) (by omega)
theorem n_X7_lookAtRead_c52 {ρ : Nat → Nat} {D F : Nat → Prop} {h0 : nk_H} {u v : Nat}   {h yh : nk_H} (Rh : nt_R ρ D F h0 u v yh h) : nt_F ρ D F h0 u v (nk_N h) nt_q (f_X7_lookAtRead_c52 h) (f_X7_lookAtRead_c52 yh) := by
  unfold f_X7_lookAtRead_c52
  exact nt_ret Rh rfl (by omega)
theorem n_X7_lookAtRead_c2 {ρ : Nat → Nat} {D F : Nat → Prop} {h0 : nk_H} {u v : Nat} {r2 r2' : nk_H → Nat → Int32 → Int32 → Option (nk_H × Unit)} (hr2 : ∀ (g h : nk_H) (a1 b1 : Nat) (i2 : Int32) (i3 : Int32), nt_R ρ D F h0 u v h g → nt_A ρ D (nk_N g) a1 b1 → nt_F ρ D F h0 u v (nk_N g) nt_q (r2 g a1 i2 i3) (r2' h b1 i2 i3)) {h yh : nk_H} (Rh : nt_R ρ D F h0 u v yh h) {t0 yt0 : Nat} (At0 : nt_A ρ D (nk_N h) t0 yt0) (v1 : Int32) (v2 : Int32) : nt_F ρ D F h0 u v (nk_N h) nt_q (f_X7_lookAtRead_c2 r2 h t0 v1 v2) (f_X7_lookAtRead_c2 r2' yh yt0 v1 v2) := by
  unfold f_X7_lookAtRead_c2
  refine nt_gP Rh (nt_vS At0) (fun x1 yx1 Vx1 => ?_)
  refine nt_rcv Rh Vx1 (fun a2 ya2 Aa2 => ?_)
  refine nt_doE (n_Jx4a65c_size_8abf5 Rh (nt_am Aa2 (by omega))) (fun h3 yh3 x4 Rh3 Lh3 => ?_)
  refine nt_ite ?_ ?_
  · exact nt_fk (n_X7_lookAtRead_c52 Rh3) (by omega)
  · refine nt_gP Rh3 (nt_vS At0) (fun x5 yx5 Vx5 => ?_)
    refine nt_len Rh3 Vx5 (fun x6 => ?_)
    refine nt_ite ?_ ?_
    · exact nt_fk (n_X7_lookAtRead_c52 Rh3) (by omega)
    · refine nt_gP Rh3 (nt_vS At0) (fun x7 yx7 Vx7 => ?_)
      refine nt_gP Rh3 (nt_vS At0) (fun x8 yx8 Vx8 => ?_)
      refine nt_rcv Rh3 Vx8 (fun a9 ya9 Aa9 => ?_)
      refine nt_doV (n_Jx4a65c_get_915e3 Rh3 (nt_am Aa9 (by omega)) _) (fun h10 yh10 x11 yx11 Rh10 Vx11 Lh10 => ?_)
      refine nt_cc Rh10 Vx11 ?_
      refine nt_gI Rh10 Vx11 (fun x13 => ?_)
      refine nt_doE (n_X11_hasBit Rh10 _ _) (fun h14 yh14 x15 Rh14 Lh14 => ?_)
      refine nt_wZ Rh14 Vx7 (fun h16 yh16 Rh16 Lh16 => ?_)
      exact nt_fk (hr2 _ _ _ _ _ _ Rh16 (nt_am At0 (by omega))) (by omega)
theorem n_X7_lookAtRead_b2 {ρ : Nat → Nat} {D F : Nat → Prop} {h0 : nk_H} {u v : Nat}   : ∀ (n : Nat) {g h : nk_H} (R : nt_R ρ D F h0 u v h g) {a1 b1 : Nat} (A1 : nt_A ρ D (nk_N g) a1 b1) (i2 : Int32) (i3 : Int32), nt_F ρ D F h0 u v (nk_N g) nt_q (f_X7_lookAtRead_b2 n g a1 i2 i3) (f_X7_lookAtRead_b2 n h b1 i2 i3)
  | 0, _, _, _, _, _, _, _, _ => nt_none
  | n + 1, _, _, R, _, _, A1, i2, i3 => n_X7_lookAtRead_c2 (fun g h a1 b1 i2 i3 R A1 => n_X7_lookAtRead_b2 n R A1 i2 i3) R A1 i2 i3
theorem n_X7_lookAtRead {ρ : Nat → Nat} {D F : Nat → Prop} {h0 : nk_H} {u v : Nat}   {h yh : nk_H} (Rh : nt_R ρ D F h0 u v yh h) {t0 yt0 : Nat} (At0 : nt_A ρ D (nk_N h) t0 yt0) (v1 : Int32) : nt_F ρ D F h0 u v (nk_N h) nt_q (f_X7_lookAtRead h t0 v1) (f_X7_lookAtRead yh yt0 v1) := by
  unfold f_X7_lookAtRead
  exact nt_fk (n_X7_lookAtRead_b2 _ Rh (nt_am At0 (by omega)) _ _) (by omega)
theorem n_X8_couldBeReadFor_c27 {ρ : Nat → Nat} {D F : Nat → Prop} {h0 : nk_H} {u v : Nat}   {h yh : nk_H} (Rh : nt_R ρ D F h0 u v yh h) (s0 : Int32) : nt_F ρ D F h0 u v (nk_N h) nt_q (f_X8_couldBeReadFor_c27 h s0) (f_X8_couldBeReadFor_c27 yh s0) := by
  unfold f_X8_couldBeReadFor_c27
  exact nt_zr Rh _ rfl (by omega)
theorem n_X8_couldBeReadFor_c63 {ρ : Nat → Nat} {D F : Nat → Prop} {h0 : nk_H} {u v : Nat}   {h yh : nk_H} (Rh : nt_R ρ D F h0 u v yh h) (s0 : Int32) : nt_F ρ D F h0 u v (nk_N h) nt_q (f_X8_couldBeReadFor_c63 h s0) (f_X8_couldBeReadFor_c63 yh s0) := by
  unfold f_X8_couldBeReadFor_c63
  exact nt_zr Rh _ rfl (by omega)
theorem n_X8_couldBeReadFor_c62 {ρ : Nat → Nat} {D F : Nat → Prop} {h0 : nk_H} {u v : Nat}   {h yh : nk_H} (Rh : nt_R ρ D F h0 u v yh h) : nt_F ρ D F h0 u v (nk_N h) nt_q (f_X8_couldBeReadFor_c62 h) (f_X8_couldBeReadFor_c62 yh) := by
  unfold f_X8_couldBeReadFor_c62
  exact nt_fk (n_X8_couldBeReadFor_c63 Rh _) (by omega)
theorem n_X8_couldBeReadFor {ρ : Nat → Nat} {D F : Nat → Prop} {h0 : nk_H} {u v : Nat}   {h yh : nk_H} (Rh : nt_R ρ D F h0 u v yh h) {t0 yt0 : Nat} (At0 : nt_A ρ D (nk_N h) t0 yt0) {v1 yv1 : Option Nat} (Vv1 : nt_V ρ D (nk_N h) v1 yv1) : nt_F ρ D F h0 u v (nk_N h) nt_q (f_X8_couldBeReadFor h t0 v1) (f_X8_couldBeReadFor yh yt0 yv1) := by
  unfold f_X8_couldBeReadFor
  refine nt_gI Rh (nt_vS At0) (fun x1 => ?_)
  refine nt_gI Rh Vv1 (fun x2 => ?_)
  refine nt_ite ?_ ?_
  · refine nt_gI Rh (nt_vS At0) (fun x3 => ?_)
    refine nt_gI Rh Vv1 (fun x4 => ?_)
    refine nt_ite ?_ ?_
    · exact nt_fk (n_X8_couldBeReadFor_c27 Rh _) (by omega)
    · exact nt_fk (n_X8_couldBeReadFor_c27 Rh _) (by omega)
  · refine nt_gI Rh (nt_vS At0) (fun x5 => ?_)
    refine nt_gI Rh Vv1 (fun x6 => ?_)
    refine nt_doE (n_X11_hasBit Rh _ _) (fun h7 yh7 x8 Rh7 Lh7 => ?_)
    refine nt_ite ?_ ?_
    · exact nt_fk (n_X8_couldBeReadFor_c62 Rh7) (by omega)
    · refine nt_gP Rh7 (nt_vS At0) (fun x9 yx9 Vx9 => ?_)
      refine nt_gI Rh7 Vv1 (fun x10 => ?_)
      refine nt_aI Rh7 Vx9 (fun x11 => ?_)
      refine nt_gI Rh7 Vv1 (fun x12 => ?_)
      refine nt_ite ?_ ?_
      · exact nt_fk (n_X8_couldBeReadFor_c62 Rh7) (by omega)
      · exact nt_fk (n_X8_couldBeReadFor_c63 Rh7 _) (by omega)
theorem n_X7_lookAtReadable_c49 {ρ : Nat → Nat} {D F : Nat → Prop} {h0 : nk_H} {u v : Nat}   {h yh : nk_H} (Rh : nt_R ρ D F h0 u v yh h) : nt_F ρ D F h0 u v (nk_N h) nt_q (f_X7_lookAtReadable_c49 h) (f_X7_lookAtReadable_c49 yh) := by
  unfold f_X7_lookAtReadable_c49
  exact nt_ret Rh rfl (by omega)
theorem n_X7_lookAtReadable_c2 {ρ : Nat → Nat} {D F : Nat → Prop} {h0 : nk_H} {u v : Nat} {r2 r2' : nk_H → Nat → Option Nat → Int32 → Option (nk_H × Unit)} (hr2 : ∀ (g h : nk_H) (a1 b1 : Nat) (p2 q2 : Option Nat) (i3 : Int32), nt_R ρ D F h0 u v h g → nt_A ρ D (nk_N g) a1 b1 → nt_V ρ D (nk_N g) p2 q2 → nt_F ρ D F h0 u v (nk_N g) nt_q (r2 g a1 p2 i3) (r2' h b1 q2 i3)) {h yh : nk_H} (Rh : nt_R ρ D F h0 u v yh h) {t0 yt0 : Nat} (At0 : nt_A ρ D (nk_N h) t0 yt0) {v1 yv1 : Option Nat} (Vv1 : nt_V ρ D (nk_N h) v1 yv1) (v2 : Int32) : nt_F ρ D F h0 u v (nk_N h) nt_q (f_X7_lookAtReadable_c2 r2 h t0 v1 v2) (f_X7_lookAtReadable_c2 r2' yh yt0 yv1 v2) := by
  unfold f_X7_lookAtReadable_c2
  refine nt_gP Rh (nt_vS At0) (fun x1 yx1 Vx1 => ?_)
  refine nt_rcv Rh Vx1 (fun a2 ya2 Aa2 => ?_)
  refine nt_doE (n_Jx4a65c_size_8abf5 Rh (nt_am Aa2 (by omega))) (fun h3 yh3 x4 Rh3 Lh3 => ?_)
  refine nt_ite ?_ ?_
  · exact nt_fk (n_X7_lookAtReadable_c49 Rh3) (by omega)
  · refine nt_gP Rh3 (nt_vS At0) (fun x5 yx5 Vx5 => ?_)
    refine nt_len Rh3 Vx5 (fun x6 => ?_)
    refine nt_ite ?_ ?_
    · exact nt_fk (n_X7_lookAtReadable_c49 Rh3) (by omega)
    · refine nt_gP Rh3 (nt_vS At0) (fun x7 yx7 Vx7 => ?_)
      refine nt_gP Rh3 (nt_vS At0) (fun x8 yx8 Vx8 => ?_)
      refine nt_rcv Rh3 Vx8 (fun a9 ya9 Aa9 => ?_)
      refine nt_doV (n_Jx4a65c_get_915e3 Rh3 (nt_am Aa9 (by omega)) _) (fun h10 yh10 x11 yx11 Rh10 Vx11 Lh10 => ?_)
      refine nt_cc Rh10 Vx11 ?_
      refine nt_rcv Rh10 Vx11 (fun a13 ya13 Aa13 => ?_)
      refine nt_doE (n_X8_couldBeReadFor Rh10 (nt_am Aa13 (by omega)) (nt_vm Vv1 (by omega))) (fun h14 yh14 x15 Rh14 Lh14 => ?_)
      refine nt_wZ Rh14 Vx7 (fun h16 yh16 Rh16 Lh16 => ?_)
      exact nt_fk (hr2 _ _ _ _ _ _ _ Rh16 (nt_am At0 (by omega)) (nt_vm Vv1 (by omega))) (by omega)
theorem n_X7_lookAtReadable_b2 {ρ : Nat → Nat} {D F : Nat → Prop} {h0 : nk_H} {u v : Nat}   : ∀ (n : Nat) {g h : nk_H} (R : nt_R ρ D F h0 u v h g) {a1 b1 : Nat} (A1 : nt_A ρ D (nk_N g) a1 b1) {p2 q2 : Option Nat} (V2 : nt_V ρ D (nk_N g) p2 q2) (i3 : Int32), nt_F ρ D F h0 u v (nk_N g) nt_q (f_X7_lookAtReadable_b2 n g a1 p2 i3) (f_X7_lookAtReadable_b2 n h b1 q2 i3)
  | 0, _, _, _, _, _, _, _, _, _, _ => nt_none
  | n + 1, _, _, R, _, _, A1, _, _, V2, i3 => n_X7_lookAtReadable_c2 (fun g h a1 b1 p2 q2 i3 R A1 V2 => n_X7_lookAtReadable_b2 n R A1 V2 i3) R A1 V2 i3
theorem n_X7_lookAtReadable {ρ : Nat → Nat} {D F : Nat → Prop} {h0 : nk_H} {u v : Nat}   {h yh : nk_H} (Rh : nt_R ρ D F h0 u v yh h) {t0 yt0 : Nat} (At0 : nt_A ρ D (nk_N h) t0 yt0) {v1 yv1 : Option Nat} (Vv1 : nt_V ρ D (nk_N h) v1 yv1) : nt_F ρ D F h0 u v (nk_N h) nt_q (f_X7_lookAtReadable h t0 v1) (f_X7_lookAtReadable yh yt0 yv1) := by
  unfold f_X7_lookAtReadable
  exact nt_fk (n_X7_lookAtReadable_b2 _ Rh (nt_am At0 (by omega)) (nt_vm Vv1 (by omega)) _) (by omega)
theorem n_X7_lookAtAll_c35 {ρ : Nat → Nat} {D F : Nat → Prop} {h0 : nk_H} {u v : Nat}   {h yh : nk_H} (Rh : nt_R ρ D F h0 u v yh h) : nt_F ρ D F h0 u v (nk_N h) nt_q (f_X7_lookAtAll_c35 h) (f_X7_lookAtAll_c35 yh) := by
  unfold f_X7_lookAtAll_c35
  exact nt_ret Rh rfl (by omega)
theorem n_X7_lookAtAll_c2 {ρ : Nat → Nat} {D F : Nat → Prop} {h0 : nk_H} {u v : Nat} {r2 r2' : nk_H → Nat → Int32 → Option (nk_H × Unit)} (hr2 : ∀ (g h : nk_H) (a1 b1 : Nat) (i2 : Int32), nt_R ρ D F h0 u v h g → nt_A ρ D (nk_N g) a1 b1 → nt_F ρ D F h0 u v (nk_N g) nt_q (r2 g a1 i2) (r2' h b1 i2)) {h yh : nk_H} (Rh : nt_R ρ D F h0 u v yh h) {t0 yt0 : Nat} (At0 : nt_A ρ D (nk_N h) t0 yt0) (v1 : Int32) : nt_F ρ D F h0 u v (nk_N h) nt_q (f_X7_lookAtAll_c2 r2 h t0 v1) (f_X7_lookAtAll_c2 r2' yh yt0 v1) := by
  unfold f_X7_lookAtAll_c2
  refine nt_gP Rh (nt_vS At0) (fun x1 yx1 Vx1 => ?_)
  refine nt_rcv Rh Vx1 (fun a2 ya2 Aa2 => ?_)
  refine nt_doE (n_Jx4a65c_size_8abf5 Rh (nt_am Aa2 (by omega))) (fun h3 yh3 x4 Rh3 Lh3 => ?_)
  refine nt_ite ?_ ?_
  · exact nt_fk (n_X7_lookAtAll_c35 Rh3) (by omega)
  · refine nt_gP Rh3 (nt_vS At0) (fun x5 yx5 Vx5 => ?_)
    refine nt_len Rh3 Vx5 (fun x6 => ?_)
    refine nt_ite ?_ ?_
    · exact nt_fk (n_X7_lookAtAll_c35 Rh3) (by omega)
    · refine nt_gP Rh3 (nt_vS At0) (fun x7 yx7 Vx7 => ?_)
      refine nt_wZ Rh3 Vx7 (fun h8 yh8 Rh8 Lh8 => ?_)
      exact nt_fk (hr2 _ _ _ _ _ Rh8 (nt_am At0 (by omega))) (by omega)
theorem n_X7_lookAtAll_b2 {ρ : Nat → Nat} {D F : Nat → Prop} {h0 : nk_H} {u v : Nat}   : ∀ (n : Nat) {g h : nk_H} (R : nt_R ρ D F h0 u v h g) {a1 b1 : Nat} (A1 : nt_A ρ D (nk_N g) a1 b1) (i2 : Int32), nt_F ρ D F h0 u v (nk_N g) nt_q (f_X7_lookAtAll_b2 n g a1 i2) (f_X7_lookAtAll_b2 n h b1 i2)
  | 0, _, _, _, _, _, _, _ => nt_none
  | n + 1, _, _, R, _, _, A1, i2 => n_X7_lookAtAll_c2 (fun g h a1 b1 i2 R A1 => n_X7_lookAtAll_b2 n R A1 i2) R A1 i2
theorem n_X7_lookAtAll {ρ : Nat → Nat} {D F : Nat → Prop} {h0 : nk_H} {u v : Nat}   {h yh : nk_H} (Rh : nt_R ρ D F h0 u v yh h) {t0 yt0 : Nat} (At0 : nt_A ρ D (nk_N h) t0 yt0) : nt_F ρ D F h0 u v (nk_N h) nt_q (f_X7_lookAtAll h t0) (f_X7_lookAtAll yh yt0) := by
  unfold f_X7_lookAtAll
  exact nt_fk (n_X7_lookAtAll_b2 _ Rh (nt_am At0 (by omega)) _) (by omega)
theorem n_X7_sees_c27 {ρ : Nat → Nat} {D F : Nat → Prop} {h0 : nk_H} {u v : Nat}   {h yh : nk_H} (Rh : nt_R ρ D F h0 u v yh h) (s0 : Int32) : nt_F ρ D F h0 u v (nk_N h) nt_q (f_X7_sees_c27 h s0) (f_X7_sees_c27 yh s0) := by
  unfold f_X7_sees_c27
  exact nt_zr Rh _ rfl (by omega)
theorem n_X7_sees_c26 {ρ : Nat → Nat} {D F : Nat → Prop} {h0 : nk_H} {u v : Nat}   {h yh : nk_H} (Rh : nt_R ρ D F h0 u v yh h) : nt_F ρ D F h0 u v (nk_N h) nt_q (f_X7_sees_c26 h) (f_X7_sees_c26 yh) := by
  unfold f_X7_sees_c26
  exact nt_fk (n_X7_sees_c27 Rh _) (by omega)
theorem n_X7_sees {ρ : Nat → Nat} {D F : Nat → Prop} {h0 : nk_H} {u v : Nat}   {h yh : nk_H} (Rh : nt_R ρ D F h0 u v yh h) {t0 yt0 : Nat} (At0 : nt_A ρ D (nk_N h) t0 yt0) (v1 : Int32) : nt_F ρ D F h0 u v (nk_N h) nt_q (f_X7_sees h t0 v1) (f_X7_sees yh yt0 v1) := by
  unfold f_X7_sees
  refine nt_ite ?_ ?_
  · exact nt_fk (n_X7_sees_c26 Rh) (by omega)
  · refine nt_gP Rh (nt_vS At0) (fun x1 yx1 Vx1 => ?_)
    refine nt_len Rh Vx1 (fun x2 => ?_)
    refine nt_ite ?_ ?_
    · exact nt_fk (n_X7_sees_c26 Rh) (by omega)
    · refine nt_gP Rh (nt_vS At0) (fun x3 yx3 Vx3 => ?_)
      refine nt_aI Rh Vx3 (fun x4 => ?_)
      refine nt_ite ?_ ?_
      · exact nt_fk (n_X7_sees_c26 Rh) (by omega)
      · exact nt_fk (n_X7_sees_c27 Rh _) (by omega)
end
section
/-! ===== naturality, function by function (by program: wip/p44/gen/gen_nat.py) ===== -/
theorem n_X7_knows_c2 {ρ : Nat → Nat} {D F : Nat → Prop} {h0 : nk_H} {u v : Nat} {r2 r2' : nk_H → Nat → Option Nat → Option (nk_H × Int32)} (hr2 : ∀ (g h : nk_H) (a1 b1 : Nat) (p2 q2 : Option Nat), nt_R ρ D F h0 u v h g → nt_A ρ D (nk_N g) a1 b1 → nt_V ρ D (nk_N g) p2 q2 → nt_F ρ D F h0 u v (nk_N g) nt_q (r2 g a1 p2) (r2' h b1 q2)) {h yh : nk_H} (Rh : nt_R ρ D F h0 u v yh h) {t0 yt0 : Nat} (At0 : nt_A ρ D (nk_N h) t0 yt0) {v2 yv2 : Option Nat} (Vv2 : nt_V ρ D (nk_N h) v2 yv2) : nt_F ρ D F h0 u v (nk_N h) nt_q (f_X7_knows_c2 r2 h t0 v2) (f_X7_knows_c2 r2' yh yt0 yv2) := by
  unfold f_X7_knows_c2
  refine nt_iteP (nt_eq Rh Vv2 (nt_vn (n := 0))) ?_ ?_
  · exact nt_zr Rh _ rfl (by omega)
  · refine nt_gI Rh Vv2 (fun x1 => ?_)
    refine nt_rcv Rh (nt_vS At0) (fun a2 ya2 Aa2 => ?_)
    refine nt_doE (n_X7_sees Rh (nt_am Aa2 (by omega)) _) (fun h3 yh3 x4 Rh3 Lh3 => ?_)
    refine nt_ite ?_ ?_
    · exact nt_zr Rh3 _ rfl (by omega)
    · refine nt_gP Rh3 Vv2 (fun x5 yx5 Vx5 => ?_)
      exact nt_fk (hr2 _ _ _ _ _ _ Rh3 (nt_am At0 (by omega)) (nt_vm Vx5 (by omega))) (by omega)
theorem n_X7_knows_b2 {ρ : Nat → Nat} {D F : Nat → Prop} {h0 : nk_H} {u v : Nat}   : ∀ (n : Nat) {g h : nk_H} (R : nt_R ρ D F h0 u v h g) {a1 b1 : Nat} (A1 : nt_A ρ D (nk_N g) a1 b1) {p2 q2 : Option Nat} (V2 : nt_V ρ D (nk_N g) p2 q2), nt_F ρ D F h0 u v (nk_N g) nt_q (f_X7_knows_b2 n g a1 p2) (f_X7_knows_b2 n h b1 q2)
  | 0, _, _, _, _, _, _, _, _, _ => nt_none
  | n + 1, _, _, R, _, _, A1, _, _, V2 => n_X7_knows_c2 (fun g h a1 b1 p2 q2 R A1 V2 => n_X7_knows_b2 n R A1 V2) R A1 V2
theorem n_X7_knows {ρ : Nat → Nat} {D F : Nat → Prop} {h0 : nk_H} {u v : Nat}   {h yh : nk_H} (Rh : nt_R ρ D F h0 u v yh h) {t0 yt0 : Nat} (At0 : nt_A ρ D (nk_N h) t0 yt0) {v1 yv1 : Option Nat} (Vv1 : nt_V ρ D (nk_N h) v1 yv1) : nt_F ρ D F h0 u v (nk_N h) nt_q (f_X7_knows h t0 v1) (f_X7_knows yh yt0 yv1) := by
  unfold f_X7_knows
  exact nt_fk (n_X7_knows_b2 _ Rh (nt_am At0 (by omega)) (nt_vm Vv1 (by omega))) (by omega)
theorem n_X8_isRevocationOf {ρ : Nat → Nat} {D F : Nat → Prop} {h0 : nk_H} {u v : Nat}   {h yh : nk_H} (Rh : nt_R ρ D F h0 u v yh h) {t0 yt0 : Nat} (At0 : nt_A ρ D (nk_N h) t0 yt0) {v1 yv1 : Option Nat} (Vv1 : nt_V ρ D (nk_N h) v1 yv1) : nt_F ρ D F h0 u v (nk_N h) nt_q (f_X8_isRevocationOf h t0 v1) (f_X8_isRevocationOf yh yt0 yv1) := by
  unfold f_X8_isRevocationOf
  exact nt_zr Rh _ rfl (by omega)
theorem n_X10_isRevocationOf_c13 {ρ : Nat → Nat} {D F : Nat → Prop} {h0 : nk_H} {u v : Nat}   {h yh : nk_H} (Rh : nt_R ρ D F h0 u v yh h) (s0 : Int32) : nt_F ρ D F h0 u v (nk_N h) nt_q (f_X10_isRevocationOf_c13 h s0) (f_X10_isRevocationOf_c13 yh s0) := by
  unfold f_X10_isRevocationOf_c13
  exact nt_zr Rh _ rfl (by omega)
theorem n_X10_isRevocationOf {ρ : Nat → Nat} {D F : Nat → Prop} {h0 : nk_H} {u v : Nat}   {h yh : nk_H} (Rh : nt_R ρ D F h0 u v yh h) {t0 yt0 : Nat} (At0 : nt_A ρ D (nk_N h) t0 yt0) {v1 yv1 : Option Nat} (Vv1 : nt_V ρ D (nk_N h) v1 yv1) : nt_F ρ D F h0 u v (nk_N h) nt_q (f_X10_isRevocationOf h t0 v1) (f_X10_isRevocationOf yh yt0 yv1) := by
  unfold f_X10_isRevocationOf
  refine nt_gP Rh (nt_vS At0) (fun x1 yx1 Vx1 => ?_)
  refine nt_iteP (nt_eq Rh Vx1 Vv1) ?_ ?_
  · exact nt_fk (n_X10_isRevocationOf_c13 Rh _) (by omega)
  · exact nt_fk (n_X10_isRevocationOf_c13 Rh _) (by omega)
theorem n_X7_revokesAlone_c41 {ρ : Nat → Nat} {D F : Nat → Prop} {h0 : nk_H} {u v : Nat} {r2 r2' : nk_H → Nat → Option Nat → Int32 → Option (nk_H × Int32)} (hr2 : ∀ (g h : nk_H) (a1 b1 : Nat) (p2 q2 : Option Nat) (i3 : Int32), nt_R ρ D F h0 u v h g → nt_A ρ D (nk_N g) a1 b1 → nt_V ρ D (nk_N g) p2 q2 → nt_F ρ D F h0 u v (nk_N g) nt_q (r2 g a1 p2 i3) (r2' h b1 q2 i3)) {h yh : nk_H} (Rh : nt_R ρ D F h0 u v yh h) {t0 yt0 : Nat} (At0 : nt_A ρ D (nk_N h) t0 yt0) {v1 yv1 : Option Nat} (Vv1 : nt_V ρ D (nk_N h) v1 yv1) (v2 : Int32) : nt_F ρ D F h0 u v (nk_N h) nt_q (f_X7_revokesAlone_c41 r2 h t0 v1 v2) (f_X7_revokesAlone_c41 r2' yh yt0 yv1 v2) := by
  unfold f_X7_revokesAlone_c41
  exact nt_fk (hr2 _ _ _ _ _ _ _ Rh (nt_am At0 (by omega)) (nt_vm Vv1 (by omega))) (by omega)
theorem n_X7_revokesAlone_c2 {ρ : Nat → Nat} {D F : Nat → Prop} {h0 : nk_H} {u v : Nat} {r2 r2' : nk_H → Nat → Option Nat → Int32 → Option (nk_H × Int32)} (hr2 : ∀ (g h : nk_H) (a1 b1 : Nat) (p2 q2 : Option Nat) (i3 : Int32), nt_R ρ D F h0 u v h g → nt_A ρ D (nk_N g) a1 b1 → nt_V ρ D (nk_N g) p2 q2 → nt_F ρ D F h0 u v (nk_N g) nt_q (r2 g a1 p2 i3) (r2' h b1 q2 i3)) {h yh : nk_H} (Rh : nt_R ρ D F h0 u v yh h) {t0 yt0 : Nat} (At0 : nt_A ρ D (nk_N h) t0 yt0) {v1 yv1 : Option Nat} (Vv1 : nt_V ρ D (nk_N h) v1 yv1) (v2 : Int32) : nt_F ρ D F h0 u v (nk_N h) nt_q (f_X7_revokesAlone_c2 r2 h t0 v1 v2) (f_X7_revokesAlone_c2 r2' yh yt0 yv1 v2) := by
  unfold f_X7_revokesAlone_c2
  refine nt_gP Rh (nt_vS At0) (fun x1 yx1 Vx1 => ?_)
  refine nt_rcv Rh Vx1 (fun a2 ya2 Aa2 => ?_)
  refine nt_doE (n_Jx4a65c_size_8abf5 Rh (nt_am Aa2 (by omega))) (fun h3 yh3 x4 Rh3 Lh3 => ?_)
  refine nt_ite ?_ ?_
  · exact nt_zr Rh3 _ rfl (by omega)
  · refine nt_rcv Rh3 (nt_vS At0) (fun a5 ya5 Aa5 => ?_)
    refine nt_doE (n_X7_sees Rh3 (nt_am Aa5 (by omega)) _) (fun h6 yh6 x7 Rh6 Lh6 => ?_)
    refine nt_ite ?_ ?_
    · exact nt_fk (n_X7_revokesAlone_c41 hr2 Rh6 (nt_am At0 (by omega)) (nt_vm Vv1 (by omega)) _) (by omega)
    · refine nt_gP Rh6 (nt_vS At0) (fun x8 yx8 Vx8 => ?_)
      refine nt_rcv Rh6 Vx8 (fun a9 ya9 Aa9 => ?_)
      refine nt_doV (n_Jx4a65c_get_915e3 Rh6 (nt_am Aa9 (by omega)) _) (fun h10 yh10 x11 yx11 Rh10 Vx11 Lh10 => ?_)
      refine nt_cc Rh10 Vx11 ?_
      refine nt_rcv Rh10 Vx11 (fun a13 ya13 Aa13 => ?_)
      refine nt_doE (k' := nk_N h10) ?_ (fun h14 yh14 x15 Rh14 Lh14 => ?_)
      · refine nt_iteP (nt_k Rh10 Aa13 8) ?_ ?_
        · exact nt_fk (n_X8_isRevocationOf Rh10 (nt_am Aa13 (by omega)) (nt_vm Vv1 (by omega))) (by omega)
        · refine nt_iteP (nt_k Rh10 Aa13 12) ?_ ?_
          · exact nt_fk (n_X8_isRevocationOf Rh10 (nt_am Aa13 (by omega)) (nt_vm Vv1 (by omega))) (by omega)
          · refine nt_iteP (nt_k Rh10 Aa13 16) ?_ ?_
            · exact nt_fk (n_X8_isRevocationOf Rh10 (nt_am Aa13 (by omega)) (nt_vm Vv1 (by omega))) (by omega)
            · exact nt_fk (n_X10_isRevocationOf Rh10 (nt_am Aa13 (by omega)) (nt_vm Vv1 (by omega))) (by omega)
      · refine nt_ite ?_ ?_
        · exact nt_fk (n_X7_revokesAlone_c41 hr2 Rh14 (nt_am At0 (by omega)) (nt_vm Vv1 (by omega)) _) (by omega)
        · exact nt_zr Rh14 _ rfl (by omega)
theorem n_X7_revokesAlone_b2 {ρ : Nat → Nat} {D F : Nat → Prop} {h0 : nk_H} {u v : Nat}   : ∀ (n : Nat) {g h : nk_H} (R : nt_R ρ D F h0 u v h g) {a1 b1 : Nat} (A1 : nt_A ρ D (nk_N g) a1 b1) {p2 q2 : Option Nat} (V2 : nt_V ρ D (nk_N g) p2 q2) (i3 : Int32), nt_F ρ D F h0 u v (nk_N g) nt_q (f_X7_revokesAlone_b2 n g a1 p2 i3) (f_X7_revokesAlone_b2 n h b1 q2 i3)
  | 0, _, _, _, _, _, _, _, _, _, _ => nt_none
  | n + 1, _, _, R, _, _, A1, _, _, V2, i3 => n_X7_revokesAlone_c2 (fun g h a1 b1 p2 q2 i3 R A1 V2 => n_X7_revokesAlone_b2 n R A1 V2 i3) R A1 V2 i3
theorem n_X7_revokesAlone {ρ : Nat → Nat} {D F : Nat → Prop} {h0 : nk_H} {u v : Nat}   {h yh : nk_H} (Rh : nt_R ρ D F h0 u v yh h) {t0 yt0 : Nat} (At0 : nt_A ρ D (nk_N h) t0 yt0) {v1 yv1 : Option Nat} (Vv1 : nt_V ρ D (nk_N h) v1 yv1) : nt_F ρ D F h0 u v (nk_N h) nt_q (f_X7_revokesAlone h t0 v1) (f_X7_revokesAlone yh yt0 yv1) := by
  unfold f_X7_revokesAlone
  exact nt_fk (n_X7_revokesAlone_b2 _ Rh (nt_am At0 (by omega)) (nt_vm Vv1 (by omega)) _) (by omega)
theorem n_X7_revokes_c2 {ρ : Nat → Nat} {D F : Nat → Prop} {h0 : nk_H} {u v : Nat} {r2 r2' : nk_H → Nat → Option Nat → Option (nk_H × Int32)} (hr2 : ∀ (g h : nk_H) (a1 b1 : Nat) (p2 q2 : Option Nat), nt_R ρ D F h0 u v h g → nt_A ρ D (nk_N g) a1 b1 → nt_V ρ D (nk_N g) p2 q2 → nt_F ρ D F h0 u v (nk_N g) nt_q (r2 g a1 p2) (r2' h b1 q2)) {h yh : nk_H} (Rh : nt_R ρ D F h0 u v yh h) {t0 yt0 : Nat} (At0 : nt_A ρ D (nk_N h) t0 yt0) {v2 yv2 : Option Nat} (Vv2 : nt_V ρ D (nk_N h) v2 yv2) : nt_F ρ D F h0 u v (nk_N h) nt_q (f_X7_revokes_c2 r2 h t0 v2) (f_X7_revokes_c2 r2' yh yt0 yv2) := by
  unfold f_X7_revokes_c2
  refine nt_iteP (nt_eq Rh Vv2 (nt_vn (n := 0))) ?_ ?_
  · exact nt_zr Rh _ rfl (by omega)
  · refine nt_rcv Rh (nt_vS At0) (fun a1 ya1 Aa1 => ?_)
    refine nt_doE (n_X7_revokesAlone Rh (nt_am Aa1 (by omega)) (nt_vm Vv2 (by omega))) (fun h2 yh2 x3 Rh2 Lh2 => ?_)
    refine nt_ite ?_ ?_
    · refine nt_gP Rh2 Vv2 (fun x4 yx4 Vx4 => ?_)
      exact nt_fk (hr2 _ _ _ _ _ _ Rh2 (nt_am At0 (by omega)) (nt_vm Vx4 (by omega))) (by omega)
    · exact nt_zr Rh2 _ rfl (by omega)
theorem n_X7_revokes_b2 {ρ : Nat → Nat} {D F : Nat → Prop} {h0 : nk_H} {u v : Nat}   : ∀ (n : Nat) {g h : nk_H} (R : nt_R ρ D F h0 u v h g) {a1 b1 : Nat} (A1 : nt_A ρ D (nk_N g) a1 b1) {p2 q2 : Option Nat} (V2 : nt_V ρ D (nk_N g) p2 q2), nt_F ρ D F h0 u v (nk_N g) nt_q (f_X7_revokes_b2 n g a1 p2) (f_X7_revokes_b2 n h b1 q2)
  | 0, _, _, _, _, _, _, _, _, _ => nt_none
  | n + 1, _, _, R, _, _, A1, _, _, V2 => n_X7_revokes_c2 (fun g h a1 b1 p2 q2 R A1 V2 => n_X7_revokes_b2 n R A1 V2) R A1 V2
theorem n_X7_revokes {ρ : Nat → Nat} {D F : Nat → Prop} {h0 : nk_H} {u v : Nat}   {h yh : nk_H} (Rh : nt_R ρ D F h0 u v yh h) {t0 yt0 : Nat} (At0 : nt_A ρ D (nk_N h) t0 yt0) {v1 yv1 : Option Nat} (Vv1 : nt_V ρ D (nk_N h) v1 yv1) : nt_F ρ D F h0 u v (nk_N h) nt_q (f_X7_revokes h t0 v1) (f_X7_revokes yh yt0 yv1) := by
  unfold f_X7_revokes
  exact nt_fk (n_X7_revokes_b2 _ Rh (nt_am At0 (by omega)) (nt_vm Vv1 (by omega))) (by omega)
theorem n_X8_amountBy {ρ : Nat → Nat} {D F : Nat → Prop} {h0 : nk_H} {u v : Nat}   {h yh : nk_H} (Rh : nt_R ρ D F h0 u v yh h) {t0 yt0 : Nat} (At0 : nt_A ρ D (nk_N h) t0 yt0) {v1 yv1 : Option Nat} (Vv1 : nt_V ρ D (nk_N h) v1 yv1) : nt_F ρ D F h0 u v (nk_N h) nt_q (f_X8_amountBy h t0 v1) (f_X8_amountBy yh yt0 yv1) := by
  unfold f_X8_amountBy
  exact nt_ret Rh rfl (by omega)
theorem n_X7_doneWith_c41 {ρ : Nat → Nat} {D F : Nat → Prop} {h0 : nk_H} {u v : Nat} {r4 r4' : nk_H → Nat → Option Nat → Int32 → Int32 → Option (nk_H × Int32)} (hr4 : ∀ (g h : nk_H) (a1 b1 : Nat) (p2 q2 : Option Nat) (i3 : Int32) (i4 : Int32), nt_R ρ D F h0 u v h g → nt_A ρ D (nk_N g) a1 b1 → nt_V ρ D (nk_N g) p2 q2 → nt_F ρ D F h0 u v (nk_N g) nt_q (r4 g a1 p2 i3 i4) (r4' h b1 q2 i3 i4)) {h yh : nk_H} (Rh : nt_R ρ D F h0 u v yh h) {t0 yt0 : Nat} (At0 : nt_A ρ D (nk_N h) t0 yt0) {v1 yv1 : Option Nat} (Vv1 : nt_V ρ D (nk_N h) v1 yv1) (v2 : Int32) (v3 : Int32) : nt_F ρ D F h0 u v (nk_N h) nt_q (f_X7_doneWith_c41 r4 h t0 v1 v2 v3) (f_X7_doneWith_c41 r4' yh yt0 yv1 v2 v3) := by
  unfold f_X7_doneWith_c41
  exact nt_fk (hr4 _ _ _ _ _ _ _ _ Rh (nt_am At0 (by omega)) (nt_vm Vv1 (by omega))) (by omega)
theorem n_X7_doneWith_c4 {ρ : Nat → Nat} {D F : Nat → Prop} {h0 : nk_H} {u v : Nat} {r4 r4' : nk_H → Nat → Option Nat → Int32 → Int32 → Option (nk_H × Int32)} (hr4 : ∀ (g h : nk_H) (a1 b1 : Nat) (p2 q2 : Option Nat) (i3 : Int32) (i4 : Int32), nt_R ρ D F h0 u v h g → nt_A ρ D (nk_N g) a1 b1 → nt_V ρ D (nk_N g) p2 q2 → nt_F ρ D F h0 u v (nk_N g) nt_q (r4 g a1 p2 i3 i4) (r4' h b1 q2 i3 i4)) {h yh : nk_H} (Rh : nt_R ρ D F h0 u v yh h) {t0 yt0 : Nat} (At0 : nt_A ρ D (nk_N h) t0 yt0) {v1 yv1 : Option Nat} (Vv1 : nt_V ρ D (nk_N h) v1 yv1) (v2 : Int32) (v3 : Int32) : nt_F ρ D F h0 u v (nk_N h) nt_q (f_X7_doneWith_c4 r4 h t0 v1 v2 v3) (f_X7_doneWith_c4 r4' yh yt0 yv1 v2 v3) := by
  unfold f_X7_doneWith_c4
  refine nt_gP Rh (nt_vS At0) (fun x1 yx1 Vx1 => ?_)
  refine nt_rcv Rh Vx1 (fun a2 ya2 Aa2 => ?_)
  refine nt_doE (n_Jx4a65c_size_8abf5 Rh (nt_am Aa2 (by omega))) (fun h3 yh3 x4 Rh3 Lh3 => ?_)
  refine nt_ite ?_ ?_
  · exact nt_ret Rh3 rfl (by omega)
  · refine nt_rcv Rh3 (nt_vS At0) (fun a5 ya5 Aa5 => ?_)
    refine nt_doE (n_X7_sees Rh3 (nt_am Aa5 (by omega)) _) (fun h6 yh6 x7 Rh6 Lh6 => ?_)
    refine nt_ite ?_ ?_
    · exact nt_fk (n_X7_doneWith_c41 hr4 Rh6 (nt_am At0 (by omega)) (nt_vm Vv1 (by omega)) _ _) (by omega)
    · refine nt_gP Rh6 (nt_vS At0) (fun x8 yx8 Vx8 => ?_)
      refine nt_rcv Rh6 Vx8 (fun a9 ya9 Aa9 => ?_)
      refine nt_doV (n_Jx4a65c_get_915e3 Rh6 (nt_am Aa9 (by omega)) _) (fun h10 yh10 x11 yx11 Rh10 Vx11 Lh10 => ?_)
      refine nt_cc Rh10 Vx11 ?_
      refine nt_rcv Rh10 Vx11 (fun a13 ya13 Aa13 => ?_)
      refine nt_doE (k' := nk_N h10) ?_ (fun h14 yh14 x15 Rh14 Lh14 => ?_)
      · refine nt_iteP (nt_k Rh10 Aa13 8) ?_ ?_
        · exact nt_fk (n_X0_amountBy Rh10 (nt_am Aa13 (by omega)) (nt_vm Vv1 (by omega))) (by omega)
        · refine nt_iteP (nt_k Rh10 Aa13 12) ?_ ?_
          · exact nt_fk (n_X8_amountBy Rh10 (nt_am Aa13 (by omega)) (nt_vm Vv1 (by omega))) (by omega)
          · refine nt_iteP (nt_k Rh10 Aa13 16) ?_ ?_
            · exact nt_fk (n_X8_amountBy Rh10 (nt_am Aa13 (by omega)) (nt_vm Vv1 (by omega))) (by omega)
            · exact nt_fk (n_X8_amountBy Rh10 (nt_am Aa13 (by omega)) (nt_vm Vv1 (by omega))) (by omega)
      · exact nt_fk (n_X7_doneWith_c41 hr4 Rh14 (nt_am At0 (by omega)) (nt_vm Vv1 (by omega)) _ _) (by omega)
theorem n_X7_doneWith_b4 {ρ : Nat → Nat} {D F : Nat → Prop} {h0 : nk_H} {u v : Nat}   : ∀ (n : Nat) {g h : nk_H} (R : nt_R ρ D F h0 u v h g) {a1 b1 : Nat} (A1 : nt_A ρ D (nk_N g) a1 b1) {p2 q2 : Option Nat} (V2 : nt_V ρ D (nk_N g) p2 q2) (i3 : Int32) (i4 : Int32), nt_F ρ D F h0 u v (nk_N g) nt_q (f_X7_doneWith_b4 n g a1 p2 i3 i4) (f_X7_doneWith_b4 n h b1 q2 i3 i4)
  | 0, _, _, _, _, _, _, _, _, _, _, _ => nt_none
  | n + 1, _, _, R, _, _, A1, _, _, V2, i3, i4 => n_X7_doneWith_c4 (fun g h a1 b1 p2 q2 i3 i4 R A1 V2 => n_X7_doneWith_b4 n R A1 V2 i3 i4) R A1 V2 i3 i4
theorem n_X7_doneWith {ρ : Nat → Nat} {D F : Nat → Prop} {h0 : nk_H} {u v : Nat}   {h yh : nk_H} (Rh : nt_R ρ D F h0 u v yh h) {t0 yt0 : Nat} (At0 : nt_A ρ D (nk_N h) t0 yt0) {v1 yv1 : Option Nat} (Vv1 : nt_V ρ D (nk_N h) v1 yv1) : nt_F ρ D F h0 u v (nk_N h) nt_q (f_X7_doneWith h t0 v1) (f_X7_doneWith yh yt0 yv1) := by
  unfold f_X7_doneWith
  exact nt_fk (n_X7_doneWith_b4 _ Rh (nt_am At0 (by omega)) (nt_vm Vv1 (by omega)) _ _) (by omega)
theorem n_X7_wouldPassTotal_c2 {ρ : Nat → Nat} {D F : Nat → Prop} {h0 : nk_H} {u v : Nat} {r2 r2' : nk_H → Nat → Int32 → Option Nat → Option (nk_H × Int32)} (hr2 : ∀ (g h : nk_H) (a1 b1 : Nat) (i2 : Int32) (p3 q3 : Option Nat), nt_R ρ D F h0 u v h g → nt_A ρ D (nk_N g) a1 b1 → nt_V ρ D (nk_N g) p3 q3 → nt_F ρ D F h0 u v (nk_N g) nt_q (r2 g a1 i2 p3) (r2' h b1 i2 q3)) {h yh : nk_H} (Rh : nt_R ρ D F h0 u v yh h) {t0 yt0 : Nat} (At0 : nt_A ρ D (nk_N h) t0 yt0) (v2 : Int32) {v3 yv3 : Option Nat} (Vv3 : nt_V ρ D (nk_N h) v3 yv3) : nt_F ρ D F h0 u v (nk_N h) nt_q (f_X7_wouldPassTotal_c2 r2 h t0 v2 v3) (f_X7_wouldPassTotal_c2 r2' yh yt0 v2 yv3) := by
  unfold f_X7_wouldPassTotal_c2
  refine nt_iteP (nt_eq Rh Vv3 (nt_vn (n := 0))) ?_ ?_
  · exact nt_zr Rh _ rfl (by omega)
  · refine nt_rcv Rh (nt_vS At0) (fun a1 ya1 Aa1 => ?_)
    refine nt_doE (n_X7_doneWith Rh (nt_am Aa1 (by omega)) (nt_vm Vv3 (by omega))) (fun h2 yh2 x3 Rh2 Lh2 => ?_)
    refine nt_gI Rh2 Vv3 (fun x4 => ?_)
    refine nt_ite ?_ ?_
    · refine nt_gP Rh2 Vv3 (fun x5 yx5 Vx5 => ?_)
      exact nt_fk (hr2 _ _ _ _ _ _ _ Rh2 (nt_am At0 (by omega)) (nt_vm Vx5 (by omega))) (by omega)
    · exact nt_zr Rh2 _ rfl (by omega)
theorem n_X7_wouldPassTotal_b2 {ρ : Nat → Nat} {D F : Nat → Prop} {h0 : nk_H} {u v : Nat}   : ∀ (n : Nat) {g h : nk_H} (R : nt_R ρ D F h0 u v h g) {a1 b1 : Nat} (A1 : nt_A ρ D (nk_N g) a1 b1) (i2 : Int32) {p3 q3 : Option Nat} (V3 : nt_V ρ D (nk_N g) p3 q3), nt_F ρ D F h0 u v (nk_N g) nt_q (f_X7_wouldPassTotal_b2 n g a1 i2 p3) (f_X7_wouldPassTotal_b2 n h b1 i2 q3)
  | 0, _, _, _, _, _, _, _, _, _, _ => nt_none
  | n + 1, _, _, R, _, _, A1, i2, _, _, V3 => n_X7_wouldPassTotal_c2 (fun g h a1 b1 i2 p3 q3 R A1 V3 => n_X7_wouldPassTotal_b2 n R A1 i2 V3) R A1 i2 V3
theorem n_X7_wouldPassTotal {ρ : Nat → Nat} {D F : Nat → Prop} {h0 : nk_H} {u v : Nat}   {h yh : nk_H} (Rh : nt_R ρ D F h0 u v yh h) {t0 yt0 : Nat} (At0 : nt_A ρ D (nk_N h) t0 yt0) {v1 yv1 : Option Nat} (Vv1 : nt_V ρ D (nk_N h) v1 yv1) (v2 : Int32) : nt_F ρ D F h0 u v (nk_N h) nt_q (f_X7_wouldPassTotal h t0 v1 v2) (f_X7_wouldPassTotal yh yt0 yv1 v2) := by
  unfold f_X7_wouldPassTotal
  exact nt_fk (n_X7_wouldPassTotal_b2 _ Rh (nt_am At0 (by omega)) _ (nt_vm Vv1 (by omega))) (by omega)
theorem n_X8_isDeputation {ρ : Nat → Nat} {D F : Nat → Prop} {h0 : nk_H} {u v : Nat}   {h yh : nk_H} (Rh : nt_R ρ D F h0 u v yh h) {t0 yt0 : Nat} (At0 : nt_A ρ D (nk_N h) t0 yt0) (v1 : Int32) (v2 : Int32) (v3 : Int32) : nt_F ρ D F h0 u v (nk_N h) nt_q (f_X8_isDeputation h t0 v1 v2 v3) (f_X8_isDeputation yh yt0 v1 v2 v3) := by
  unfold f_X8_isDeputation
  exact nt_zr Rh _ rfl (by omega)
theorem n_X7_deputes_c47 {ρ : Nat → Nat} {D F : Nat → Prop} {h0 : nk_H} {u v : Nat} {r3 r3' : nk_H → Nat → Int32 → Int32 → Int32 → Int32 → Option (nk_H × Int32)} (hr3 : ∀ (g h : nk_H) (a1 b1 : Nat) (i2 : Int32) (i3 : Int32) (i4 : Int32) (i5 : Int32), nt_R ρ D F h0 u v h g → nt_A ρ D (nk_N g) a1 b1 → nt_F ρ D F h0 u v (nk_N g) nt_q (r3 g a1 i2 i3 i4 i5) (r3' h b1 i2 i3 i4 i5)) {h yh : nk_H} (Rh : nt_R ρ D F h0 u v yh h) {t0 yt0 : Nat} (At0 : nt_A ρ D (nk_N h) t0 yt0) (v1 : Int32) (v2 : Int32) (v3 : Int32) (v4 : Int32) : nt_F ρ D F h0 u v (nk_N h) nt_q (f_X7_deputes_c47 r3 h t0 v1 v2 v3 v4) (f_X7_deputes_c47 r3' yh yt0 v1 v2 v3 v4) := by
  unfold f_X7_deputes_c47
  exact nt_fk (hr3 _ _ _ _ _ _ _ _ Rh (nt_am At0 (by omega))) (by omega)
theorem n_X7_deputes_c3 {ρ : Nat → Nat} {D F : Nat → Prop} {h0 : nk_H} {u v : Nat} {r3 r3' : nk_H → Nat → Int32 → Int32 → Int32 → Int32 → Option (nk_H × Int32)} (hr3 : ∀ (g h : nk_H) (a1 b1 : Nat) (i2 : Int32) (i3 : Int32) (i4 : Int32) (i5 : Int32), nt_R ρ D F h0 u v h g → nt_A ρ D (nk_N g) a1 b1 → nt_F ρ D F h0 u v (nk_N g) nt_q (r3 g a1 i2 i3 i4 i5) (r3' h b1 i2 i3 i4 i5)) {h yh : nk_H} (Rh : nt_R ρ D F h0 u v yh h) {t0 yt0 : Nat} (At0 : nt_A ρ D (nk_N h) t0 yt0) (v1 : Int32) (v2 : Int32) (v3 : Int32) (v4 : Int32) : nt_F ρ D F h0 u v (nk_N h) nt_q (f_X7_deputes_c3 r3 h t0 v1 v2 v3 v4) (f_X7_deputes_c3 r3' yh yt0 v1 v2 v3 v4) := by
  unfold f_X7_deputes_c3
  refine nt_gP Rh (nt_vS At0) (fun x1 yx1 Vx1 => ?_)
  refine nt_rcv Rh Vx1 (fun a2 ya2 Aa2 => ?_)
  refine nt_doE (n_Jx4a65c_size_8abf5 Rh (nt_am Aa2 (by omega))) (fun h3 yh3 x4 Rh3 Lh3 => ?_)
  refine nt_ite ?_ ?_
  · exact nt_zr Rh3 _ rfl (by omega)
  · refine nt_rcv Rh3 (nt_vS At0) (fun a5 ya5 Aa5 => ?_)
    refine nt_doE (n_X7_sees Rh3 (nt_am Aa5 (by omega)) _) (fun h6 yh6 x7 Rh6 Lh6 => ?_)
    refine nt_ite ?_ ?_
    · exact nt_fk (n_X7_deputes_c47 hr3 Rh6 (nt_am At0 (by omega)) _ _ _ _) (by omega)
    · refine nt_gP Rh6 (nt_vS At0) (fun x8 yx8 Vx8 => ?_)
      refine nt_rcv Rh6 Vx8 (fun a9 ya9 Aa9 => ?_)
      refine nt_doV (n_Jx4a65c_get_915e3 Rh6 (nt_am Aa9 (by omega)) _) (fun h10 yh10 x11 yx11 Rh10 Vx11 Lh10 => ?_)
      refine nt_cc Rh10 Vx11 ?_
      refine nt_rcv Rh10 Vx11 (fun a13 ya13 Aa13 => ?_)
      refine nt_doE (k' := nk_N h10) ?_ (fun h14 yh14 x15 Rh14 Lh14 => ?_)
      · refine nt_iteP (nt_k Rh10 Aa13 8) ?_ ?_
        · exact nt_fk (n_X8_isDeputation Rh10 (nt_am Aa13 (by omega)) _ _ _) (by omega)
        · refine nt_iteP (nt_k Rh10 Aa13 12) ?_ ?_
          · exact nt_fk (n_X4_isDeputation Rh10 (nt_am Aa13 (by omega)) _ _ _) (by omega)
          · refine nt_iteP (nt_k Rh10 Aa13 16) ?_ ?_
            · exact nt_fk (n_X8_isDeputation Rh10 (nt_am Aa13 (by omega)) _ _ _) (by omega)
            · exact nt_fk (n_X8_isDeputation Rh10 (nt_am Aa13 (by omega)) _ _ _) (by omega)
      · refine nt_ite ?_ ?_
        · exact nt_fk (n_X7_deputes_c47 hr3 Rh14 (nt_am At0 (by omega)) _ _ _ _) (by omega)
        · exact nt_zr Rh14 _ rfl (by omega)
theorem n_X7_deputes_b3 {ρ : Nat → Nat} {D F : Nat → Prop} {h0 : nk_H} {u v : Nat}   : ∀ (n : Nat) {g h : nk_H} (R : nt_R ρ D F h0 u v h g) {a1 b1 : Nat} (A1 : nt_A ρ D (nk_N g) a1 b1) (i2 : Int32) (i3 : Int32) (i4 : Int32) (i5 : Int32), nt_F ρ D F h0 u v (nk_N g) nt_q (f_X7_deputes_b3 n g a1 i2 i3 i4 i5) (f_X7_deputes_b3 n h b1 i2 i3 i4 i5)
  | 0, _, _, _, _, _, _, _, _, _, _ => nt_none
  | n + 1, _, _, R, _, _, A1, i2, i3, i4, i5 => n_X7_deputes_c3 (fun g h a1 b1 i2 i3 i4 i5 R A1 => n_X7_deputes_b3 n R A1 i2 i3 i4 i5) R A1 i2 i3 i4 i5
theorem n_X7_deputes {ρ : Nat → Nat} {D F : Nat → Prop} {h0 : nk_H} {u v : Nat}   {h yh : nk_H} (Rh : nt_R ρ D F h0 u v yh h) {t0 yt0 : Nat} (At0 : nt_A ρ D (nk_N h) t0 yt0) (v1 : Int32) (v2 : Int32) (v3 : Int32) : nt_F ρ D F h0 u v (nk_N h) nt_q (f_X7_deputes h t0 v1 v2 v3) (f_X7_deputes yh yt0 v1 v2 v3) := by
  unfold f_X7_deputes
  exact nt_fk (n_X7_deputes_b3 _ Rh (nt_am At0 (by omega)) _ _ _ _) (by omega)
theorem n_X7_officerAt_c15 {ρ : Nat → Nat} {D F : Nat → Prop} {h0 : nk_H} {u v : Nat}   {h yh : nk_H} (Rh : nt_R ρ D F h0 u v yh h) (s0 : Int32) : nt_F ρ D F h0 u v (nk_N h) nt_q (f_X7_officerAt_c15 h s0) (f_X7_officerAt_c15 yh s0) := by
  unfold f_X7_officerAt_c15
  exact nt_ret Rh rfl (by omega)
theorem n_X7_officerAt {ρ : Nat → Nat} {D F : Nat → Prop} {h0 : nk_H} {u v : Nat}   {h yh : nk_H} (Rh : nt_R ρ D F h0 u v yh h) {t0 yt0 : Nat} (At0 : nt_A ρ D (nk_N h) t0 yt0) (v1 : Int32) (v2 : Int32) : nt_F ρ D F h0 u v (nk_N h) nt_q (f_X7_officerAt h t0 v1 v2) (f_X7_officerAt yh yt0 v1 v2) := by
  unfold f_X7_officerAt
  refine nt_rcv Rh (nt_vS At0) (fun a1 ya1 Aa1 => ?_)
  refine nt_doE (n_X7_deputes Rh (nt_am Aa1 (by omega)) _ _ _) (fun h2 yh2 x3 Rh2 Lh2 => ?_)
  refine nt_ite ?_ ?_
  · exact nt_fk (n_X7_officerAt_c15 Rh2 _) (by omega)
  · exact nt_fk (n_X7_officerAt_c15 Rh2 _) (by omega)
theorem n_X9_isOver_c2 {ρ : Nat → Nat} {D F : Nat → Prop} {h0 : nk_H} {u v : Nat} {r2 r2' : nk_H → Int32 → Option Nat → Option (nk_H × Int32)} (hr2 : ∀ (g h : nk_H) (i1 : Int32) (p2 q2 : Option Nat), nt_R ρ D F h0 u v h g → nt_V ρ D (nk_N g) p2 q2 → nt_F ρ D F h0 u v (nk_N g) nt_q (r2 g i1 p2) (r2' h i1 q2)) {h yh : nk_H} (Rh : nt_R ρ D F h0 u v yh h) (v1 : Int32) {v2 yv2 : Option Nat} (Vv2 : nt_V ρ D (nk_N h) v2 yv2) : nt_F ρ D F h0 u v (nk_N h) nt_q (f_X9_isOver_c2 r2 h v1 v2) (f_X9_isOver_c2 r2' yh v1 yv2) := by
  unfold f_X9_isOver_c2
  refine nt_iteP (nt_eq Rh Vv2 (nt_vn (n := 0))) ?_ ?_
  · exact nt_zr Rh _ rfl (by omega)
  · refine nt_gI Rh Vv2 (fun x1 => ?_)
    refine nt_ite ?_ ?_
    · refine nt_gP Rh Vv2 (fun x2 yx2 Vx2 => ?_)
      exact nt_fk (hr2 _ _ _ _ _ Rh (nt_vm Vx2 (by omega))) (by omega)
    · exact nt_zr Rh _ rfl (by omega)
theorem n_X9_isOver_b2 {ρ : Nat → Nat} {D F : Nat → Prop} {h0 : nk_H} {u v : Nat}   : ∀ (n : Nat) {g h : nk_H} (R : nt_R ρ D F h0 u v h g) (i1 : Int32) {p2 q2 : Option Nat} (V2 : nt_V ρ D (nk_N g) p2 q2), nt_F ρ D F h0 u v (nk_N g) nt_q (f_X9_isOver_b2 n g i1 p2) (f_X9_isOver_b2 n h i1 q2)
  | 0, _, _, _, _, _, _, _ => nt_none
  | n + 1, _, _, R, i1, _, _, V2 => n_X9_isOver_c2 (fun g h i1 p2 q2 R V2 => n_X9_isOver_b2 n R i1 V2) R i1 V2
theorem n_X9_isOver {ρ : Nat → Nat} {D F : Nat → Prop} {h0 : nk_H} {u v : Nat}   {h yh : nk_H} (Rh : nt_R ρ D F h0 u v yh h) {t0 yt0 : Nat} (At0 : nt_A ρ D (nk_N h) t0 yt0) (v1 : Int32) : nt_F ρ D F h0 u v (nk_N h) nt_q (f_X9_isOver h t0 v1) (f_X9_isOver yh yt0 v1) := by
  unfold f_X9_isOver
  exact nt_fk (n_X9_isOver_b2 _ Rh _ (nt_vS (nt_am At0 (by omega)))) (by omega)
theorem n_X9_limitsBelow_c2 {ρ : Nat → Nat} {D F : Nat → Prop} {h0 : nk_H} {u v : Nat} {r2 r2' : nk_H → Int32 → Option Nat → Option (nk_H × Int32)} (hr2 : ∀ (g h : nk_H) (i1 : Int32) (p2 q2 : Option Nat), nt_R ρ D F h0 u v h g → nt_V ρ D (nk_N g) p2 q2 → nt_F ρ D F h0 u v (nk_N g) nt_q (r2 g i1 p2) (r2' h i1 q2)) {h yh : nk_H} (Rh : nt_R ρ D F h0 u v yh h) (v1 : Int32) {v2 yv2 : Option Nat} (Vv2 : nt_V ρ D (nk_N h) v2 yv2) : nt_F ρ D F h0 u v (nk_N h) nt_q (f_X9_limitsBelow_c2 r2 h v1 v2) (f_X9_limitsBelow_c2 r2' yh v1 yv2) := by
  unfold f_X9_limitsBelow_c2
  refine nt_iteP (nt_eq Rh Vv2 (nt_vn (n := 0))) ?_ ?_
  · exact nt_zr Rh _ rfl (by omega)
  · refine nt_gI Rh Vv2 (fun x1 => ?_)
    refine nt_ite ?_ ?_
    · refine nt_gP Rh Vv2 (fun x2 yx2 Vx2 => ?_)
      exact nt_fk (hr2 _ _ _ _ _ Rh (nt_vm Vx2 (by omega))) (by omega)
    · exact nt_zr Rh _ rfl (by omega)
theorem n_X9_limitsBelow_b2 {ρ : Nat → Nat} {D F : Nat → Prop} {h0 : nk_H} {u v : Nat}   : ∀ (n : Nat) {g h : nk_H} (R : nt_R ρ D F h0 u v h g) (i1 : Int32) {p2 q2 : Option Nat} (V2 : nt_V ρ D (nk_N g) p2 q2), nt_F ρ D F h0 u v (nk_N g) nt_q (f_X9_limitsBelow_b2 n g i1 p2) (f_X9_limitsBelow_b2 n h i1 q2)
  | 0, _, _, _, _, _, _, _ => nt_none
  | n + 1, _, _, R, i1, _, _, V2 => n_X9_limitsBelow_c2 (fun g h i1 p2 q2 R V2 => n_X9_limitsBelow_b2 n R i1 V2) R i1 V2
theorem n_X9_limitsBelow {ρ : Nat → Nat} {D F : Nat → Prop} {h0 : nk_H} {u v : Nat}   {h yh : nk_H} (Rh : nt_R ρ D F h0 u v yh h) {t0 yt0 : Nat} (At0 : nt_A ρ D (nk_N h) t0 yt0) (v1 : Int32) : nt_F ρ D F h0 u v (nk_N h) nt_q (f_X9_limitsBelow h t0 v1) (f_X9_limitsBelow yh yt0 v1) := by
  unfold f_X9_limitsBelow
  exact nt_fk (n_X9_limitsBelow_b2 _ Rh _ (nt_vS (nt_am At0 (by omega)))) (by omega)
theorem n_X7_reasonAgainst_c116 {ρ : Nat → Nat} {D F : Nat → Prop} {h0 : nk_H} {u v : Nat}   {h yh : nk_H} (Rh : nt_R ρ D F h0 u v yh h) (s0 : Int32) : nt_F ρ D F h0 u v (nk_N h) nt_q (f_X7_reasonAgainst_c116 h s0) (f_X7_reasonAgainst_c116 yh s0) := by
  unfold f_X7_reasonAgainst_c116
  exact nt_ret Rh rfl (by omega)
theorem n_X7_reasonAgainst {ρ : Nat → Nat} {D F : Nat → Prop} {h0 : nk_H} {u v : Nat}   {h yh : nk_H} (Rh : nt_R ρ D F h0 u v yh h) {t0 yt0 : Nat} (At0 : nt_A ρ D (nk_N h) t0 yt0) {v1 yv1 : Option Nat} (Vv1 : nt_V ρ D (nk_N h) v1 yv1) {v2 yv2 : Option Nat} (Vv2 : nt_V ρ D (nk_N h) v2 yv2) : nt_F ρ D F h0 u v (nk_N h) nt_q (f_X7_reasonAgainst h t0 v1 v2) (f_X7_reasonAgainst yh yt0 yv1 yv2) := by
  unfold f_X7_reasonAgainst
  refine nt_rcv Rh (nt_vS At0) (fun a1 ya1 Aa1 => ?_)
  refine nt_doE (n_X7_knows Rh (nt_am Aa1 (by omega)) (nt_vm Vv1 (by omega))) (fun h2 yh2 x3 Rh2 Lh2 => ?_)
  refine nt_ite ?_ ?_
  · exact nt_ret Rh2 rfl (by omega)
  · refine nt_gI Rh2 Vv2 (fun x4 => ?_)
    refine nt_gI Rh2 Vv1 (fun x5 => ?_)
    refine nt_ite ?_ ?_
    · refine nt_rcv Rh2 (nt_vS At0) (fun a6 ya6 Aa6 => ?_)
      refine nt_doE (n_X7_revokes Rh2 (nt_am Aa6 (by omega)) (nt_vm Vv1 (by omega))) (fun h7 yh7 x8 Rh7 Lh7 => ?_)
      refine nt_ite ?_ ?_
      · refine nt_gI Rh7 Vv2 (fun x9 => ?_)
        refine nt_rcv Rh7 Vv1 (fun a10 ya10 Aa10 => ?_)
        refine nt_doE (n_X9_isOver Rh7 (nt_am Aa10 (by omega)) _) (fun h11 yh11 x12 Rh11 Lh11 => ?_)
        refine nt_ite ?_ ?_
        · refine nt_gI Rh11 Vv1 (fun x13 => ?_)
          refine nt_gI Rh11 Vv2 (fun x14 => ?_)
          refine nt_doE (n_X11_hasBit Rh11 _ _) (fun h15 yh15 x16 Rh15 Lh15 => ?_)
          refine nt_ite ?_ ?_
          · exact nt_ret Rh15 rfl (by omega)
          · refine nt_gI Rh15 Vv2 (fun x17 => ?_)
            refine nt_rcv Rh15 Vv1 (fun a18 ya18 Aa18 => ?_)
            refine nt_doE (n_X9_limitsBelow Rh15 (nt_am Aa18 (by omega)) _) (fun h19 yh19 x20 Rh19 Lh19 => ?_)
            refine nt_ite ?_ ?_
            · refine nt_gI Rh19 Vv2 (fun x21 => ?_)
              refine nt_rcv Rh19 (nt_vS At0) (fun a22 ya22 Aa22 => ?_)
              refine nt_doE (n_X7_wouldPassTotal Rh19 (nt_am Aa22 (by omega)) (nt_vm Vv1 (by omega)) _) (fun h23 yh23 x24 Rh23 Lh23 => ?_)
              refine nt_ite ?_ ?_
              · refine nt_gI Rh23 Vv2 (fun x25 => ?_)
                refine nt_gI Rh23 Vv2 (fun x26 => ?_)
                refine nt_gI Rh23 Vv2 (fun x27 => ?_)
                refine nt_rcv Rh23 (nt_vS At0) (fun a28 ya28 Aa28 => ?_)
                refine nt_doE (n_X7_officerAt Rh23 (nt_am Aa28 (by omega)) _ _) (fun h29 yh29 x30 Rh29 Lh29 => ?_)
                refine nt_ite ?_ ?_
                · exact nt_fk (n_X7_reasonAgainst_c116 Rh29 _) (by omega)
                · exact nt_fk (n_X7_reasonAgainst_c116 Rh29 _) (by omega)
              · exact nt_ret Rh23 rfl (by omega)
            · exact nt_ret Rh19 rfl (by omega)
        · exact nt_ret Rh11 rfl (by omega)
      · exact nt_ret Rh7 rfl (by omega)
    · exact nt_ret Rh2 rfl (by omega)
theorem n_X9_init {ρ : Nat → Nat} {D F : Nat → Prop} {h0 : nk_H} {u v : Nat}   {h yh : nk_H} (Rh : nt_R ρ D F h0 u v yh h) {t0 yt0 : Nat} (At0 : nt_A ρ D (nk_N h) t0 yt0) (v1 : Int32) {v2 yv2 : Option Nat} (Vv2 : nt_V ρ D (nk_N h) v2 yv2) (v3 : Int32) (v4 : Int32) {v5 yv5 : Option Nat} (Vv5 : nt_V ρ D (nk_N h) v5 yv5) (v6 : Int32) : nt_F ρ D F h0 u v (nk_N h) nt_q (f_X9_init h t0 v1 v2 v3 v4 v5 v6) (f_X9_init yh yt0 v1 yv2 v3 v4 yv5 v6) := by
  unfold f_X9_init
  refine nt_doE (n_X8_init Rh (nt_am At0 (by omega))) (fun h1 yh1 x2 Rh1 Lh1 => ?_)
  refine nt_pI Rh1 (nt_vS At0) (fun h3 yh3 Rh3 Lh3 => ?_)
  refine nt_pP Rh3 (nt_vS At0) (nt_vm Vv2 (by omega)) (fun h4 yh4 Rh4 Lh4 => ?_)
  refine nt_pI Rh4 (nt_vS At0) (fun h5 yh5 Rh5 Lh5 => ?_)
  refine nt_pI Rh5 (nt_vS At0) (fun h6 yh6 Rh6 Lh6 => ?_)
  refine nt_gI Rh6 Vv5 (fun x7 => ?_)
  refine nt_pI Rh6 (nt_vS At0) (fun h8 yh8 Rh8 Lh8 => ?_)
  refine nt_gI Rh8 Vv5 (fun x9 => ?_)
  refine nt_pI Rh8 (nt_vS At0) (fun h10 yh10 Rh10 Lh10 => ?_)
  refine nt_gI Rh10 Vv5 (fun x11 => ?_)
  refine nt_pI Rh10 (nt_vS At0) (fun h12 yh12 Rh12 Lh12 => ?_)
  refine nt_gI Rh12 Vv5 (fun x13 => ?_)
  refine nt_pI Rh12 (nt_vS At0) (fun h14 yh14 Rh14 Lh14 => ?_)
  refine nt_gI Rh14 Vv5 (fun x15 => ?_)
  refine nt_pI Rh14 (nt_vS At0) (fun h16 yh16 Rh16 Lh16 => ?_)
  exact nt_ret Rh16 rfl (by omega)
theorem n_X9_covers_c65 {ρ : Nat → Nat} {D F : Nat → Prop} {h0 : nk_H} {u v : Nat}   {h yh : nk_H} (Rh : nt_R ρ D F h0 u v yh h) (s0 : Int32) : nt_F ρ D F h0 u v (nk_N h) nt_q (f_X9_covers_c65 h s0) (f_X9_covers_c65 yh s0) := by
  unfold f_X9_covers_c65
  exact nt_zr Rh _ rfl (by omega)
theorem n_X9_covers_c64 {ρ : Nat → Nat} {D F : Nat → Prop} {h0 : nk_H} {u v : Nat}   {h yh : nk_H} (Rh : nt_R ρ D F h0 u v yh h) : nt_F ρ D F h0 u v (nk_N h) nt_q (f_X9_covers_c64 h) (f_X9_covers_c64 yh) := by
  unfold f_X9_covers_c64
  exact nt_fk (n_X9_covers_c65 Rh _) (by omega)
theorem n_X9_covers {ρ : Nat → Nat} {D F : Nat → Prop} {h0 : nk_H} {u v : Nat}   {h yh : nk_H} (Rh : nt_R ρ D F h0 u v yh h) {t0 yt0 : Nat} (At0 : nt_A ρ D (nk_N h) t0 yt0) {v1 yv1 : Option Nat} (Vv1 : nt_V ρ D (nk_N h) v1 yv1) (v2 : Int32) : nt_F ρ D F h0 u v (nk_N h) nt_q (f_X9_covers h t0 v1 v2) (f_X9_covers yh yt0 yv1 v2) := by
  unfold f_X9_covers
  refine nt_gI Rh Vv1 (fun x1 => ?_)
  refine nt_gI Rh (nt_vS At0) (fun x2 => ?_)
  refine nt_ite ?_ ?_
  · refine nt_gI Rh Vv1 (fun x3 => ?_)
    refine nt_gI Rh (nt_vS At0) (fun x4 => ?_)
    refine nt_ite ?_ ?_
    · exact nt_fk (n_X9_covers_c64 Rh) (by omega)
    · refine nt_gI Rh Vv1 (fun x5 => ?_)
      refine nt_gI Rh (nt_vS At0) (fun x6 => ?_)
      refine nt_ite ?_ ?_
      · exact nt_fk (n_X9_covers_c64 Rh) (by omega)
      · refine nt_gI Rh Vv1 (fun x7 => ?_)
        refine nt_gI Rh (nt_vS At0) (fun x8 => ?_)
        refine nt_ite ?_ ?_
        · exact nt_fk (n_X9_covers_c64 Rh) (by omega)
        · refine nt_gI Rh Vv1 (fun x9 => ?_)
          refine nt_gI Rh (nt_vS At0) (fun x10 => ?_)
          refine nt_ite ?_ ?_
          · exact nt_fk (n_X9_covers_c64 Rh) (by omega)
          · exact nt_fk (n_X9_covers_c65 Rh _) (by omega)
  · exact nt_fk (n_X9_covers_c64 Rh) (by omega)
theorem n_X9_hasGiver_c2 {ρ : Nat → Nat} {D F : Nat → Prop} {h0 : nk_H} {u v : Nat} {r2 r2' : nk_H → Int32 → Option Nat → Option (nk_H × Int32)} (hr2 : ∀ (g h : nk_H) (i1 : Int32) (p2 q2 : Option Nat), nt_R ρ D F h0 u v h g → nt_V ρ D (nk_N g) p2 q2 → nt_F ρ D F h0 u v (nk_N g) nt_q (r2 g i1 p2) (r2' h i1 q2)) {h yh : nk_H} (Rh : nt_R ρ D F h0 u v yh h) (v1 : Int32) {v2 yv2 : Option Nat} (Vv2 : nt_V ρ D (nk_N h) v2 yv2) : nt_F ρ D F h0 u v (nk_N h) nt_q (f_X9_hasGiver_c2 r2 h v1 v2) (f_X9_hasGiver_c2 r2' yh v1 yv2) := by
  unfold f_X9_hasGiver_c2
  refine nt_iteP (nt_eq Rh Vv2 (nt_vn (n := 0))) ?_ ?_
  · exact nt_zr Rh _ rfl (by omega)
  · refine nt_gI Rh Vv2 (fun x1 => ?_)
    refine nt_ite ?_ ?_
    · exact nt_zr Rh _ rfl (by omega)
    · refine nt_gP Rh Vv2 (fun x2 yx2 Vx2 => ?_)
      exact nt_fk (hr2 _ _ _ _ _ Rh (nt_vm Vx2 (by omega))) (by omega)
theorem n_X9_hasGiver_b2 {ρ : Nat → Nat} {D F : Nat → Prop} {h0 : nk_H} {u v : Nat}   : ∀ (n : Nat) {g h : nk_H} (R : nt_R ρ D F h0 u v h g) (i1 : Int32) {p2 q2 : Option Nat} (V2 : nt_V ρ D (nk_N g) p2 q2), nt_F ρ D F h0 u v (nk_N g) nt_q (f_X9_hasGiver_b2 n g i1 p2) (f_X9_hasGiver_b2 n h i1 q2)
  | 0, _, _, _, _, _, _, _ => nt_none
  | n + 1, _, _, R, i1, _, _, V2 => n_X9_hasGiver_c2 (fun g h i1 p2 q2 R V2 => n_X9_hasGiver_b2 n R i1 V2) R i1 V2
theorem n_X9_hasGiver {ρ : Nat → Nat} {D F : Nat → Prop} {h0 : nk_H} {u v : Nat}   {h yh : nk_H} (Rh : nt_R ρ D F h0 u v yh h) {t0 yt0 : Nat} (At0 : nt_A ρ D (nk_N h) t0 yt0) (v1 : Int32) : nt_F ρ D F h0 u v (nk_N h) nt_q (f_X9_hasGiver h t0 v1) (f_X9_hasGiver yh yt0 v1) := by
  unfold f_X9_hasGiver
  exact nt_fk (n_X9_hasGiver_b2 _ Rh _ (nt_vS (nt_am At0 (by omega)))) (by omega)
theorem n_X10_init {ρ : Nat → Nat} {D F : Nat → Prop} {h0 : nk_H} {u v : Nat}   {h yh : nk_H} (Rh : nt_R ρ D F h0 u v yh h) {t0 yt0 : Nat} (At0 : nt_A ρ D (nk_N h) t0 yt0) {v1 yv1 : Option Nat} (Vv1 : nt_V ρ D (nk_N h) v1 yv1) : nt_F ρ D F h0 u v (nk_N h) nt_q (f_X10_init h t0 v1) (f_X10_init yh yt0 yv1) := by
  unfold f_X10_init
  refine nt_doE (n_X8_init Rh (nt_am At0 (by omega))) (fun h1 yh1 x2 Rh1 Lh1 => ?_)
  refine nt_pP Rh1 (nt_vS At0) (nt_vm Vv1 (by omega)) (fun h3 yh3 Rh3 Lh3 => ?_)
  exact nt_ret Rh3 rfl (by omega)
theorem n_X11_init_c48 {ρ : Nat → Nat} {D F : Nat → Prop} {h0 : nk_H} {u v : Nat} {r48 r48' : nk_H → Nat → Int32 → Option (nk_H × Unit)} (hr48 : ∀ (g h : nk_H) (a1 b1 : Nat) (i2 : Int32), nt_R ρ D F h0 u v h g → nt_A ρ D (nk_N g) a1 b1 → nt_F ρ D F h0 u v (nk_N g) nt_q (r48 g a1 i2) (r48' h b1 i2)) {h yh : nk_H} (Rh : nt_R ρ D F h0 u v yh h) {t0 yt0 : Nat} (At0 : nt_A ρ D (nk_N h) t0 yt0) (v1 : Int32) : nt_F ρ D F h0 u v (nk_N h) nt_q (f_X11_init_c48 r48 h t0 v1) (f_X11_init_c48 r48' yh yt0 v1) := by
  unfold f_X11_init_c48
  refine nt_ite ?_ ?_
  · refine nt_al Rh (fun h1 yh1 Rh1 Lh1 => ?_)
    refine nt_doE (n_Jx4a65c_init_da8c8 Rh1 (nt_aN Rh (by omega))) (fun h2 yh2 x3 Rh2 Lh2 => ?_)
    refine nt_pP Rh2 (nt_vS At0) (nt_vN Rh (by omega)) (fun h4 yh4 Rh4 Lh4 => ?_)
    refine nt_pI Rh4 (nt_vS At0) (fun h5 yh5 Rh5 Lh5 => ?_)
    refine nt_al Rh5 (fun h6 yh6 Rh6 Lh6 => ?_)
    refine nt_doE (n_X5_init Rh6 (nt_aN Rh5 (by omega)) _ _ _ _ _) (fun h7 yh7 x8 Rh7 Lh7 => ?_)
    refine nt_pP Rh7 (nt_vS At0) (nt_vN Rh5 (by omega)) (fun h9 yh9 Rh9 Lh9 => ?_)
    refine nt_pI Rh9 (nt_vS At0) (fun h10 yh10 Rh10 Lh10 => ?_)
    refine nt_pI Rh10 (nt_vS At0) (fun h11 yh11 Rh11 Lh11 => ?_)
    exact nt_ret Rh11 rfl (by omega)
  · refine nt_gP Rh (nt_vS At0) (fun x12 yx12 Vx12 => ?_)
    refine nt_al Rh (fun h13 yh13 Rh13 Lh13 => ?_)
    refine nt_doE (n_X1_init Rh13 (nt_aN Rh (by omega)) _) (fun h14 yh14 x15 Rh14 Lh14 => ?_)
    refine nt_wP Rh14 Vx12 (nt_vN Rh (by omega)) (fun h16 yh16 Rh16 Lh16 => ?_)
    exact nt_fk (hr48 _ _ _ _ _ Rh16 (nt_am At0 (by omega))) (by omega)
theorem n_X11_init_b48 {ρ : Nat → Nat} {D F : Nat → Prop} {h0 : nk_H} {u v : Nat}   : ∀ (n : Nat) {g h : nk_H} (R : nt_R ρ D F h0 u v h g) {a1 b1 : Nat} (A1 : nt_A ρ D (nk_N g) a1 b1) (i2 : Int32), nt_F ρ D F h0 u v (nk_N g) nt_q (f_X11_init_b48 n g a1 i2) (f_X11_init_b48 n h b1 i2)
  | 0, _, _, _, _, _, _, _ => nt_none
  | n + 1, _, _, R, _, _, A1, i2 => n_X11_init_c48 (fun g h a1 b1 i2 R A1 => n_X11_init_b48 n R A1 i2) R A1 i2
theorem n_X11_init {ρ : Nat → Nat} {D F : Nat → Prop} {h0 : nk_H} {u v : Nat}   {h yh : nk_H} (Rh : nt_R ρ D F h0 u v yh h) {t0 yt0 : Nat} (At0 : nt_A ρ D (nk_N h) t0 yt0) : nt_F ρ D F h0 u v (nk_N h) nt_q (f_X11_init h t0) (f_X11_init yh yt0) := by
  unfold f_X11_init
  refine nt_al Rh (fun h17 yh17 Rh17 Lh17 => ?_)
  refine nt_doE (n_X6_init Rh17 (nt_aN Rh (by omega))) (fun h18 yh18 x19 Rh18 Lh18 => ?_)
  refine nt_pP Rh18 (nt_vS At0) (nt_vN Rh (by omega)) (fun h20 yh20 Rh20 Lh20 => ?_)
  refine nt_al Rh20 (fun h21 yh21 Rh21 Lh21 => ?_)
  refine nt_doE (n_X7_init Rh21 (nt_aN Rh20 (by omega))) (fun h22 yh22 x23 Rh22 Lh22 => ?_)
  refine nt_pP Rh22 (nt_vS At0) (nt_vN Rh20 (by omega)) (fun h24 yh24 Rh24 Lh24 => ?_)
  refine nt_al Rh24 (fun h25 yh25 Rh25 Lh25 => ?_)
  refine nt_doE (n_Jx4a65c_init_da8c8 Rh25 (nt_aN Rh24 (by omega))) (fun h26 yh26 x27 Rh26 Lh26 => ?_)
  refine nt_pP Rh26 (nt_vS At0) (nt_vN Rh24 (by omega)) (fun h28 yh28 Rh28 Lh28 => ?_)
  refine nt_na Rh28 (fun h29 yh29 Rh29 Lh29 => ?_)
  refine nt_pP Rh29 (nt_vS At0) (nt_vN Rh28 (by omega)) (fun h30 yh30 Rh30 Lh30 => ?_)
  exact nt_fk (n_X11_init_b48 _ Rh30 (nt_am At0 (by omega)) _) (by omega)
theorem n_X11_mustBeKiosk_c10 {ρ : Nat → Nat} {D F : Nat → Prop} {h0 : nk_H} {u v : Nat}   {h yh : nk_H} (Rh : nt_R ρ D F h0 u v yh h) : nt_F ρ D F h0 u v (nk_N h) nt_q (f_X11_mustBeKiosk_c10 h) (f_X11_mustBeKiosk_c10 yh) := by
  unfold f_X11_mustBeKiosk_c10
  exact nt_ret (nt_alR Rh 0 0 6) rfl (by rw [nk_N_al]; omega)
theorem n_X11_mustBeKiosk {ρ : Nat → Nat} {D F : Nat → Prop} {h0 : nk_H} {u v : Nat}   {h yh : nk_H} (Rh : nt_R ρ D F h0 u v yh h) (v0 : Int32) : nt_F ρ D F h0 u v (nk_N h) nt_q (f_X11_mustBeKiosk h v0) (f_X11_mustBeKiosk yh v0) := by
  unfold f_X11_mustBeKiosk
  refine nt_ite ?_ ?_
  · exact nt_fk (n_X11_mustBeKiosk_c10 Rh) (by omega)
  · refine nt_ite ?_ ?_
    · exact nt_ret Rh rfl (by omega)
    · exact nt_fk (n_X11_mustBeKiosk_c10 Rh) (by omega)
theorem n_X11_mustBeTwoKiosks {ρ : Nat → Nat} {D F : Nat → Prop} {h0 : nk_H} {u v : Nat}   {h yh : nk_H} (Rh : nt_R ρ D F h0 u v yh h) (v0 : Int32) (v1 : Int32) : nt_F ρ D F h0 u v (nk_N h) nt_q (f_X11_mustBeTwoKiosks h v0 v1) (f_X11_mustBeTwoKiosks yh v0 v1) := by
  unfold f_X11_mustBeTwoKiosks
  refine nt_dt (by omega) (n_X11_mustBeKiosk Rh _) (fun h1 yh1 x2 Rh1 Lh1 => ?_)
  refine nt_dt (by omega) (n_X11_mustBeKiosk Rh1 _) (fun h3 yh3 x4 Rh3 Lh3 => ?_)
  refine nt_ite ?_ ?_
  · exact nt_ret (nt_alR Rh3 0 0 6) rfl (by rw [nk_N_al]; omega)
  · exact nt_ret Rh3 rfl (by omega)
theorem n_X11_join {ρ : Nat → Nat} {D F : Nat → Prop} {h0 : nk_H} {u v : Nat}   {h yh : nk_H} (Rh : nt_R ρ D F h0 u v yh h) {t0 yt0 : Nat} (At0 : nt_A ρ D (nk_N h) t0 yt0) (v1 : Int32) (v2 : Int32) : nt_F ρ D F h0 u v (nk_N h) nt_q (f_X11_join h t0 v1 v2) (f_X11_join yh yt0 v1 v2) := by
  unfold f_X11_join
  refine nt_dt (by omega) (n_X11_mustBeTwoKiosks Rh _ _) (fun h1 yh1 x2 Rh1 Lh1 => ?_)
  refine nt_gP Rh1 (nt_vS At0) (fun x3 yx3 Vx3 => ?_)
  refine nt_rcv Rh1 Vx3 (fun a4 ya4 Aa4 => ?_)
  refine nt_doE (n_X6_areLinked Rh1 (nt_am Aa4 (by omega)) _ _) (fun h5 yh5 x6 Rh5 Lh5 => ?_)
  refine nt_ite ?_ ?_
  · refine nt_gP Rh5 (nt_vS At0) (fun x7 yx7 Vx7 => ?_)
    refine nt_rcv Rh5 Vx7 (fun a8 ya8 Aa8 => ?_)
    refine nt_doE (n_X6_turn Rh5 (nt_am Aa8 (by omega)) _ _) (fun h9 yh9 x10 Rh9 Lh9 => ?_)
    refine nt_gP Rh9 (nt_vS At0) (fun x11 yx11 Vx11 => ?_)
    refine nt_rcv Rh9 Vx11 (fun a12 ya12 Aa12 => ?_)
    refine nt_doE (n_X6_degree Rh9 (nt_am Aa12 (by omega)) _) (fun h13 yh13 x14 Rh13 Lh13 => ?_)
    exact nt_ret Rh13 rfl (by omega)
  · exact nt_ret (nt_alR Rh5 0 0 6) rfl (by rw [nk_N_al]; omega)
theorem n_X11_cut {ρ : Nat → Nat} {D F : Nat → Prop} {h0 : nk_H} {u v : Nat}   {h yh : nk_H} (Rh : nt_R ρ D F h0 u v yh h) {t0 yt0 : Nat} (At0 : nt_A ρ D (nk_N h) t0 yt0) (v1 : Int32) (v2 : Int32) : nt_F ρ D F h0 u v (nk_N h) nt_q (f_X11_cut h t0 v1 v2) (f_X11_cut yh yt0 v1 v2) := by
  unfold f_X11_cut
  refine nt_dt (by omega) (n_X11_mustBeTwoKiosks Rh _ _) (fun h1 yh1 x2 Rh1 Lh1 => ?_)
  refine nt_gP Rh1 (nt_vS At0) (fun x3 yx3 Vx3 => ?_)
  refine nt_rcv Rh1 Vx3 (fun a4 ya4 Aa4 => ?_)
  refine nt_doE (n_X6_areLinked Rh1 (nt_am Aa4 (by omega)) _ _) (fun h5 yh5 x6 Rh5 Lh5 => ?_)
  refine nt_ite ?_ ?_
  · exact nt_ret (nt_alR Rh5 0 0 6) rfl (by rw [nk_N_al]; omega)
  · refine nt_gP Rh5 (nt_vS At0) (fun x7 yx7 Vx7 => ?_)
    refine nt_rcv Rh5 Vx7 (fun a8 ya8 Aa8 => ?_)
    refine nt_doE (n_X6_turn Rh5 (nt_am Aa8 (by omega)) _ _) (fun h9 yh9 x10 Rh9 Lh9 => ?_)
    refine nt_gP Rh9 (nt_vS At0) (fun x11 yx11 Vx11 => ?_)
    refine nt_rcv Rh9 Vx11 (fun a12 ya12 Aa12 => ?_)
    refine nt_doE (n_X6_degree Rh9 (nt_am Aa12 (by omega)) _) (fun h13 yh13 x14 Rh13 Lh13 => ?_)
    exact nt_ret Rh13 rfl (by omega)
theorem n_X11_mustBeWithin_c10 {ρ : Nat → Nat} {D F : Nat → Prop} {h0 : nk_H} {u v : Nat}   {h yh : nk_H} (Rh : nt_R ρ D F h0 u v yh h) : nt_F ρ D F h0 u v (nk_N h) nt_q (f_X11_mustBeWithin_c10 h) (f_X11_mustBeWithin_c10 yh) := by
  unfold f_X11_mustBeWithin_c10
  exact nt_ret (nt_alR Rh 0 0 6) rfl (by rw [nk_N_al]; omega)
theorem n_X11_mustBeWithin {ρ : Nat → Nat} {D F : Nat → Prop} {h0 : nk_H} {u v : Nat}   {h yh : nk_H} (Rh : nt_R ρ D F h0 u v yh h) (v0 : Int32) (v1 : Int32) (v2 : Int32) : nt_F ρ D F h0 u v (nk_N h) nt_q (f_X11_mustBeWithin h v0 v1 v2) (f_X11_mustBeWithin yh v0 v1 v2) := by
  unfold f_X11_mustBeWithin
  refine nt_ite ?_ ?_
  · exact nt_fk (n_X11_mustBeWithin_c10 Rh) (by omega)
  · refine nt_ite ?_ ?_
    · exact nt_ret Rh rfl (by omega)
    · exact nt_fk (n_X11_mustBeWithin_c10 Rh) (by omega)
theorem n_X11_pass_c33 {ρ : Nat → Nat} {D F : Nat → Prop} {h0 : nk_H} {u v : Nat} {r33 r33' : nk_H → Nat → Int32 → Int32 → Int32 → Option (nk_H × (Int32 ⊕ String))} (hr33 : ∀ (g h : nk_H) (a1 b1 : Nat) (i2 : Int32) (i3 : Int32) (i4 : Int32), nt_R ρ D F h0 u v h g → nt_A ρ D (nk_N g) a1 b1 → nt_F ρ D F h0 u v (nk_N g) nt_q (r33 g a1 i2 i3 i4) (r33' h b1 i2 i3 i4)) {h yh : nk_H} (Rh : nt_R ρ D F h0 u v yh h) {t0 yt0 : Nat} (At0 : nt_A ρ D (nk_N h) t0 yt0) (v1 : Int32) (v2 : Int32) (v3 : Int32) : nt_F ρ D F h0 u v (nk_N h) nt_q (f_X11_pass_c33 r33 h t0 v1 v2 v3) (f_X11_pass_c33 r33' yh yt0 v1 v2 v3) := by
  unfold f_X11_pass_c33
  refine nt_ite ?_ ?_
  · exact nt_ret Rh rfl (by omega)
  · refine nt_gI Rh (nt_vS At0) (fun x1 => ?_)
    refine nt_pI Rh (nt_vS At0) (fun h2 yh2 Rh2 Lh2 => ?_)
    refine nt_gP Rh2 (nt_vS At0) (fun x3 yx3 Vx3 => ?_)
    refine nt_gI Rh2 (nt_vS At0) (fun x4 => ?_)
    refine nt_rcv Rh2 Vx3 (fun a5 ya5 Aa5 => ?_)
    refine nt_doE (n_X6_keep Rh2 (nt_am Aa5 (by omega)) _) (fun h6 yh6 x7 Rh6 Lh6 => ?_)
    refine nt_gP Rh6 (nt_vS At0) (fun x8 yx8 Vx8 => ?_)
    refine nt_gP Rh6 (nt_vS At0) (fun x9 yx9 Vx9 => ?_)
    refine nt_gI Rh6 (nt_vS At0) (fun x10 => ?_)
    refine nt_rcv Rh6 Vx8 (fun a11 ya11 Aa11 => ?_)
    refine nt_doE (n_X7_spread Rh6 (nt_am Aa11 (by omega)) (nt_vm Vx9 (by omega)) _) (fun h12 yh12 x13 Rh12 Lh12 => ?_)
    exact nt_fk (hr33 _ _ _ _ _ _ _ Rh12 (nt_am At0 (by omega))) (by omega)
theorem n_X11_pass_b33 {ρ : Nat → Nat} {D F : Nat → Prop} {h0 : nk_H} {u v : Nat}   : ∀ (n : Nat) {g h : nk_H} (R : nt_R ρ D F h0 u v h g) {a1 b1 : Nat} (A1 : nt_A ρ D (nk_N g) a1 b1) (i2 : Int32) (i3 : Int32) (i4 : Int32), nt_F ρ D F h0 u v (nk_N g) nt_q (f_X11_pass_b33 n g a1 i2 i3 i4) (f_X11_pass_b33 n h b1 i2 i3 i4)
  | 0, _, _, _, _, _, _, _, _, _ => nt_none
  | n + 1, _, _, R, _, _, A1, i2, i3, i4 => n_X11_pass_c33 (fun g h a1 b1 i2 i3 i4 R A1 => n_X11_pass_b33 n R A1 i2 i3 i4) R A1 i2 i3 i4
theorem n_X11_pass {ρ : Nat → Nat} {D F : Nat → Prop} {h0 : nk_H} {u v : Nat}   {h yh : nk_H} (Rh : nt_R ρ D F h0 u v yh h) {t0 yt0 : Nat} (At0 : nt_A ρ D (nk_N h) t0 yt0) (v1 : Int32) : nt_F ρ D F h0 u v (nk_N h) nt_q (f_X11_pass h t0 v1) (f_X11_pass yh yt0 v1) := by
  unfold f_X11_pass
  refine nt_dt (by omega) (n_X11_mustBeWithin Rh _ _ _) (fun h14 yh14 x15 Rh14 Lh14 => ?_)
  refine nt_gI Rh14 (nt_vS At0) (fun x16 => ?_)
  refine nt_ite ?_ ?_
  · exact nt_fk (n_X11_pass_b33 _ Rh14 (nt_am At0 (by omega)) _ _ _) (by omega)
  · exact nt_ret (nt_alR Rh14 0 0 6) rfl (by rw [nk_N_al]; omega)
theorem n_X11_read {ρ : Nat → Nat} {D F : Nat → Prop} {h0 : nk_H} {u v : Nat}   {h yh : nk_H} (Rh : nt_R ρ D F h0 u v yh h) {t0 yt0 : Nat} (At0 : nt_A ρ D (nk_N h) t0 yt0) (v1 : Int32) : nt_F ρ D F h0 u v (nk_N h) nt_q (f_X11_read h t0 v1) (f_X11_read yh yt0 v1) := by
  unfold f_X11_read
  refine nt_dt (by omega) (n_X11_mustBeKiosk Rh _) (fun h1 yh1 x2 Rh1 Lh1 => ?_)
  refine nt_gP Rh1 (nt_vS At0) (fun x3 yx3 Vx3 => ?_)
  refine nt_rcv Rh1 Vx3 (fun a4 ya4 Aa4 => ?_)
  refine nt_doE (n_X7_readMail Rh1 (nt_am Aa4 (by omega)) _) (fun h5 yh5 x6 Rh5 Lh5 => ?_)
  exact nt_ret Rh5 rfl (by omega)
theorem n_X11_draft {ρ : Nat → Nat} {D F : Nat → Prop} {h0 : nk_H} {u v : Nat}   {h yh : nk_H} (Rh : nt_R ρ D F h0 u v yh h) {t0 yt0 : Nat} (At0 : nt_A ρ D (nk_N h) t0 yt0) (v1 : Int32) (v2 : Int32) (v3 : Int32) (v4 : Int32) (v5 : Int32) : nt_F ρ D F h0 u v (nk_N h) nt_q (f_X11_draft h t0 v1 v2 v3 v4 v5) (f_X11_draft yh yt0 v1 v2 v3 v4 v5) := by
  unfold f_X11_draft
  refine nt_dt (by omega) (n_X11_mustBeWithin Rh _ _ _) (fun h1 yh1 x2 Rh1 Lh1 => ?_)
  refine nt_dt (by omega) (n_X11_mustBeWithin Rh1 _ _ _) (fun h3 yh3 x4 Rh3 Lh3 => ?_)
  refine nt_dt (by omega) (n_X11_mustBeWithin Rh3 _ _ _) (fun h5 yh5 x6 Rh5 Lh5 => ?_)
  refine nt_dt (by omega) (n_X11_mustBeWithin Rh5 _ _ _) (fun h7 yh7 x8 Rh7 Lh7 => ?_)
  refine nt_dt (by omega) (n_X11_mustBeWithin Rh7 _ _ _) (fun h9 yh9 x10 Rh9 Lh9 => ?_)
  refine nt_al Rh9 (fun h11 yh11 Rh11 Lh11 => ?_)
  refine nt_doE (n_X5_init Rh11 (nt_aN Rh9 (by omega)) _ _ _ _ _) (fun h12 yh12 x13 Rh12 Lh12 => ?_)
  refine nt_pP Rh12 (nt_vS At0) (nt_vN Rh9 (by omega)) (fun h14 yh14 Rh14 Lh14 => ?_)
  exact nt_ret Rh14 rfl (by omega)
theorem n_X11_mustBePerson_c10 {ρ : Nat → Nat} {D F : Nat → Prop} {h0 : nk_H} {u v : Nat}   {h yh : nk_H} (Rh : nt_R ρ D F h0 u v yh h) : nt_F ρ D F h0 u v (nk_N h) nt_q (f_X11_mustBePerson_c10 h) (f_X11_mustBePerson_c10 yh) := by
  unfold f_X11_mustBePerson_c10
  exact nt_ret (nt_alR Rh 0 0 6) rfl (by rw [nk_N_al]; omega)
theorem n_X11_mustBePerson {ρ : Nat → Nat} {D F : Nat → Prop} {h0 : nk_H} {u v : Nat}   {h yh : nk_H} (Rh : nt_R ρ D F h0 u v yh h) (v0 : Int32) : nt_F ρ D F h0 u v (nk_N h) nt_q (f_X11_mustBePerson h v0) (f_X11_mustBePerson yh v0) := by
  unfold f_X11_mustBePerson
  refine nt_ite ?_ ?_
  · exact nt_fk (n_X11_mustBePerson_c10 Rh) (by omega)
  · refine nt_ite ?_ ?_
    · exact nt_ret Rh rfl (by omega)
    · exact nt_fk (n_X11_mustBePerson_c10 Rh) (by omega)
theorem n_X11_mustBeOtherPerson {ρ : Nat → Nat} {D F : Nat → Prop} {h0 : nk_H} {u v : Nat}   {h yh : nk_H} (Rh : nt_R ρ D F h0 u v yh h) (v0 : Int32) (v1 : Int32) : nt_F ρ D F h0 u v (nk_N h) nt_q (f_X11_mustBeOtherPerson h v0 v1) (f_X11_mustBeOtherPerson yh v0 v1) := by
  unfold f_X11_mustBeOtherPerson
  refine nt_ite ?_ ?_
  · exact nt_ret (nt_alR Rh 0 0 6) rfl (by rw [nk_N_al]; omega)
  · exact nt_ret Rh rfl (by omega)
theorem n_X11_mustHaveRoomForNews {ρ : Nat → Nat} {D F : Nat → Prop} {h0 : nk_H} {u v : Nat}   {h yh : nk_H} (Rh : nt_R ρ D F h0 u v yh h) {t0 yt0 : Nat} (At0 : nt_A ρ D (nk_N h) t0 yt0) : nt_F ρ D F h0 u v (nk_N h) nt_q (f_X11_mustHaveRoomForNews h t0) (f_X11_mustHaveRoomForNews yh yt0) := by
  unfold f_X11_mustHaveRoomForNews
  refine nt_gP Rh (nt_vS At0) (fun x1 yx1 Vx1 => ?_)
  refine nt_rcv Rh Vx1 (fun a2 ya2 Aa2 => ?_)
  refine nt_doE (n_X7_count Rh (nt_am Aa2 (by omega))) (fun h3 yh3 x4 Rh3 Lh3 => ?_)
  refine nt_ite ?_ ?_
  · exact nt_ret Rh3 rfl (by omega)
  · exact nt_ret (nt_alR Rh3 0 0 6) rfl (by rw [nk_N_al]; omega)
theorem n_X11_mustHaveRoomForPower {ρ : Nat → Nat} {D F : Nat → Prop} {h0 : nk_H} {u v : Nat}   {h yh : nk_H} (Rh : nt_R ρ D F h0 u v yh h) {t0 yt0 : Nat} (At0 : nt_A ρ D (nk_N h) t0 yt0) : nt_F ρ D F h0 u v (nk_N h) nt_q (f_X11_mustHaveRoomForPower h t0) (f_X11_mustHaveRoomForPower yh yt0) := by
  unfold f_X11_mustHaveRoomForPower
  refine nt_gP Rh (nt_vS At0) (fun x1 yx1 Vx1 => ?_)
  refine nt_rcv Rh Vx1 (fun a2 ya2 Aa2 => ?_)
  refine nt_doE (n_Jx4a65c_size_8abf5 Rh (nt_am Aa2 (by omega))) (fun h3 yh3 x4 Rh3 Lh3 => ?_)
  refine nt_ite ?_ ?_
  · refine nt_rcv Rh3 (nt_vS At0) (fun a5 ya5 Aa5 => ?_)
    refine nt_dt (by omega) (n_X11_mustHaveRoomForNews Rh3 (nt_am Aa5 (by omega))) (fun h6 yh6 x7 Rh6 Lh6 => ?_)
    exact nt_ret Rh6 rfl (by omega)
  · exact nt_ret (nt_alR Rh3 0 0 6) rfl (by rw [nk_N_al]; omega)
theorem n_X11_makePower {ρ : Nat → Nat} {D F : Nat → Prop} {h0 : nk_H} {u v : Nat}   {h yh : nk_H} (Rh : nt_R ρ D F h0 u v yh h) {t0 yt0 : Nat} (At0 : nt_A ρ D (nk_N h) t0 yt0) (v1 : Int32) {v2 yv2 : Option Nat} (Vv2 : nt_V ρ D (nk_N h) v2 yv2) (v3 : Int32) (v4 : Int32) : nt_F ρ D F h0 u v (nk_N h) nt_q (f_X11_makePower h t0 v1 v2 v3 v4) (f_X11_makePower yh yt0 v1 yv2 v3 v4) := by
  unfold f_X11_makePower
  refine nt_al Rh (fun h1 yh1 Rh1 Lh1 => ?_)
  refine nt_gP Rh1 (nt_vS At0) (fun x2 yx2 Vx2 => ?_)
  refine nt_rcv Rh1 Vx2 (fun a3 ya3 Aa3 => ?_)
  refine nt_doE (n_Jx4a65c_size_8abf5 Rh1 (nt_am Aa3 (by omega))) (fun h4 yh4 x5 Rh4 Lh4 => ?_)
  refine nt_gP Rh4 (nt_vS At0) (fun x6 yx6 Vx6 => ?_)
  refine nt_gI Rh4 (nt_vS At0) (fun x7 => ?_)
  refine nt_doE (n_X9_init Rh4 (nt_aN Rh (by omega)) _ (nt_vm Vv2 (by omega)) _ _ (nt_vm Vx6 (by omega)) _) (fun h8 yh8 x9 Rh8 Lh8 => ?_)
  refine nt_gP Rh8 (nt_vS At0) (fun x10 yx10 Vx10 => ?_)
  refine nt_rcv Rh8 Vx10 (fun a11 ya11 Aa11 => ?_)
  refine nt_doE (n_Jx4a65c_add_9ea2d Rh8 (nt_am Aa11 (by omega)) (nt_vN Rh (by omega))) (fun h12 yh12 x13 Rh12 Lh12 => ?_)
  refine nt_gP Rh12 (nt_vS At0) (fun x14 yx14 Vx14 => ?_)
  refine nt_gI Rh12 (nt_vS At0) (fun x15 => ?_)
  refine nt_rcv Rh12 Vx14 (fun a16 ya16 Aa16 => ?_)
  refine nt_doE (n_X7_publish Rh12 (nt_am Aa16 (by omega)) (nt_vN Rh (by omega)) _ _) (fun h17 yh17 x18 Rh17 Lh17 => ?_)
  refine nt_gI Rh17 (nt_vN Rh (Nat.lt_succ_self _)) (fun x19 => ?_)
  exact nt_ret Rh17 rfl (by omega)
theorem n_X11_grant {ρ : Nat → Nat} {D F : Nat → Prop} {h0 : nk_H} {u v : Nat}   {h yh : nk_H} (Rh : nt_R ρ D F h0 u v yh h) {t0 yt0 : Nat} (At0 : nt_A ρ D (nk_N h) t0 yt0) (v1 : Int32) (v2 : Int32) (v3 : Int32) : nt_F ρ D F h0 u v (nk_N h) nt_q (f_X11_grant h t0 v1 v2 v3) (f_X11_grant yh yt0 v1 v2 v3) := by
  unfold f_X11_grant
  refine nt_dt (by omega) (n_X11_mustBeKiosk Rh _) (fun h1 yh1 x2 Rh1 Lh1 => ?_)
  refine nt_dt (by omega) (n_X11_mustBePerson Rh1 _) (fun h3 yh3 x4 Rh3 Lh3 => ?_)
  refine nt_dt (by omega) (n_X11_mustBePerson Rh3 _) (fun h5 yh5 x6 Rh5 Lh5 => ?_)
  refine nt_dt (by omega) (n_X11_mustBeOtherPerson Rh5 _ _) (fun h7 yh7 x8 Rh7 Lh7 => ?_)
  refine nt_rcv Rh7 (nt_vS At0) (fun a9 ya9 Aa9 => ?_)
  refine nt_dt (by omega) (n_X11_mustHaveRoomForPower Rh7 (nt_am Aa9 (by omega))) (fun h10 yh10 x11 Rh10 Lh10 => ?_)
  refine nt_rcv Rh10 (nt_vS At0) (fun a12 ya12 Aa12 => ?_)
  refine nt_doE (n_X11_makePower Rh10 (nt_am Aa12 (by omega)) _ nt_vn _ _) (fun h13 yh13 x14 Rh13 Lh13 => ?_)
  exact nt_ret Rh13 rfl (by omega)
theorem n_X11_mustBePower_c15 {ρ : Nat → Nat} {D F : Nat → Prop} {h0 : nk_H} {u v : Nat}   {h yh : nk_H} (Rh : nt_R ρ D F h0 u v yh h) : nt_F ρ D F h0 u v (nk_N h) nt_q (f_X11_mustBePower_c15 h) (f_X11_mustBePower_c15 yh) := by
  unfold f_X11_mustBePower_c15
  exact nt_ret (nt_alR Rh 0 0 6) rfl (by rw [nk_N_al]; omega)
theorem n_X11_mustBePower {ρ : Nat → Nat} {D F : Nat → Prop} {h0 : nk_H} {u v : Nat}   {h yh : nk_H} (Rh : nt_R ρ D F h0 u v yh h) {t0 yt0 : Nat} (At0 : nt_A ρ D (nk_N h) t0 yt0) (v1 : Int32) : nt_F ρ D F h0 u v (nk_N h) nt_q (f_X11_mustBePower h t0 v1) (f_X11_mustBePower yh yt0 v1) := by
  unfold f_X11_mustBePower
  refine nt_ite ?_ ?_
  · exact nt_fk (n_X11_mustBePower_c15 Rh) (by omega)
  · refine nt_gP Rh (nt_vS At0) (fun x1 yx1 Vx1 => ?_)
    refine nt_rcv Rh Vx1 (fun a2 ya2 Aa2 => ?_)
    refine nt_doE (n_Jx4a65c_size_8abf5 Rh (nt_am Aa2 (by omega))) (fun h3 yh3 x4 Rh3 Lh3 => ?_)
    refine nt_ite ?_ ?_
    · exact nt_ret Rh3 rfl (by omega)
    · exact nt_fk (n_X11_mustBePower_c15 Rh3) (by omega)
theorem n_X11_isGoodAt_c46 {ρ : Nat → Nat} {D F : Nat → Prop} {h0 : nk_H} {u v : Nat}   {h yh : nk_H} (Rh : nt_R ρ D F h0 u v yh h) (s0 : Int32) : nt_F ρ D F h0 u v (nk_N h) nt_q (f_X11_isGoodAt_c46 h s0) (f_X11_isGoodAt_c46 yh s0) := by
  unfold f_X11_isGoodAt_c46
  exact nt_zr Rh _ rfl (by omega)
theorem n_X11_isGoodAt_c45 {ρ : Nat → Nat} {D F : Nat → Prop} {h0 : nk_H} {u v : Nat}   {h yh : nk_H} (Rh : nt_R ρ D F h0 u v yh h) : nt_F ρ D F h0 u v (nk_N h) nt_q (f_X11_isGoodAt_c45 h) (f_X11_isGoodAt_c45 yh) := by
  unfold f_X11_isGoodAt_c45
  exact nt_fk (n_X11_isGoodAt_c46 Rh _) (by omega)
theorem n_X11_isGoodAt {ρ : Nat → Nat} {D F : Nat → Prop} {h0 : nk_H} {u v : Nat}   {h yh : nk_H} (Rh : nt_R ρ D F h0 u v yh h) {t0 yt0 : Nat} (At0 : nt_A ρ D (nk_N h) t0 yt0) (v1 : Int32) {v2 yv2 : Option Nat} (Vv2 : nt_V ρ D (nk_N h) v2 yv2) : nt_F ρ D F h0 u v (nk_N h) nt_q (f_X11_isGoodAt h t0 v1 v2) (f_X11_isGoodAt yh yt0 v1 yv2) := by
  unfold f_X11_isGoodAt
  refine nt_gP Rh (nt_vS At0) (fun x1 yx1 Vx1 => ?_)
  refine nt_rcv Rh Vx1 (fun a2 ya2 Aa2 => ?_)
  refine nt_doE (n_X7_lookAtRead Rh (nt_am Aa2 (by omega)) _) (fun h3 yh3 x4 Rh3 Lh3 => ?_)
  refine nt_gP Rh3 (nt_vS At0) (fun x5 yx5 Vx5 => ?_)
  refine nt_rcv Rh3 Vx5 (fun a6 ya6 Aa6 => ?_)
  refine nt_doE (n_X7_knows Rh3 (nt_am Aa6 (by omega)) (nt_vm Vv2 (by omega))) (fun h7 yh7 x8 Rh7 Lh7 => ?_)
  refine nt_ite ?_ ?_
  · exact nt_fk (n_X11_isGoodAt_c45 Rh7) (by omega)
  · refine nt_gP Rh7 (nt_vS At0) (fun x9 yx9 Vx9 => ?_)
    refine nt_rcv Rh7 Vx9 (fun a10 ya10 Aa10 => ?_)
    refine nt_doE (n_X7_revokes Rh7 (nt_am Aa10 (by omega)) (nt_vm Vv2 (by omega))) (fun h11 yh11 x12 Rh11 Lh11 => ?_)
    refine nt_ite ?_ ?_
    · refine nt_gI Rh11 (nt_vS At0) (fun x13 => ?_)
      refine nt_rcv Rh11 Vv2 (fun a14 ya14 Aa14 => ?_)
      refine nt_doE (n_X9_isOver Rh11 (nt_am Aa14 (by omega)) _) (fun h15 yh15 x16 Rh15 Lh15 => ?_)
      refine nt_ite ?_ ?_
      · exact nt_fk (n_X11_isGoodAt_c46 Rh15 _) (by omega)
      · exact nt_fk (n_X11_isGoodAt_c45 Rh15) (by omega)
    · exact nt_fk (n_X11_isGoodAt_c45 Rh11) (by omega)
theorem n_X11_passOn {ρ : Nat → Nat} {D F : Nat → Prop} {h0 : nk_H} {u v : Nat}   {h yh : nk_H} (Rh : nt_R ρ D F h0 u v yh h) {t0 yt0 : Nat} (At0 : nt_A ρ D (nk_N h) t0 yt0) (v1 : Int32) (v2 : Int32) (v3 : Int32) : nt_F ρ D F h0 u v (nk_N h) nt_q (f_X11_passOn h t0 v1 v2 v3) (f_X11_passOn yh yt0 v1 v2 v3) := by
  unfold f_X11_passOn
  refine nt_dt (by omega) (n_X11_mustBeKiosk Rh _) (fun h1 yh1 x2 Rh1 Lh1 => ?_)
  refine nt_rcv Rh1 (nt_vS At0) (fun a3 ya3 Aa3 => ?_)
  refine nt_dt (by omega) (n_X11_mustBePower Rh1 (nt_am Aa3 (by omega)) _) (fun h4 yh4 x5 Rh4 Lh4 => ?_)
  refine nt_dt (by omega) (n_X11_mustBePerson Rh4 _) (fun h6 yh6 x7 Rh6 Lh6 => ?_)
  refine nt_gP Rh6 (nt_vS At0) (fun x8 yx8 Vx8 => ?_)
  refine nt_rcv Rh6 Vx8 (fun a9 ya9 Aa9 => ?_)
  refine nt_doV (n_Jx4a65c_get_915e3 Rh6 (nt_am Aa9 (by omega)) _) (fun h10 yh10 x11 yx11 Rh10 Vx11 Lh10 => ?_)
  refine nt_cc Rh10 Vx11 ?_
  refine nt_gI Rh10 Vx11 (fun x13 => ?_)
  refine nt_dt (by omega) (n_X11_mustBeOtherPerson Rh10 _ _) (fun h14 yh14 x15 Rh14 Lh14 => ?_)
  refine nt_gP Rh14 (nt_vS At0) (fun x16 yx16 Vx16 => ?_)
  refine nt_gI Rh14 (nt_vS At0) (fun x17 => ?_)
  refine nt_rcv Rh14 Vx11 (fun a18 ya18 Aa18 => ?_)
  refine nt_doE (n_X9_covers Rh14 (nt_am Aa18 (by omega)) (nt_vm Vx16 (by omega)) _) (fun h19 yh19 x20 Rh19 Lh19 => ?_)
  refine nt_ite ?_ ?_
  · exact nt_ret (nt_alR Rh19 0 0 6) rfl (by rw [nk_N_al]; omega)
  · refine nt_rcv Rh19 (nt_vS At0) (fun a21 ya21 Aa21 => ?_)
    refine nt_dt (by omega) (n_X11_mustHaveRoomForPower Rh19 (nt_am Aa21 (by omega))) (fun h22 yh22 x23 Rh22 Lh22 => ?_)
    refine nt_rcv Rh22 (nt_vS At0) (fun a24 ya24 Aa24 => ?_)
    refine nt_doE (n_X11_isGoodAt Rh22 (nt_am Aa24 (by omega)) _ (nt_vm Vx11 (by omega))) (fun h25 yh25 x26 Rh25 Lh25 => ?_)
    refine nt_ite ?_ ?_
    · exact nt_ret (nt_alR Rh25 0 0 6) rfl (by rw [nk_N_al]; omega)
    · refine nt_gI Rh25 Vx11 (fun x27 => ?_)
      refine nt_rcv Rh25 (nt_vS At0) (fun a28 ya28 Aa28 => ?_)
      refine nt_doE (n_X11_makePower Rh25 (nt_am Aa28 (by omega)) _ (nt_vm Vx11 (by omega)) _ _) (fun h29 yh29 x30 Rh29 Lh29 => ?_)
      exact nt_ret Rh29 rfl (by omega)
theorem n_X11_revoke_c81 {ρ : Nat → Nat} {D F : Nat → Prop} {h0 : nk_H} {u v : Nat}   {h yh : nk_H} (Rh : nt_R ρ D F h0 u v yh h) : nt_F ρ D F h0 u v (nk_N h) nt_q (f_X11_revoke_c81 h) (f_X11_revoke_c81 yh) := by
  unfold f_X11_revoke_c81
  exact nt_ret (nt_alR Rh 0 0 6) rfl (by rw [nk_N_al]; omega)
theorem n_X11_revoke {ρ : Nat → Nat} {D F : Nat → Prop} {h0 : nk_H} {u v : Nat}   {h yh : nk_H} (Rh : nt_R ρ D F h0 u v yh h) {t0 yt0 : Nat} (At0 : nt_A ρ D (nk_N h) t0 yt0) (v1 : Int32) (v2 : Int32) (v3 : Int32) : nt_F ρ D F h0 u v (nk_N h) nt_q (f_X11_revoke h t0 v1 v2 v3) (f_X11_revoke yh yt0 v1 v2 v3) := by
  unfold f_X11_revoke
  refine nt_dt (by omega) (n_X11_mustBeKiosk Rh _) (fun h1 yh1 x2 Rh1 Lh1 => ?_)
  refine nt_dt (by omega) (n_X11_mustBePerson Rh1 _) (fun h3 yh3 x4 Rh3 Lh3 => ?_)
  refine nt_rcv Rh3 (nt_vS At0) (fun a5 ya5 Aa5 => ?_)
  refine nt_dt (by omega) (n_X11_mustBePower Rh3 (nt_am Aa5 (by omega)) _) (fun h6 yh6 x7 Rh6 Lh6 => ?_)
  refine nt_gP Rh6 (nt_vS At0) (fun x8 yx8 Vx8 => ?_)
  refine nt_rcv Rh6 Vx8 (fun a9 ya9 Aa9 => ?_)
  refine nt_doV (n_Jx4a65c_get_915e3 Rh6 (nt_am Aa9 (by omega)) _) (fun h10 yh10 x11 yx11 Rh10 Vx11 Lh10 => ?_)
  refine nt_cc Rh10 Vx11 ?_
  refine nt_rcv Rh10 Vx11 (fun a13 ya13 Aa13 => ?_)
  refine nt_doE (n_X9_hasGiver Rh10 (nt_am Aa13 (by omega)) _) (fun h14 yh14 x15 Rh14 Lh14 => ?_)
  refine nt_ite ?_ ?_
  · exact nt_ret (nt_alR Rh14 0 0 6) rfl (by rw [nk_N_al]; omega)
  · refine nt_rcv Rh14 (nt_vS At0) (fun a16 ya16 Aa16 => ?_)
    refine nt_dt (by omega) (n_X11_mustHaveRoomForNews Rh14 (nt_am Aa16 (by omega))) (fun h17 yh17 x18 Rh17 Lh17 => ?_)
    refine nt_gP Rh17 (nt_vS At0) (fun x19 yx19 Vx19 => ?_)
    refine nt_rcv Rh17 Vx19 (fun a20 ya20 Aa20 => ?_)
    refine nt_doE (n_X7_lookAtRead Rh17 (nt_am Aa20 (by omega)) _) (fun h21 yh21 x22 Rh21 Lh21 => ?_)
    refine nt_gP Rh21 (nt_vS At0) (fun x23 yx23 Vx23 => ?_)
    refine nt_rcv Rh21 Vx23 (fun a24 ya24 Aa24 => ?_)
    refine nt_doE (n_X7_knows Rh21 (nt_am Aa24 (by omega)) (nt_vm Vx11 (by omega))) (fun h25 yh25 x26 Rh25 Lh25 => ?_)
    refine nt_ite ?_ ?_
    · exact nt_fk (n_X11_revoke_c81 Rh25) (by omega)
    · refine nt_gP Rh25 (nt_vS At0) (fun x27 yx27 Vx27 => ?_)
      refine nt_rcv Rh25 Vx27 (fun a28 ya28 Aa28 => ?_)
      refine nt_doE (n_X7_revokes Rh25 (nt_am Aa28 (by omega)) (nt_vm Vx11 (by omega))) (fun h29 yh29 x30 Rh29 Lh29 => ?_)
      refine nt_ite ?_ ?_
      · refine nt_gP Rh29 (nt_vS At0) (fun x31 yx31 Vx31 => ?_)
        refine nt_al Rh29 (fun h32 yh32 Rh32 Lh32 => ?_)
        refine nt_doE (n_X10_init Rh32 (nt_aN Rh29 (by omega)) (nt_vm Vx11 (by omega))) (fun h33 yh33 x34 Rh33 Lh33 => ?_)
        refine nt_gI Rh33 (nt_vS At0) (fun x35 => ?_)
        refine nt_rcv Rh33 Vx31 (fun a36 ya36 Aa36 => ?_)
        refine nt_doE (n_X7_publish Rh33 (nt_am Aa36 (by omega)) (nt_vN Rh29 (by omega)) _ _) (fun h37 yh37 x38 Rh37 Lh37 => ?_)
        exact nt_ret Rh37 rfl (by omega)
      · exact nt_fk (n_X11_revoke_c81 Rh29) (by omega)
theorem n_X11_depute {ρ : Nat → Nat} {D F : Nat → Prop} {h0 : nk_H} {u v : Nat}   {h yh : nk_H} (Rh : nt_R ρ D F h0 u v yh h) {t0 yt0 : Nat} (At0 : nt_A ρ D (nk_N h) t0 yt0) (v1 : Int32) (v2 : Int32) (v3 : Int32) : nt_F ρ D F h0 u v (nk_N h) nt_q (f_X11_depute h t0 v1 v2 v3) (f_X11_depute yh yt0 v1 v2 v3) := by
  unfold f_X11_depute
  refine nt_dt (by omega) (n_X11_mustBeKiosk Rh _) (fun h1 yh1 x2 Rh1 Lh1 => ?_)
  refine nt_dt (by omega) (n_X11_mustBeWithin Rh1 _ _ _) (fun h3 yh3 x4 Rh3 Lh3 => ?_)
  refine nt_dt (by omega) (n_X11_mustBeWithin Rh3 _ _ _) (fun h5 yh5 x6 Rh5 Lh5 => ?_)
  refine nt_rcv Rh5 (nt_vS At0) (fun a7 ya7 Aa7 => ?_)
  refine nt_dt (by omega) (n_X11_mustHaveRoomForNews Rh5 (nt_am Aa7 (by omega))) (fun h8 yh8 x9 Rh8 Lh8 => ?_)
  refine nt_gI Rh8 (nt_vS At0) (fun x10 => ?_)
  refine nt_gP Rh8 (nt_vS At0) (fun x11 yx11 Vx11 => ?_)
  refine nt_rcv Rh8 Vx11 (fun a12 ya12 Aa12 => ?_)
  refine nt_doE (n_X7_lookAtAll Rh8 (nt_am Aa12 (by omega))) (fun h13 yh13 x14 Rh13 Lh13 => ?_)
  refine nt_gP Rh13 (nt_vS At0) (fun x15 yx15 Vx15 => ?_)
  refine nt_rcv Rh13 Vx15 (fun a16 ya16 Aa16 => ?_)
  refine nt_doE (n_X7_deputes Rh13 (nt_am Aa16 (by omega)) _ _ _) (fun h17 yh17 x18 Rh17 Lh17 => ?_)
  refine nt_ite ?_ ?_
  · refine nt_gP Rh17 (nt_vS At0) (fun x19 yx19 Vx19 => ?_)
    refine nt_al Rh17 (fun h20 yh20 Rh20 Lh20 => ?_)
    refine nt_doE (n_X4_init Rh20 (nt_aN Rh17 (by omega)) _ _ _) (fun h21 yh21 x22 Rh21 Lh21 => ?_)
    refine nt_gI Rh21 (nt_vS At0) (fun x23 => ?_)
    refine nt_rcv Rh21 Vx19 (fun a24 ya24 Aa24 => ?_)
    refine nt_doE (n_X7_publish Rh21 (nt_am Aa24 (by omega)) (nt_vN Rh17 (by omega)) _ _) (fun h25 yh25 x26 Rh25 Lh25 => ?_)
    exact nt_ret Rh25 rfl (by omega)
  · exact nt_ret (nt_alR Rh17 0 0 6) rfl (by rw [nk_N_al]; omega)
theorem n_X11_prepare {ρ : Nat → Nat} {D F : Nat → Prop} {h0 : nk_H} {u v : Nat}   {h yh : nk_H} (Rh : nt_R ρ D F h0 u v yh h) {t0 yt0 : Nat} (At0 : nt_A ρ D (nk_N h) t0 yt0) (v1 : Int32) (v2 : Int32) : nt_F ρ D F h0 u v (nk_N h) nt_q (f_X11_prepare h t0 v1 v2) (f_X11_prepare yh yt0 v1 v2) := by
  unfold f_X11_prepare
  refine nt_dt (by omega) (n_X11_mustBeWithin Rh _ _ _) (fun h1 yh1 x2 Rh1 Lh1 => ?_)
  refine nt_dt (by omega) (n_X11_mustBeWithin Rh1 _ _ _) (fun h3 yh3 x4 Rh3 Lh3 => ?_)
  refine nt_pI Rh3 (nt_vS At0) (fun h5 yh5 Rh5 Lh5 => ?_)
  refine nt_pI Rh5 (nt_vS At0) (fun h6 yh6 Rh6 Lh6 => ?_)
  exact nt_ret Rh6 rfl (by omega)
theorem n_X11_deedNow {ρ : Nat → Nat} {D F : Nat → Prop} {h0 : nk_H} {u v : Nat}   {h yh : nk_H} (Rh : nt_R ρ D F h0 u v yh h) {t0 yt0 : Nat} (At0 : nt_A ρ D (nk_N h) t0 yt0) (v1 : Int32) (v2 : Int32) (v3 : Int32) : nt_F ρ D F h0 u v (nk_N h) (nt_V ρ D) (f_X11_deedNow h t0 v1 v2 v3) (f_X11_deedNow yh yt0 v1 v2 v3) := by
  unfold f_X11_deedNow
  refine nt_al Rh (fun h1 yh1 Rh1 Lh1 => ?_)
  refine nt_gI Rh1 (nt_vS At0) (fun x2 => ?_)
  refine nt_gI Rh1 (nt_vS At0) (fun x3 => ?_)
  refine nt_gI Rh1 (nt_vS At0) (fun x4 => ?_)
  refine nt_doE (n_X3_init Rh1 (nt_aN Rh (by omega)) _ _ _ _ _ _) (fun h5 yh5 x6 Rh5 Lh5 => ?_)
  exact nt_ret Rh5 (nt_vN Rh (by omega)) (by omega)
theorem n_X11_reasonByMail {ρ : Nat → Nat} {D F : Nat → Prop} {h0 : nk_H} {u v : Nat}   {h yh : nk_H} (Rh : nt_R ρ D F h0 u v yh h) {t0 yt0 : Nat} (At0 : nt_A ρ D (nk_N h) t0 yt0) {v1 yv1 : Option Nat} (Vv1 : nt_V ρ D (nk_N h) v1 yv1) : nt_F ρ D F h0 u v (nk_N h) nt_q (f_X11_reasonByMail h t0 v1) (f_X11_reasonByMail yh yt0 yv1) := by
  unfold f_X11_reasonByMail
  refine nt_gP Rh (nt_vS At0) (fun x1 yx1 Vx1 => ?_)
  refine nt_rcv Rh Vx1 (fun a2 ya2 Aa2 => ?_)
  refine nt_doE (n_X7_lookAtReadable Rh (nt_am Aa2 (by omega)) (nt_vm Vv1 (by omega))) (fun h3 yh3 x4 Rh3 Lh3 => ?_)
  refine nt_gP Rh3 (nt_vS At0) (fun x5 yx5 Vx5 => ?_)
  refine nt_gP Rh3 Vv1 (fun x6 yx6 Vx6 => ?_)
  refine nt_gP Rh3 Vv1 (fun x7 yx7 Vx7 => ?_)
  refine nt_rcv Rh3 Vx5 (fun a8 ya8 Aa8 => ?_)
  refine nt_doE (n_X7_reasonAgainst Rh3 (nt_am Aa8 (by omega)) (nt_vm Vx6 (by omega)) (nt_vm Vx7 (by omega))) (fun h9 yh9 x10 Rh9 Lh9 => ?_)
  exact nt_ret Rh9 rfl (by omega)
theorem n_X11_act_c125 {ρ : Nat → Nat} {D F : Nat → Prop} {h0 : nk_H} {u v : Nat}   {h yh : nk_H} (Rh : nt_R ρ D F h0 u v yh h) {t0 yt0 : Nat} (At0 : nt_A ρ D (nk_N h) t0 yt0) (v1 : Int32) {v7 yv7 : Option Nat} (Vv7 : nt_V ρ D (nk_N h) v7 yv7) (s0 : Int32) {s1 ys1 : Option Nat} (Vs1 : nt_V ρ D (nk_N h) s1 ys1) : nt_F ρ D F h0 u v (nk_N h) nt_q (f_X11_act_c125 h t0 v1 v7 s0 s1) (f_X11_act_c125 yh yt0 v1 yv7 s0 ys1) := by
  unfold f_X11_act_c125
  refine nt_pZ Rh Vs1 (fun h1 yh1 Rh1 Lh1 => ?_)
  refine nt_gP Rh1 (nt_vS At0) (fun x2 yx2 Vx2 => ?_)
  refine nt_aP Rh1 Vx2 (fun x3 yx3 Vx3 => ?_)
  refine nt_rcv Rh1 Vx3 (fun a4 ya4 Aa4 => ?_)
  refine nt_doE (n_X1_enter Rh1 (nt_am Aa4 (by omega)) (nt_vm Vv7 (by omega))) (fun h5 yh5 x6 Rh5 Lh5 => ?_)
  exact nt_ret Rh5 rfl (by omega)
theorem n_X11_act {ρ : Nat → Nat} {D F : Nat → Prop} {h0 : nk_H} {u v : Nat}   {h yh : nk_H} (Rh : nt_R ρ D F h0 u v yh h) {t0 yt0 : Nat} (At0 : nt_A ρ D (nk_N h) t0 yt0) (v1 : Int32) (v2 : Int32) (v3 : Int32) (v4 : Int32) : nt_F ρ D F h0 u v (nk_N h) nt_q (f_X11_act h t0 v1 v2 v3 v4) (f_X11_act yh yt0 v1 v2 v3 v4) := by
  unfold f_X11_act
  refine nt_dt (by omega) (n_X11_mustBeKiosk Rh _) (fun h7 yh7 x8 Rh7 Lh7 => ?_)
  refine nt_dt (by omega) (n_X11_mustBePerson Rh7 _) (fun h9 yh9 x10 Rh9 Lh9 => ?_)
  refine nt_rcv Rh9 (nt_vS At0) (fun a11 ya11 Aa11 => ?_)
  refine nt_dt (by omega) (n_X11_mustBePower Rh9 (nt_am Aa11 (by omega)) _) (fun h12 yh12 x13 Rh12 Lh12 => ?_)
  refine nt_dt (by omega) (n_X11_mustBeWithin Rh12 _ _ _) (fun h14 yh14 x15 Rh14 Lh14 => ?_)
  refine nt_rcv Rh14 (nt_vS At0) (fun a16 ya16 Aa16 => ?_)
  refine nt_dt (by omega) (n_X11_mustHaveRoomForNews Rh14 (nt_am Aa16 (by omega))) (fun h17 yh17 x18 Rh17 Lh17 => ?_)
  refine nt_gP Rh17 (nt_vS At0) (fun x19 yx19 Vx19 => ?_)
  refine nt_rcv Rh17 Vx19 (fun a20 ya20 Aa20 => ?_)
  refine nt_doV (n_Jx4a65c_get_915e3 Rh17 (nt_am Aa20 (by omega)) _) (fun h21 yh21 x22 yx22 Rh21 Vx22 Lh21 => ?_)
  refine nt_cc Rh21 Vx22 ?_
  refine nt_rcv Rh21 (nt_vS At0) (fun a24 ya24 Aa24 => ?_)
  refine nt_doV (n_X11_deedNow Rh21 (nt_am Aa24 (by omega)) _ _ _) (fun h25 yh25 x26 yx26 Rh25 Vx26 Lh25 => ?_)
  refine nt_gP Rh25 (nt_vS At0) (fun x27 yx27 Vx27 => ?_)
  refine nt_rcv Rh25 Vx27 (fun a28 ya28 Aa28 => ?_)
  refine nt_doE (n_X7_lookAtRead Rh25 (nt_am Aa28 (by omega)) _) (fun h29 yh29 x30 Rh29 Lh29 => ?_)
  refine nt_gP Rh29 (nt_vS At0) (fun x31 yx31 Vx31 => ?_)
  refine nt_rcv Rh29 Vx31 (fun a32 ya32 Aa32 => ?_)
  refine nt_doE (n_X7_reasonAgainst Rh29 (nt_am Aa32 (by omega)) (nt_vm Vx22 (by omega)) (nt_vm Vx26 (by omega))) (fun h33 yh33 x34 Rh33 Lh33 => ?_)
  refine nt_ite ?_ ?_
  · refine nt_al Rh33 (fun h35 yh35 Rh35 Lh35 => ?_)
    refine nt_doE (n_X0_init Rh35 (nt_aN Rh33 (by omega)) (nt_vm Vx22 (by omega)) (nt_vm Vx26 (by omega))) (fun h36 yh36 x37 Rh36 Lh36 => ?_)
    refine nt_gP Rh36 (nt_vS At0) (fun x38 yx38 Vx38 => ?_)
    refine nt_gI Rh36 (nt_vS At0) (fun x39 => ?_)
    refine nt_rcv Rh36 Vx38 (fun a40 ya40 Aa40 => ?_)
    refine nt_doE (n_X7_publish Rh36 (nt_am Aa40 (by omega)) (nt_vN Rh33 (by omega)) _ _) (fun h41 yh41 x42 Rh41 Lh41 => ?_)
    refine nt_rcv Rh41 (nt_vS At0) (fun a43 ya43 Aa43 => ?_)
    refine nt_doE (n_X11_reasonByMail Rh41 (nt_am Aa43 (by omega)) (nt_vN Rh33 (by omega))) (fun h44 yh44 x45 Rh44 Lh44 => ?_)
    refine nt_ite ?_ ?_
    · exact nt_fk (n_X11_act_c125 Rh44 (nt_am At0 (by omega)) _ (nt_vN Rh33 (by omega)) _ (nt_vN Rh33 (by omega))) (by omega)
    · exact nt_fk (n_X11_act_c125 Rh44 (nt_am At0 (by omega)) _ (nt_vN Rh33 (by omega)) _ (nt_vN Rh33 (by omega))) (by omega)
  · exact nt_ret (nt_alR Rh33 0 0 6) rfl (by rw [nk_N_al]; omega)
theorem n_X11_mustBeRecord_c21 {ρ : Nat → Nat} {D F : Nat → Prop} {h0 : nk_H} {u v : Nat}   {h yh : nk_H} (Rh : nt_R ρ D F h0 u v yh h) : nt_F ρ D F h0 u v (nk_N h) nt_q (f_X11_mustBeRecord_c21 h) (f_X11_mustBeRecord_c21 yh) := by
  unfold f_X11_mustBeRecord_c21
  exact nt_ret (nt_alR Rh 0 0 6) rfl (by rw [nk_N_al]; omega)
theorem n_X11_mustBeRecord {ρ : Nat → Nat} {D F : Nat → Prop} {h0 : nk_H} {u v : Nat}   {h yh : nk_H} (Rh : nt_R ρ D F h0 u v yh h) {t0 yt0 : Nat} (At0 : nt_A ρ D (nk_N h) t0 yt0) (v1 : Int32) (v2 : Int32) : nt_F ρ D F h0 u v (nk_N h) nt_q (f_X11_mustBeRecord h t0 v1 v2) (f_X11_mustBeRecord yh yt0 v1 v2) := by
  unfold f_X11_mustBeRecord
  refine nt_dt (by omega) (n_X11_mustBeKiosk Rh _) (fun h1 yh1 x2 Rh1 Lh1 => ?_)
  refine nt_ite ?_ ?_
  · exact nt_fk (n_X11_mustBeRecord_c21 Rh1) (by omega)
  · refine nt_gP Rh1 (nt_vS At0) (fun x3 yx3 Vx3 => ?_)
    refine nt_aP Rh1 Vx3 (fun x4 yx4 Vx4 => ?_)
    refine nt_rcv Rh1 Vx4 (fun a5 ya5 Aa5 => ?_)
    refine nt_doE (n_X1_count Rh1 (nt_am Aa5 (by omega))) (fun h6 yh6 x7 Rh6 Lh6 => ?_)
    refine nt_ite ?_ ?_
    · exact nt_ret Rh6 rfl (by omega)
    · exact nt_fk (n_X11_mustBeRecord_c21 Rh6) (by omega)
theorem n_X11_tamper {ρ : Nat → Nat} {D F : Nat → Prop} {h0 : nk_H} {u v : Nat}   {h yh : nk_H} (Rh : nt_R ρ D F h0 u v yh h) {t0 yt0 : Nat} (At0 : nt_A ρ D (nk_N h) t0 yt0) (v1 : Int32) (v2 : Int32) (v3 : Int32) : nt_F ρ D F h0 u v (nk_N h) nt_q (f_X11_tamper h t0 v1 v2 v3) (f_X11_tamper yh yt0 v1 v2 v3) := by
  unfold f_X11_tamper
  refine nt_rcv Rh (nt_vS At0) (fun a1 ya1 Aa1 => ?_)
  refine nt_dt (by omega) (n_X11_mustBeRecord Rh (nt_am Aa1 (by omega)) _ _) (fun h2 yh2 x3 Rh2 Lh2 => ?_)
  refine nt_dt (by omega) (n_X11_mustBeWithin Rh2 _ _ _) (fun h4 yh4 x5 Rh4 Lh4 => ?_)
  refine nt_gP Rh4 (nt_vS At0) (fun x6 yx6 Vx6 => ?_)
  refine nt_aP Rh4 Vx6 (fun x7 yx7 Vx7 => ?_)
  refine nt_rcv Rh4 Vx7 (fun a8 ya8 Aa8 => ?_)
  refine nt_doV (n_X1_actOf Rh4 (nt_am Aa8 (by omega)) _) (fun h9 yh9 x10 yx10 Rh9 Vx10 Lh9 => ?_)
  refine nt_gP Rh9 Vx10 (fun x11 yx11 Vx11 => ?_)
  refine nt_aI Rh9 Vx11 (fun x12 => ?_)
  refine nt_gP Rh9 Vx10 (fun x13 yx13 Vx13 => ?_)
  refine nt_wI Rh9 Vx13 (fun h14 yh14 Rh14 Lh14 => ?_)
  exact nt_ret Rh14 rfl (by omega)
theorem n_X11_copy {ρ : Nat → Nat} {D F : Nat → Prop} {h0 : nk_H} {u v : Nat}   {h yh : nk_H} (Rh : nt_R ρ D F h0 u v yh h) {t0 yt0 : Nat} (At0 : nt_A ρ D (nk_N h) t0 yt0) (v1 : Int32) (v2 : Int32) (v3 : Int32) (v4 : Int32) : nt_F ρ D F h0 u v (nk_N h) nt_q (f_X11_copy h t0 v1 v2 v3 v4) (f_X11_copy yh yt0 v1 v2 v3 v4) := by
  unfold f_X11_copy
  refine nt_rcv Rh (nt_vS At0) (fun a1 ya1 Aa1 => ?_)
  refine nt_dt (by omega) (n_X11_mustBeRecord Rh (nt_am Aa1 (by omega)) _ _) (fun h2 yh2 x3 Rh2 Lh2 => ?_)
  refine nt_rcv Rh2 (nt_vS At0) (fun a4 ya4 Aa4 => ?_)
  refine nt_dt (by omega) (n_X11_mustBeRecord Rh2 (nt_am Aa4 (by omega)) _ _) (fun h5 yh5 x6 Rh5 Lh5 => ?_)
  refine nt_dt (by omega) (n_X11_mustBeWithin Rh5 _ _ _) (fun h7 yh7 x8 Rh7 Lh7 => ?_)
  refine nt_ite ?_ ?_
  · refine nt_gP Rh7 (nt_vS At0) (fun x9 yx9 Vx9 => ?_)
    refine nt_rcv Rh7 Vx9 (fun a10 ya10 Aa10 => ?_)
    refine nt_doE (n_Jx4a65c_size_8abf5 Rh7 (nt_am Aa10 (by omega))) (fun h11 yh11 x12 Rh11 Lh11 => ?_)
    refine nt_ite ?_ ?_
    · refine nt_al Rh11 (fun h13 yh13 Rh13 Lh13 => ?_)
      refine nt_doE (n_X2_init Rh13 (nt_aN Rh11 (by omega)) _ _ _ _) (fun h14 yh14 x15 Rh14 Lh14 => ?_)
      refine nt_gP Rh14 (nt_vS At0) (fun x16 yx16 Vx16 => ?_)
      refine nt_aP Rh14 Vx16 (fun x17 yx17 Vx17 => ?_)
      refine nt_rcv Rh14 (nt_vN Rh11 (Nat.lt_succ_self _)) (fun a18 ya18 Aa18 => ?_)
      refine nt_doE (n_X2_takeFrom Rh14 (nt_am Aa18 (by omega)) (nt_vm Vx17 (by omega))) (fun h19 yh19 x20 Rh19 Lh19 => ?_)
      refine nt_gP Rh19 (nt_vS At0) (fun x21 yx21 Vx21 => ?_)
      refine nt_rcv Rh19 Vx21 (fun a22 ya22 Aa22 => ?_)
      refine nt_doE (n_Jx4a65c_add_9ea2d Rh19 (nt_am Aa22 (by omega)) (nt_vN Rh11 (by omega))) (fun h23 yh23 x24 Rh23 Lh23 => ?_)
      refine nt_gP Rh23 (nt_vS At0) (fun x25 yx25 Vx25 => ?_)
      refine nt_rcv Rh23 Vx25 (fun a26 ya26 Aa26 => ?_)
      refine nt_doE (n_Jx4a65c_size_8abf5 Rh23 (nt_am Aa26 (by omega))) (fun h27 yh27 x28 Rh27 Lh27 => ?_)
      exact nt_ret Rh27 rfl (by omega)
    · exact nt_ret (nt_alR Rh11 0 0 6) rfl (by rw [nk_N_al]; omega)
  · exact nt_ret (nt_alR Rh7 0 0 6) rfl (by rw [nk_N_al]; omega)
theorem n_X11_mustBeCopy_c15 {ρ : Nat → Nat} {D F : Nat → Prop} {h0 : nk_H} {u v : Nat}   {h yh : nk_H} (Rh : nt_R ρ D F h0 u v yh h) : nt_F ρ D F h0 u v (nk_N h) nt_q (f_X11_mustBeCopy_c15 h) (f_X11_mustBeCopy_c15 yh) := by
  unfold f_X11_mustBeCopy_c15
  exact nt_ret (nt_alR Rh 0 0 6) rfl (by rw [nk_N_al]; omega)
theorem n_X11_mustBeCopy {ρ : Nat → Nat} {D F : Nat → Prop} {h0 : nk_H} {u v : Nat}   {h yh : nk_H} (Rh : nt_R ρ D F h0 u v yh h) {t0 yt0 : Nat} (At0 : nt_A ρ D (nk_N h) t0 yt0) (v1 : Int32) : nt_F ρ D F h0 u v (nk_N h) nt_q (f_X11_mustBeCopy h t0 v1) (f_X11_mustBeCopy yh yt0 v1) := by
  unfold f_X11_mustBeCopy
  refine nt_ite ?_ ?_
  · exact nt_fk (n_X11_mustBeCopy_c15 Rh) (by omega)
  · refine nt_gP Rh (nt_vS At0) (fun x1 yx1 Vx1 => ?_)
    refine nt_rcv Rh Vx1 (fun a2 ya2 Aa2 => ?_)
    refine nt_doE (n_Jx4a65c_size_8abf5 Rh (nt_am Aa2 (by omega))) (fun h3 yh3 x4 Rh3 Lh3 => ?_)
    refine nt_ite ?_ ?_
    · exact nt_ret Rh3 rfl (by omega)
    · exact nt_fk (n_X11_mustBeCopy_c15 Rh3) (by omega)
theorem n_X11_mustBePlace_c27 {ρ : Nat → Nat} {D F : Nat → Prop} {h0 : nk_H} {u v : Nat}   {h yh : nk_H} (Rh : nt_R ρ D F h0 u v yh h) : nt_F ρ D F h0 u v (nk_N h) nt_q (f_X11_mustBePlace_c27 h) (f_X11_mustBePlace_c27 yh) := by
  unfold f_X11_mustBePlace_c27
  exact nt_ret (nt_alR Rh 0 0 6) rfl (by rw [nk_N_al]; omega)
theorem n_X11_mustBePlace {ρ : Nat → Nat} {D F : Nat → Prop} {h0 : nk_H} {u v : Nat}   {h yh : nk_H} (Rh : nt_R ρ D F h0 u v yh h) {t0 yt0 : Nat} (At0 : nt_A ρ D (nk_N h) t0 yt0) (v1 : Int32) (v2 : Int32) : nt_F ρ D F h0 u v (nk_N h) nt_q (f_X11_mustBePlace h t0 v1 v2) (f_X11_mustBePlace yh yt0 v1 v2) := by
  unfold f_X11_mustBePlace
  refine nt_rcv Rh (nt_vS At0) (fun a1 ya1 Aa1 => ?_)
  refine nt_dt (by omega) (n_X11_mustBeCopy Rh (nt_am Aa1 (by omega)) _) (fun h2 yh2 x3 Rh2 Lh2 => ?_)
  refine nt_ite ?_ ?_
  · exact nt_fk (n_X11_mustBePlace_c27 Rh2) (by omega)
  · refine nt_gP Rh2 (nt_vS At0) (fun x4 yx4 Vx4 => ?_)
    refine nt_rcv Rh2 Vx4 (fun a5 ya5 Aa5 => ?_)
    refine nt_doV (n_Jx4a65c_get_915e3 Rh2 (nt_am Aa5 (by omega)) _) (fun h6 yh6 x7 yx7 Rh6 Vx7 Lh6 => ?_)
    refine nt_cc Rh6 Vx7 ?_
    refine nt_gI Rh6 Vx7 (fun x9 => ?_)
    refine nt_ite ?_ ?_
    · exact nt_ret Rh6 rfl (by omega)
    · exact nt_fk (n_X11_mustBePlace_c27 Rh6) (by omega)
theorem n_X11_mustBePart_c10 {ρ : Nat → Nat} {D F : Nat → Prop} {h0 : nk_H} {u v : Nat}   {h yh : nk_H} (Rh : nt_R ρ D F h0 u v yh h) : nt_F ρ D F h0 u v (nk_N h) nt_q (f_X11_mustBePart_c10 h) (f_X11_mustBePart_c10 yh) := by
  unfold f_X11_mustBePart_c10
  exact nt_ret (nt_alR Rh 0 0 6) rfl (by rw [nk_N_al]; omega)
theorem n_X11_mustBePart {ρ : Nat → Nat} {D F : Nat → Prop} {h0 : nk_H} {u v : Nat}   {h yh : nk_H} (Rh : nt_R ρ D F h0 u v yh h) (v0 : Int32) : nt_F ρ D F h0 u v (nk_N h) nt_q (f_X11_mustBePart h v0) (f_X11_mustBePart yh v0) := by
  unfold f_X11_mustBePart
  refine nt_ite ?_ ?_
  · exact nt_fk (n_X11_mustBePart_c10 Rh) (by omega)
  · refine nt_ite ?_ ?_
    · exact nt_ret Rh rfl (by omega)
    · exact nt_fk (n_X11_mustBePart_c10 Rh) (by omega)
theorem n_X11_forge {ρ : Nat → Nat} {D F : Nat → Prop} {h0 : nk_H} {u v : Nat}   {h yh : nk_H} (Rh : nt_R ρ D F h0 u v yh h) {t0 yt0 : Nat} (At0 : nt_A ρ D (nk_N h) t0 yt0) (v1 : Int32) (v2 : Int32) (v3 : Int32) (v4 : Int32) : nt_F ρ D F h0 u v (nk_N h) nt_q (f_X11_forge h t0 v1 v2 v3 v4) (f_X11_forge yh yt0 v1 v2 v3 v4) := by
  unfold f_X11_forge
  refine nt_rcv Rh (nt_vS At0) (fun a1 ya1 Aa1 => ?_)
  refine nt_dt (by omega) (n_X11_mustBePlace Rh (nt_am Aa1 (by omega)) _ _) (fun h2 yh2 x3 Rh2 Lh2 => ?_)
  refine nt_dt (by omega) (n_X11_mustBePart Rh2 _) (fun h4 yh4 x5 Rh4 Lh4 => ?_)
  refine nt_dt (by omega) (n_X11_mustBeWithin Rh4 _ _ _) (fun h6 yh6 x7 Rh6 Lh6 => ?_)
  refine nt_gP Rh6 (nt_vS At0) (fun x8 yx8 Vx8 => ?_)
  refine nt_rcv Rh6 Vx8 (fun a9 ya9 Aa9 => ?_)
  refine nt_doV (n_Jx4a65c_get_915e3 Rh6 (nt_am Aa9 (by omega)) _) (fun h10 yh10 x11 yx11 Rh10 Vx11 Lh10 => ?_)
  refine nt_cc Rh10 Vx11 ?_
  refine nt_rcv Rh10 Vx11 (fun a13 ya13 Aa13 => ?_)
  refine nt_doE (n_X2_leavesOut Rh10 (nt_am Aa13 (by omega)) _) (fun h14 yh14 x15 Rh14 Lh14 => ?_)
  refine nt_ite ?_ ?_
  · refine nt_gP Rh14 Vx11 (fun x16 yx16 Vx16 => ?_)
    refine nt_aP Rh14 Vx16 (fun x17 yx17 Vx17 => ?_)
    refine nt_aI Rh14 Vx17 (fun x18 => ?_)
    refine nt_gP Rh14 Vx11 (fun x19 yx19 Vx19 => ?_)
    refine nt_aP Rh14 Vx19 (fun x20 yx20 Vx20 => ?_)
    refine nt_wI Rh14 Vx20 (fun h21 yh21 Rh21 Lh21 => ?_)
    exact nt_ret Rh21 rfl (by omega)
  · exact nt_ret (nt_alR Rh14 0 0 6) rfl (by rw [nk_N_al]; omega)
theorem n_X11_hour {ρ : Nat → Nat} {D F : Nat → Prop} {h0 : nk_H} {u v : Nat}   {h yh : nk_H} (Rh : nt_R ρ D F h0 u v yh h) {t0 yt0 : Nat} (At0 : nt_A ρ D (nk_N h) t0 yt0) : nt_F ρ D F h0 u v (nk_N h) nt_q (f_X11_hour h t0) (f_X11_hour yh yt0) := by
  unfold f_X11_hour
  refine nt_gI Rh (nt_vS At0) (fun x1 => ?_)
  exact nt_ret Rh rfl (by omega)
theorem n_X11_news {ρ : Nat → Nat} {D F : Nat → Prop} {h0 : nk_H} {u v : Nat}   {h yh : nk_H} (Rh : nt_R ρ D F h0 u v yh h) {t0 yt0 : Nat} (At0 : nt_A ρ D (nk_N h) t0 yt0) : nt_F ρ D F h0 u v (nk_N h) nt_q (f_X11_news h t0) (f_X11_news yh yt0) := by
  unfold f_X11_news
  refine nt_gP Rh (nt_vS At0) (fun x1 yx1 Vx1 => ?_)
  refine nt_rcv Rh Vx1 (fun a2 ya2 Aa2 => ?_)
  refine nt_doE (n_X7_count Rh (nt_am Aa2 (by omega))) (fun h3 yh3 x4 Rh3 Lh3 => ?_)
  exact nt_ret Rh3 rfl (by omega)
theorem n_X11_powers {ρ : Nat → Nat} {D F : Nat → Prop} {h0 : nk_H} {u v : Nat}   {h yh : nk_H} (Rh : nt_R ρ D F h0 u v yh h) {t0 yt0 : Nat} (At0 : nt_A ρ D (nk_N h) t0 yt0) : nt_F ρ D F h0 u v (nk_N h) nt_q (f_X11_powers h t0) (f_X11_powers yh yt0) := by
  unfold f_X11_powers
  refine nt_gP Rh (nt_vS At0) (fun x1 yx1 Vx1 => ?_)
  refine nt_rcv Rh Vx1 (fun a2 ya2 Aa2 => ?_)
  refine nt_doE (n_Jx4a65c_size_8abf5 Rh (nt_am Aa2 (by omega))) (fun h3 yh3 x4 Rh3 Lh3 => ?_)
  exact nt_ret Rh3 rfl (by omega)
theorem n_X11_records {ρ : Nat → Nat} {D F : Nat → Prop} {h0 : nk_H} {u v : Nat}   {h yh : nk_H} (Rh : nt_R ρ D F h0 u v yh h) {t0 yt0 : Nat} (At0 : nt_A ρ D (nk_N h) t0 yt0) (v1 : Int32) : nt_F ρ D F h0 u v (nk_N h) nt_q (f_X11_records h t0 v1) (f_X11_records yh yt0 v1) := by
  unfold f_X11_records
  refine nt_dt (by omega) (n_X11_mustBeKiosk Rh _) (fun h1 yh1 x2 Rh1 Lh1 => ?_)
  refine nt_gP Rh1 (nt_vS At0) (fun x3 yx3 Vx3 => ?_)
  refine nt_aP Rh1 Vx3 (fun x4 yx4 Vx4 => ?_)
  refine nt_rcv Rh1 Vx4 (fun a5 ya5 Aa5 => ?_)
  refine nt_doE (n_X1_count Rh1 (nt_am Aa5 (by omega))) (fun h6 yh6 x7 Rh6 Lh6 => ?_)
  exact nt_ret Rh6 rfl (by omega)
theorem n_X11_areJoined {ρ : Nat → Nat} {D F : Nat → Prop} {h0 : nk_H} {u v : Nat}   {h yh : nk_H} (Rh : nt_R ρ D F h0 u v yh h) {t0 yt0 : Nat} (At0 : nt_A ρ D (nk_N h) t0 yt0) (v1 : Int32) (v2 : Int32) : nt_F ρ D F h0 u v (nk_N h) nt_q (f_X11_areJoined h t0 v1 v2) (f_X11_areJoined yh yt0 v1 v2) := by
  unfold f_X11_areJoined
  refine nt_dt (by omega) (n_X11_mustBeKiosk Rh _) (fun h1 yh1 x2 Rh1 Lh1 => ?_)
  refine nt_dt (by omega) (n_X11_mustBeKiosk Rh1 _) (fun h3 yh3 x4 Rh3 Lh3 => ?_)
  refine nt_gP Rh3 (nt_vS At0) (fun x5 yx5 Vx5 => ?_)
  refine nt_rcv Rh3 Vx5 (fun a6 ya6 Aa6 => ?_)
  refine nt_doE (n_X6_areLinked Rh3 (nt_am Aa6 (by omega)) _ _) (fun h7 yh7 x8 Rh7 Lh7 => ?_)
  exact nt_zr Rh7 _ rfl (by omega)
theorem n_X11_mustBePiece_c15 {ρ : Nat → Nat} {D F : Nat → Prop} {h0 : nk_H} {u v : Nat}   {h yh : nk_H} (Rh : nt_R ρ D F h0 u v yh h) : nt_F ρ D F h0 u v (nk_N h) nt_q (f_X11_mustBePiece_c15 h) (f_X11_mustBePiece_c15 yh) := by
  unfold f_X11_mustBePiece_c15
  exact nt_ret (nt_alR Rh 0 0 6) rfl (by rw [nk_N_al]; omega)
theorem n_X11_mustBePiece {ρ : Nat → Nat} {D F : Nat → Prop} {h0 : nk_H} {u v : Nat}   {h yh : nk_H} (Rh : nt_R ρ D F h0 u v yh h) {t0 yt0 : Nat} (At0 : nt_A ρ D (nk_N h) t0 yt0) (v1 : Int32) : nt_F ρ D F h0 u v (nk_N h) nt_q (f_X11_mustBePiece h t0 v1) (f_X11_mustBePiece yh yt0 v1) := by
  unfold f_X11_mustBePiece
  refine nt_ite ?_ ?_
  · exact nt_fk (n_X11_mustBePiece_c15 Rh) (by omega)
  · refine nt_gP Rh (nt_vS At0) (fun x1 yx1 Vx1 => ?_)
    refine nt_rcv Rh Vx1 (fun a2 ya2 Aa2 => ?_)
    refine nt_doE (n_X7_count Rh (nt_am Aa2 (by omega))) (fun h3 yh3 x4 Rh3 Lh3 => ?_)
    refine nt_ite ?_ ?_
    · exact nt_ret Rh3 rfl (by omega)
    · exact nt_fk (n_X11_mustBePiece_c15 Rh3) (by omega)
theorem n_X11_came {ρ : Nat → Nat} {D F : Nat → Prop} {h0 : nk_H} {u v : Nat}   {h yh : nk_H} (Rh : nt_R ρ D F h0 u v yh h) {t0 yt0 : Nat} (At0 : nt_A ρ D (nk_N h) t0 yt0) (v1 : Int32) (v2 : Int32) : nt_F ρ D F h0 u v (nk_N h) nt_q (f_X11_came h t0 v1 v2) (f_X11_came yh yt0 v1 v2) := by
  unfold f_X11_came
  refine nt_dt (by omega) (n_X11_mustBeKiosk Rh _) (fun h1 yh1 x2 Rh1 Lh1 => ?_)
  refine nt_rcv Rh1 (nt_vS At0) (fun a3 ya3 Aa3 => ?_)
  refine nt_dt (by omega) (n_X11_mustBePiece Rh1 (nt_am Aa3 (by omega)) _) (fun h4 yh4 x5 Rh4 Lh4 => ?_)
  refine nt_gP Rh4 (nt_vS At0) (fun x6 yx6 Vx6 => ?_)
  refine nt_rcv Rh4 Vx6 (fun a7 ya7 Aa7 => ?_)
  refine nt_doV (n_X7_pieceAt Rh4 (nt_am Aa7 (by omega)) _) (fun h8 yh8 x9 yx9 Rh8 Vx9 Lh8 => ?_)
  refine nt_gP Rh8 Vx9 (fun x10 yx10 Vx10 => ?_)
  refine nt_aI Rh8 Vx10 (fun x11 => ?_)
  exact nt_ret Rh8 rfl (by omega)
theorem n_X11_cameByLinks_c49 {ρ : Nat → Nat} {D F : Nat → Prop} {h0 : nk_H} {u v : Nat} {r49 r49' : nk_H → Nat → Int32 → Int32 → Int32 → Option (nk_H × (Int32 ⊕ String))} (hr49 : ∀ (g h : nk_H) (a1 b1 : Nat) (i2 : Int32) (i3 : Int32) (i4 : Int32), nt_R ρ D F h0 u v h g → nt_A ρ D (nk_N g) a1 b1 → nt_F ρ D F h0 u v (nk_N g) nt_q (r49 g a1 i2 i3 i4) (r49' h b1 i2 i3 i4)) {h yh : nk_H} (Rh : nt_R ρ D F h0 u v yh h) {t0 yt0 : Nat} (At0 : nt_A ρ D (nk_N h) t0 yt0) (v1 : Int32) (v4 : Int32) (v5 : Int32) : nt_F ρ D F h0 u v (nk_N h) nt_q (f_X11_cameByLinks_c49 r49 h t0 v1 v4 v5) (f_X11_cameByLinks_c49 r49' yh yt0 v1 v4 v5) := by
  unfold f_X11_cameByLinks_c49
  refine nt_gI Rh (nt_vS At0) (fun x1 => ?_)
  refine nt_ite ?_ ?_
  · exact nt_ret Rh rfl (by omega)
  · refine nt_gP Rh (nt_vS At0) (fun x2 yx2 Vx2 => ?_)
    refine nt_rcv Rh Vx2 (fun a3 ya3 Aa3 => ?_)
    refine nt_doE (n_X6_reach Rh (nt_am Aa3 (by omega)) _ _) (fun h4 yh4 x5 Rh4 Lh4 => ?_)
    refine nt_doE (n_X11_hasBit Rh4 _ _) (fun h6 yh6 x7 Rh6 Lh6 => ?_)
    refine nt_ite ?_ ?_
    · exact nt_fk (hr49 _ _ _ _ _ _ _ Rh6 (nt_am At0 (by omega))) (by omega)
    · exact nt_ret Rh6 rfl (by omega)
theorem n_X11_cameByLinks_b49 {ρ : Nat → Nat} {D F : Nat → Prop} {h0 : nk_H} {u v : Nat}   : ∀ (n : Nat) {g h : nk_H} (R : nt_R ρ D F h0 u v h g) {a1 b1 : Nat} (A1 : nt_A ρ D (nk_N g) a1 b1) (i2 : Int32) (i3 : Int32) (i4 : Int32), nt_F ρ D F h0 u v (nk_N g) nt_q (f_X11_cameByLinks_b49 n g a1 i2 i3 i4) (f_X11_cameByLinks_b49 n h b1 i2 i3 i4)
  | 0, _, _, _, _, _, _, _, _, _ => nt_none
  | n + 1, _, _, R, _, _, A1, i2, i3, i4 => n_X11_cameByLinks_c49 (fun g h a1 b1 i2 i3 i4 R A1 => n_X11_cameByLinks_b49 n R A1 i2 i3 i4) R A1 i2 i3 i4
theorem n_X11_cameByLinks {ρ : Nat → Nat} {D F : Nat → Prop} {h0 : nk_H} {u v : Nat}   {h yh : nk_H} (Rh : nt_R ρ D F h0 u v yh h) {t0 yt0 : Nat} (At0 : nt_A ρ D (nk_N h) t0 yt0) (v1 : Int32) (v2 : Int32) : nt_F ρ D F h0 u v (nk_N h) nt_q (f_X11_cameByLinks h t0 v1 v2) (f_X11_cameByLinks yh yt0 v1 v2) := by
  unfold f_X11_cameByLinks
  refine nt_dt (by omega) (n_X11_mustBeKiosk Rh _) (fun h8 yh8 x9 Rh8 Lh8 => ?_)
  refine nt_rcv Rh8 (nt_vS At0) (fun a10 ya10 Aa10 => ?_)
  refine nt_dt (by omega) (n_X11_mustBePiece Rh8 (nt_am Aa10 (by omega)) _) (fun h11 yh11 x12 Rh11 Lh11 => ?_)
  refine nt_gP Rh11 (nt_vS At0) (fun x13 yx13 Vx13 => ?_)
  refine nt_rcv Rh11 Vx13 (fun a14 ya14 Aa14 => ?_)
  refine nt_doV (n_X7_pieceAt Rh11 (nt_am Aa14 (by omega)) _) (fun h15 yh15 x16 yx16 Rh15 Vx16 Lh15 => ?_)
  refine nt_gI Rh15 Vx16 (fun x17 => ?_)
  refine nt_doE (n_X11_bit Rh15 _) (fun h18 yh18 x19 Rh18 Lh18 => ?_)
  refine nt_doE (n_X11_hasBit Rh18 _ _) (fun h20 yh20 x21 Rh20 Lh20 => ?_)
  refine nt_ite ?_ ?_
  · refine nt_gI Rh20 Vx16 (fun x22 => ?_)
    exact nt_fk (n_X11_cameByLinks_b49 _ Rh20 (nt_am At0 (by omega)) _ _ _) (by omega)
  · refine nt_gI Rh20 Vx16 (fun x23 => ?_)
    exact nt_ret Rh20 rfl (by omega)
theorem n_X11_isRead {ρ : Nat → Nat} {D F : Nat → Prop} {h0 : nk_H} {u v : Nat}   {h yh : nk_H} (Rh : nt_R ρ D F h0 u v yh h) {t0 yt0 : Nat} (At0 : nt_A ρ D (nk_N h) t0 yt0) (v1 : Int32) (v2 : Int32) : nt_F ρ D F h0 u v (nk_N h) nt_q (f_X11_isRead h t0 v1 v2) (f_X11_isRead yh yt0 v1 v2) := by
  unfold f_X11_isRead
  refine nt_dt (by omega) (n_X11_mustBeKiosk Rh _) (fun h1 yh1 x2 Rh1 Lh1 => ?_)
  refine nt_rcv Rh1 (nt_vS At0) (fun a3 ya3 Aa3 => ?_)
  refine nt_dt (by omega) (n_X11_mustBePiece Rh1 (nt_am Aa3 (by omega)) _) (fun h4 yh4 x5 Rh4 Lh4 => ?_)
  refine nt_gP Rh4 (nt_vS At0) (fun x6 yx6 Vx6 => ?_)
  refine nt_rcv Rh4 Vx6 (fun a7 ya7 Aa7 => ?_)
  refine nt_doV (n_X7_pieceAt Rh4 (nt_am Aa7 (by omega)) _) (fun h8 yh8 x9 yx9 Rh8 Vx9 Lh8 => ?_)
  refine nt_gI Rh8 Vx9 (fun x10 => ?_)
  refine nt_doE (n_X11_hasBit Rh8 _ _) (fun h11 yh11 x12 Rh11 Lh11 => ?_)
  exact nt_zr Rh11 _ rfl (by omega)
theorem n_X11_mail {ρ : Nat → Nat} {D F : Nat → Prop} {h0 : nk_H} {u v : Nat}   {h yh : nk_H} (Rh : nt_R ρ D F h0 u v yh h) {t0 yt0 : Nat} (At0 : nt_A ρ D (nk_N h) t0 yt0) (v1 : Int32) : nt_F ρ D F h0 u v (nk_N h) nt_q (f_X11_mail h t0 v1) (f_X11_mail yh yt0 v1) := by
  unfold f_X11_mail
  refine nt_dt (by omega) (n_X11_mustBeKiosk Rh _) (fun h1 yh1 x2 Rh1 Lh1 => ?_)
  refine nt_gP Rh1 (nt_vS At0) (fun x3 yx3 Vx3 => ?_)
  refine nt_rcv Rh1 Vx3 (fun a4 ya4 Aa4 => ?_)
  refine nt_doE (n_X7_unread Rh1 (nt_am Aa4 (by omega)) _) (fun h5 yh5 x6 Rh5 Lh5 => ?_)
  exact nt_ret Rh5 rfl (by omega)
theorem n_X11_source_c32 {ρ : Nat → Nat} {D F : Nat → Prop} {h0 : nk_H} {u v : Nat}   {h yh : nk_H} (Rh : nt_R ρ D F h0 u v yh h) (s0 : Int32) : nt_F ρ D F h0 u v (nk_N h) nt_q (f_X11_source_c32 h s0) (f_X11_source_c32 yh s0) := by
  unfold f_X11_source_c32
  exact nt_ret Rh rfl (by omega)
theorem n_X11_source {ρ : Nat → Nat} {D F : Nat → Prop} {h0 : nk_H} {u v : Nat}   {h yh : nk_H} (Rh : nt_R ρ D F h0 u v yh h) {t0 yt0 : Nat} (At0 : nt_A ρ D (nk_N h) t0 yt0) (v1 : Int32) : nt_F ρ D F h0 u v (nk_N h) nt_q (f_X11_source h t0 v1) (f_X11_source yh yt0 v1) := by
  unfold f_X11_source
  refine nt_rcv Rh (nt_vS At0) (fun a1 ya1 Aa1 => ?_)
  refine nt_dt (by omega) (n_X11_mustBePower Rh (nt_am Aa1 (by omega)) _) (fun h2 yh2 x3 Rh2 Lh2 => ?_)
  refine nt_gP Rh2 (nt_vS At0) (fun x4 yx4 Vx4 => ?_)
  refine nt_rcv Rh2 Vx4 (fun a5 ya5 Aa5 => ?_)
  refine nt_doV (n_Jx4a65c_get_915e3 Rh2 (nt_am Aa5 (by omega)) _) (fun h6 yh6 x7 yx7 Rh6 Vx7 Lh6 => ?_)
  refine nt_cc Rh6 Vx7 ?_
  refine nt_gP Rh6 Vx7 (fun x9 yx9 Vx9 => ?_)
  refine nt_iteP (nt_eq Rh6 Vx9 (nt_vn (n := 0))) ?_ ?_
  · exact nt_fk (n_X11_source_c32 Rh6 _) (by omega)
  · refine nt_gI Rh6 Vx9 (fun x10 => ?_)
    exact nt_fk (n_X11_source_c32 Rh6 _) (by omega)
theorem n_X11_holder {ρ : Nat → Nat} {D F : Nat → Prop} {h0 : nk_H} {u v : Nat}   {h yh : nk_H} (Rh : nt_R ρ D F h0 u v yh h) {t0 yt0 : Nat} (At0 : nt_A ρ D (nk_N h) t0 yt0) (v1 : Int32) : nt_F ρ D F h0 u v (nk_N h) nt_q (f_X11_holder h t0 v1) (f_X11_holder yh yt0 v1) := by
  unfold f_X11_holder
  refine nt_rcv Rh (nt_vS At0) (fun a1 ya1 Aa1 => ?_)
  refine nt_dt (by omega) (n_X11_mustBePower Rh (nt_am Aa1 (by omega)) _) (fun h2 yh2 x3 Rh2 Lh2 => ?_)
  refine nt_gP Rh2 (nt_vS At0) (fun x4 yx4 Vx4 => ?_)
  refine nt_rcv Rh2 Vx4 (fun a5 ya5 Aa5 => ?_)
  refine nt_doV (n_Jx4a65c_get_915e3 Rh2 (nt_am Aa5 (by omega)) _) (fun h6 yh6 x7 yx7 Rh6 Vx7 Lh6 => ?_)
  refine nt_cc Rh6 Vx7 ?_
  refine nt_gI Rh6 Vx7 (fun x9 => ?_)
  exact nt_ret Rh6 rfl (by omega)
theorem n_X11_isGood {ρ : Nat → Nat} {D F : Nat → Prop} {h0 : nk_H} {u v : Nat}   {h yh : nk_H} (Rh : nt_R ρ D F h0 u v yh h) {t0 yt0 : Nat} (At0 : nt_A ρ D (nk_N h) t0 yt0) (v1 : Int32) (v2 : Int32) : nt_F ρ D F h0 u v (nk_N h) nt_q (f_X11_isGood h t0 v1 v2) (f_X11_isGood yh yt0 v1 v2) := by
  unfold f_X11_isGood
  refine nt_dt (by omega) (n_X11_mustBeKiosk Rh _) (fun h1 yh1 x2 Rh1 Lh1 => ?_)
  refine nt_rcv Rh1 (nt_vS At0) (fun a3 ya3 Aa3 => ?_)
  refine nt_dt (by omega) (n_X11_mustBePower Rh1 (nt_am Aa3 (by omega)) _) (fun h4 yh4 x5 Rh4 Lh4 => ?_)
  refine nt_gP Rh4 (nt_vS At0) (fun x6 yx6 Vx6 => ?_)
  refine nt_rcv Rh4 Vx6 (fun a7 ya7 Aa7 => ?_)
  refine nt_doV (n_Jx4a65c_get_915e3 Rh4 (nt_am Aa7 (by omega)) _) (fun h8 yh8 x9 yx9 Rh8 Vx9 Lh8 => ?_)
  refine nt_cc Rh8 Vx9 ?_
  refine nt_rcv Rh8 (nt_vS At0) (fun a11 ya11 Aa11 => ?_)
  refine nt_doE (n_X11_isGoodAt Rh8 (nt_am Aa11 (by omega)) _ (nt_vm Vx9 (by omega))) (fun h12 yh12 x13 Rh12 Lh12 => ?_)
  exact nt_zr Rh12 _ rfl (by omega)
theorem n_X11_done {ρ : Nat → Nat} {D F : Nat → Prop} {h0 : nk_H} {u v : Nat}   {h yh : nk_H} (Rh : nt_R ρ D F h0 u v yh h) {t0 yt0 : Nat} (At0 : nt_A ρ D (nk_N h) t0 yt0) (v1 : Int32) (v2 : Int32) : nt_F ρ D F h0 u v (nk_N h) nt_q (f_X11_done h t0 v1 v2) (f_X11_done yh yt0 v1 v2) := by
  unfold f_X11_done
  refine nt_dt (by omega) (n_X11_mustBeKiosk Rh _) (fun h1 yh1 x2 Rh1 Lh1 => ?_)
  refine nt_rcv Rh1 (nt_vS At0) (fun a3 ya3 Aa3 => ?_)
  refine nt_dt (by omega) (n_X11_mustBePower Rh1 (nt_am Aa3 (by omega)) _) (fun h4 yh4 x5 Rh4 Lh4 => ?_)
  refine nt_gP Rh4 (nt_vS At0) (fun x6 yx6 Vx6 => ?_)
  refine nt_rcv Rh4 Vx6 (fun a7 ya7 Aa7 => ?_)
  refine nt_doE (n_X7_lookAtRead Rh4 (nt_am Aa7 (by omega)) _) (fun h8 yh8 x9 Rh8 Lh8 => ?_)
  refine nt_gP Rh8 (nt_vS At0) (fun x10 yx10 Vx10 => ?_)
  refine nt_gP Rh8 (nt_vS At0) (fun x11 yx11 Vx11 => ?_)
  refine nt_rcv Rh8 Vx11 (fun a12 ya12 Aa12 => ?_)
  refine nt_doV (n_Jx4a65c_get_915e3 Rh8 (nt_am Aa12 (by omega)) _) (fun h13 yh13 x14 yx14 Rh13 Vx14 Lh13 => ?_)
  refine nt_cc Rh13 Vx14 ?_
  refine nt_rcv Rh13 Vx10 (fun a16 ya16 Aa16 => ?_)
  refine nt_doE (n_X7_doneWith Rh13 (nt_am Aa16 (by omega)) (nt_vm Vx14 (by omega))) (fun h17 yh17 x18 Rh17 Lh17 => ?_)
  exact nt_ret Rh17 rfl (by omega)
theorem n_X11_against {ρ : Nat → Nat} {D F : Nat → Prop} {h0 : nk_H} {u v : Nat}   {h yh : nk_H} (Rh : nt_R ρ D F h0 u v yh h) {t0 yt0 : Nat} (At0 : nt_A ρ D (nk_N h) t0 yt0) (v1 : Int32) (v2 : Int32) (v3 : Int32) (v4 : Int32) : nt_F ρ D F h0 u v (nk_N h) nt_q (f_X11_against h t0 v1 v2 v3 v4) (f_X11_against yh yt0 v1 v2 v3 v4) := by
  unfold f_X11_against
  refine nt_dt (by omega) (n_X11_mustBeKiosk Rh _) (fun h1 yh1 x2 Rh1 Lh1 => ?_)
  refine nt_dt (by omega) (n_X11_mustBePerson Rh1 _) (fun h3 yh3 x4 Rh3 Lh3 => ?_)
  refine nt_rcv Rh3 (nt_vS At0) (fun a5 ya5 Aa5 => ?_)
  refine nt_dt (by omega) (n_X11_mustBePower Rh3 (nt_am Aa5 (by omega)) _) (fun h6 yh6 x7 Rh6 Lh6 => ?_)
  refine nt_dt (by omega) (n_X11_mustBeWithin Rh6 _ _ _) (fun h8 yh8 x9 Rh8 Lh8 => ?_)
  refine nt_gP Rh8 (nt_vS At0) (fun x10 yx10 Vx10 => ?_)
  refine nt_rcv Rh8 Vx10 (fun a11 ya11 Aa11 => ?_)
  refine nt_doE (n_X7_lookAtRead Rh8 (nt_am Aa11 (by omega)) _) (fun h12 yh12 x13 Rh12 Lh12 => ?_)
  refine nt_gP Rh12 (nt_vS At0) (fun x14 yx14 Vx14 => ?_)
  refine nt_gP Rh12 (nt_vS At0) (fun x15 yx15 Vx15 => ?_)
  refine nt_rcv Rh12 Vx15 (fun a16 ya16 Aa16 => ?_)
  refine nt_doV (n_Jx4a65c_get_915e3 Rh12 (nt_am Aa16 (by omega)) _) (fun h17 yh17 x18 yx18 Rh17 Vx18 Lh17 => ?_)
  refine nt_cc Rh17 Vx18 ?_
  refine nt_rcv Rh17 (nt_vS At0) (fun a20 ya20 Aa20 => ?_)
  refine nt_doV (n_X11_deedNow Rh17 (nt_am Aa20 (by omega)) _ _ _) (fun h21 yh21 x22 yx22 Rh21 Vx22 Lh21 => ?_)
  refine nt_rcv Rh21 Vx14 (fun a23 ya23 Aa23 => ?_)
  refine nt_doE (n_X7_reasonAgainst Rh21 (nt_am Aa23 (by omega)) (nt_vm Vx18 (by omega)) (nt_vm Vx22 (by omega))) (fun h24 yh24 x25 Rh24 Lh24 => ?_)
  exact nt_ret Rh24 rfl (by omega)
theorem n_X11_choices_c78 {ρ : Nat → Nat} {D F : Nat → Prop} {h0 : nk_H} {u v : Nat} {r39 r39' : nk_H → Nat → Option Nat → Int32 → Int32 → Option (nk_H × (Int32 ⊕ String))} (hr39 : ∀ (g h : nk_H) (a1 b1 : Nat) (p2 q2 : Option Nat) (i3 : Int32) (i4 : Int32), nt_R ρ D F h0 u v h g → nt_A ρ D (nk_N g) a1 b1 → nt_V ρ D (nk_N g) p2 q2 → nt_F ρ D F h0 u v (nk_N g) nt_q (r39 g a1 p2 i3 i4) (r39' h b1 q2 i3 i4)) {h yh : nk_H} (Rh : nt_R ρ D F h0 u v yh h) {t0 yt0 : Nat} (At0 : nt_A ρ D (nk_N h) t0 yt0) {v4 yv4 : Option Nat} (Vv4 : nt_V ρ D (nk_N h) v4 yv4) (v5 : Int32) (v6 : Int32) : nt_F ρ D F h0 u v (nk_N h) nt_q (f_X11_choices_c78 r39 h t0 v4 v5 v6) (f_X11_choices_c78 r39' yh yt0 yv4 v5 v6) := by
  unfold f_X11_choices_c78
  exact nt_fk (hr39 _ _ _ _ _ _ _ _ Rh (nt_am At0 (by omega)) (nt_vm Vv4 (by omega))) (by omega)
theorem n_X11_choices_c39 {ρ : Nat → Nat} {D F : Nat → Prop} {h0 : nk_H} {u v : Nat} {r39 r39' : nk_H → Nat → Option Nat → Int32 → Int32 → Option (nk_H × (Int32 ⊕ String))} (hr39 : ∀ (g h : nk_H) (a1 b1 : Nat) (p2 q2 : Option Nat) (i3 : Int32) (i4 : Int32), nt_R ρ D F h0 u v h g → nt_A ρ D (nk_N g) a1 b1 → nt_V ρ D (nk_N g) p2 q2 → nt_F ρ D F h0 u v (nk_N g) nt_q (r39 g a1 p2 i3 i4) (r39' h b1 q2 i3 i4)) {h yh : nk_H} (Rh : nt_R ρ D F h0 u v yh h) {t0 yt0 : Nat} (At0 : nt_A ρ D (nk_N h) t0 yt0) {v4 yv4 : Option Nat} (Vv4 : nt_V ρ D (nk_N h) v4 yv4) (v5 : Int32) (v6 : Int32) : nt_F ρ D F h0 u v (nk_N h) nt_q (f_X11_choices_c39 r39 h t0 v4 v5 v6) (f_X11_choices_c39 r39' yh yt0 yv4 v5 v6) := by
  unfold f_X11_choices_c39
  refine nt_gP Rh (nt_vS At0) (fun x1 yx1 Vx1 => ?_)
  refine nt_rcv Rh Vx1 (fun a2 ya2 Aa2 => ?_)
  refine nt_doE (n_Jx4a65c_size_8abf5 Rh (nt_am Aa2 (by omega))) (fun h3 yh3 x4 Rh3 Lh3 => ?_)
  refine nt_ite ?_ ?_
  · exact nt_ret Rh3 rfl (by omega)
  · refine nt_gP Rh3 (nt_vS At0) (fun x5 yx5 Vx5 => ?_)
    refine nt_gP Rh3 (nt_vS At0) (fun x6 yx6 Vx6 => ?_)
    refine nt_rcv Rh3 Vx6 (fun a7 ya7 Aa7 => ?_)
    refine nt_doV (n_Jx4a65c_get_915e3 Rh3 (nt_am Aa7 (by omega)) _) (fun h8 yh8 x9 yx9 Rh8 Vx9 Lh8 => ?_)
    refine nt_cc Rh8 Vx9 ?_
    refine nt_rcv Rh8 Vx5 (fun a11 ya11 Aa11 => ?_)
    refine nt_doE (n_X7_reasonAgainst Rh8 (nt_am Aa11 (by omega)) (nt_vm Vx9 (by omega)) (nt_vm Vv4 (by omega))) (fun h12 yh12 x13 Rh12 Lh12 => ?_)
    refine nt_ite ?_ ?_
    · exact nt_fk (n_X11_choices_c78 hr39 Rh12 (nt_am At0 (by omega)) (nt_vm Vv4 (by omega)) _ _) (by omega)
    · exact nt_fk (n_X11_choices_c78 hr39 Rh12 (nt_am At0 (by omega)) (nt_vm Vv4 (by omega)) _ _) (by omega)
theorem n_X11_choices_b39 {ρ : Nat → Nat} {D F : Nat → Prop} {h0 : nk_H} {u v : Nat}   : ∀ (n : Nat) {g h : nk_H} (R : nt_R ρ D F h0 u v h g) {a1 b1 : Nat} (A1 : nt_A ρ D (nk_N g) a1 b1) {p2 q2 : Option Nat} (V2 : nt_V ρ D (nk_N g) p2 q2) (i3 : Int32) (i4 : Int32), nt_F ρ D F h0 u v (nk_N g) nt_q (f_X11_choices_b39 n g a1 p2 i3 i4) (f_X11_choices_b39 n h b1 q2 i3 i4)
  | 0, _, _, _, _, _, _, _, _, _, _, _ => nt_none
  | n + 1, _, _, R, _, _, A1, _, _, V2, i3, i4 => n_X11_choices_c39 (fun g h a1 b1 p2 q2 i3 i4 R A1 V2 => n_X11_choices_b39 n R A1 V2 i3 i4) R A1 V2 i3 i4
theorem n_X11_choices {ρ : Nat → Nat} {D F : Nat → Prop} {h0 : nk_H} {u v : Nat}   {h yh : nk_H} (Rh : nt_R ρ D F h0 u v yh h) {t0 yt0 : Nat} (At0 : nt_A ρ D (nk_N h) t0 yt0) (v1 : Int32) (v2 : Int32) (v3 : Int32) : nt_F ρ D F h0 u v (nk_N h) nt_q (f_X11_choices h t0 v1 v2 v3) (f_X11_choices yh yt0 v1 v2 v3) := by
  unfold f_X11_choices
  refine nt_dt (by omega) (n_X11_mustBeKiosk Rh _) (fun h14 yh14 x15 Rh14 Lh14 => ?_)
  refine nt_dt (by omega) (n_X11_mustBePerson Rh14 _) (fun h16 yh16 x17 Rh16 Lh16 => ?_)
  refine nt_dt (by omega) (n_X11_mustBeWithin Rh16 _ _ _) (fun h18 yh18 x19 Rh18 Lh18 => ?_)
  refine nt_rcv Rh18 (nt_vS At0) (fun a20 ya20 Aa20 => ?_)
  refine nt_doV (n_X11_deedNow Rh18 (nt_am Aa20 (by omega)) _ _ _) (fun h21 yh21 x22 yx22 Rh21 Vx22 Lh21 => ?_)
  refine nt_gP Rh21 (nt_vS At0) (fun x23 yx23 Vx23 => ?_)
  refine nt_rcv Rh21 Vx23 (fun a24 ya24 Aa24 => ?_)
  refine nt_doE (n_X7_lookAtRead Rh21 (nt_am Aa24 (by omega)) _) (fun h25 yh25 x26 Rh25 Lh25 => ?_)
  exact nt_fk (n_X11_choices_b39 _ Rh25 (nt_am At0 (by omega)) (nt_vm Vx22 (by omega)) _ _) (by omega)
theorem n_X11_stands {ρ : Nat → Nat} {D F : Nat → Prop} {h0 : nk_H} {u v : Nat}   {h yh : nk_H} (Rh : nt_R ρ D F h0 u v yh h) {t0 yt0 : Nat} (At0 : nt_A ρ D (nk_N h) t0 yt0) (v1 : Int32) (v2 : Int32) : nt_F ρ D F h0 u v (nk_N h) nt_q (f_X11_stands h t0 v1 v2) (f_X11_stands yh yt0 v1 v2) := by
  unfold f_X11_stands
  refine nt_rcv Rh (nt_vS At0) (fun a1 ya1 Aa1 => ?_)
  refine nt_dt (by omega) (n_X11_mustBeRecord Rh (nt_am Aa1 (by omega)) _ _) (fun h2 yh2 x3 Rh2 Lh2 => ?_)
  refine nt_gP Rh2 (nt_vS At0) (fun x4 yx4 Vx4 => ?_)
  refine nt_aP Rh2 Vx4 (fun x5 yx5 Vx5 => ?_)
  refine nt_rcv Rh2 Vx5 (fun a6 ya6 Aa6 => ?_)
  refine nt_doV (n_X1_actOf Rh2 (nt_am Aa6 (by omega)) _) (fun h7 yh7 x8 yx8 Rh7 Vx8 Lh7 => ?_)
  refine nt_gI Rh7 Vx8 (fun x9 => ?_)
  exact nt_zr Rh7 _ rfl (by omega)
theorem n_X11_fault {ρ : Nat → Nat} {D F : Nat → Prop} {h0 : nk_H} {u v : Nat}   {h yh : nk_H} (Rh : nt_R ρ D F h0 u v yh h) {t0 yt0 : Nat} (At0 : nt_A ρ D (nk_N h) t0 yt0) (v1 : Int32) (v2 : Int32) : nt_F ρ D F h0 u v (nk_N h) nt_q (f_X11_fault h t0 v1 v2) (f_X11_fault yh yt0 v1 v2) := by
  unfold f_X11_fault
  refine nt_rcv Rh (nt_vS At0) (fun a1 ya1 Aa1 => ?_)
  refine nt_dt (by omega) (n_X11_mustBeRecord Rh (nt_am Aa1 (by omega)) _ _) (fun h2 yh2 x3 Rh2 Lh2 => ?_)
  refine nt_gP Rh2 (nt_vS At0) (fun x4 yx4 Vx4 => ?_)
  refine nt_aP Rh2 Vx4 (fun x5 yx5 Vx5 => ?_)
  refine nt_rcv Rh2 Vx5 (fun a6 ya6 Aa6 => ?_)
  refine nt_doV (n_X1_actOf Rh2 (nt_am Aa6 (by omega)) _) (fun h7 yh7 x8 yx8 Rh7 Vx8 Lh7 => ?_)
  refine nt_rcv Rh7 (nt_vS At0) (fun a9 ya9 Aa9 => ?_)
  refine nt_doE (n_X11_reasonByMail Rh7 (nt_am Aa9 (by omega)) (nt_vm Vx8 (by omega))) (fun h10 yh10 x11 Rh10 Lh10 => ?_)
  exact nt_ret Rh10 rfl (by omega)
theorem n_X11_standing_c4 {ρ : Nat → Nat} {D F : Nat → Prop} {h0 : nk_H} {u v : Nat} {r4 r4' : nk_H → Nat → Int32 → Int32 → Option (nk_H × Int32)} (hr4 : ∀ (g h : nk_H) (a1 b1 : Nat) (i2 : Int32) (i3 : Int32), nt_R ρ D F h0 u v h g → nt_A ρ D (nk_N g) a1 b1 → nt_F ρ D F h0 u v (nk_N g) nt_q (r4 g a1 i2 i3) (r4' h b1 i2 i3)) {h yh : nk_H} (Rh : nt_R ρ D F h0 u v yh h) {t0 yt0 : Nat} (At0 : nt_A ρ D (nk_N h) t0 yt0) (v1 : Int32) (v2 : Int32) : nt_F ρ D F h0 u v (nk_N h) nt_q (f_X11_standing_c4 r4 h t0 v1 v2) (f_X11_standing_c4 r4' yh yt0 v1 v2) := by
  unfold f_X11_standing_c4
  refine nt_ite ?_ ?_
  · exact nt_ret Rh rfl (by omega)
  · refine nt_gP Rh (nt_vS At0) (fun x1 yx1 Vx1 => ?_)
    refine nt_aP Rh Vx1 (fun x2 yx2 Vx2 => ?_)
    refine nt_rcv Rh Vx2 (fun a3 ya3 Aa3 => ?_)
    refine nt_doE (n_X1_countStanding Rh (nt_am Aa3 (by omega))) (fun h4 yh4 x5 Rh4 Lh4 => ?_)
    exact nt_fk (hr4 _ _ _ _ _ _ Rh4 (nt_am At0 (by omega))) (by omega)
theorem n_X11_standing_b4 {ρ : Nat → Nat} {D F : Nat → Prop} {h0 : nk_H} {u v : Nat}   : ∀ (n : Nat) {g h : nk_H} (R : nt_R ρ D F h0 u v h g) {a1 b1 : Nat} (A1 : nt_A ρ D (nk_N g) a1 b1) (i2 : Int32) (i3 : Int32), nt_F ρ D F h0 u v (nk_N g) nt_q (f_X11_standing_b4 n g a1 i2 i3) (f_X11_standing_b4 n h b1 i2 i3)
  | 0, _, _, _, _, _, _, _, _ => nt_none
  | n + 1, _, _, R, _, _, A1, i2, i3 => n_X11_standing_c4 (fun g h a1 b1 i2 i3 R A1 => n_X11_standing_b4 n R A1 i2 i3) R A1 i2 i3
theorem n_X11_standing {ρ : Nat → Nat} {D F : Nat → Prop} {h0 : nk_H} {u v : Nat}   {h yh : nk_H} (Rh : nt_R ρ D F h0 u v yh h) {t0 yt0 : Nat} (At0 : nt_A ρ D (nk_N h) t0 yt0) : nt_F ρ D F h0 u v (nk_N h) nt_q (f_X11_standing h t0) (f_X11_standing yh yt0) := by
  unfold f_X11_standing
  exact nt_fk (n_X11_standing_b4 _ Rh (nt_am At0 (by omega)) _ _) (by omega)
theorem n_X11_pieceOf {ρ : Nat → Nat} {D F : Nat → Prop} {h0 : nk_H} {u v : Nat}   {h yh : nk_H} (Rh : nt_R ρ D F h0 u v yh h) {t0 yt0 : Nat} (At0 : nt_A ρ D (nk_N h) t0 yt0) (v1 : Int32) (v2 : Int32) : nt_F ρ D F h0 u v (nk_N h) nt_q (f_X11_pieceOf h t0 v1 v2) (f_X11_pieceOf yh yt0 v1 v2) := by
  unfold f_X11_pieceOf
  refine nt_rcv Rh (nt_vS At0) (fun a1 ya1 Aa1 => ?_)
  refine nt_dt (by omega) (n_X11_mustBeRecord Rh (nt_am Aa1 (by omega)) _ _) (fun h2 yh2 x3 Rh2 Lh2 => ?_)
  refine nt_gP Rh2 (nt_vS At0) (fun x4 yx4 Vx4 => ?_)
  refine nt_aP Rh2 Vx4 (fun x5 yx5 Vx5 => ?_)
  refine nt_rcv Rh2 Vx5 (fun a6 ya6 Aa6 => ?_)
  refine nt_doV (n_X1_actOf Rh2 (nt_am Aa6 (by omega)) _) (fun h7 yh7 x8 yx8 Rh7 Vx8 Lh7 => ?_)
  refine nt_gI Rh7 Vx8 (fun x9 => ?_)
  exact nt_ret Rh7 rfl (by omega)
theorem n_X11_part {ρ : Nat → Nat} {D F : Nat → Prop} {h0 : nk_H} {u v : Nat}   {h yh : nk_H} (Rh : nt_R ρ D F h0 u v yh h) {t0 yt0 : Nat} (At0 : nt_A ρ D (nk_N h) t0 yt0) (v1 : Int32) (v2 : Int32) (v3 : Int32) : nt_F ρ D F h0 u v (nk_N h) nt_q (f_X11_part h t0 v1 v2 v3) (f_X11_part yh yt0 v1 v2 v3) := by
  unfold f_X11_part
  refine nt_rcv Rh (nt_vS At0) (fun a1 ya1 Aa1 => ?_)
  refine nt_dt (by omega) (n_X11_mustBeRecord Rh (nt_am Aa1 (by omega)) _ _) (fun h2 yh2 x3 Rh2 Lh2 => ?_)
  refine nt_dt (by omega) (n_X11_mustBePart Rh2 _) (fun h4 yh4 x5 Rh4 Lh4 => ?_)
  refine nt_gP Rh4 (nt_vS At0) (fun x6 yx6 Vx6 => ?_)
  refine nt_aP Rh4 Vx6 (fun x7 yx7 Vx7 => ?_)
  refine nt_rcv Rh4 Vx7 (fun a8 ya8 Aa8 => ?_)
  refine nt_doV (n_X1_actOf Rh4 (nt_am Aa8 (by omega)) _) (fun h9 yh9 x10 yx10 Rh9 Vx10 Lh9 => ?_)
  refine nt_gP Rh9 Vx10 (fun x11 yx11 Vx11 => ?_)
  refine nt_aI Rh9 Vx11 (fun x12 => ?_)
  exact nt_ret Rh9 rfl (by omega)
theorem n_X11_seal {ρ : Nat → Nat} {D F : Nat → Prop} {h0 : nk_H} {u v : Nat}   {h yh : nk_H} (Rh : nt_R ρ D F h0 u v yh h) {t0 yt0 : Nat} (At0 : nt_A ρ D (nk_N h) t0 yt0) (v1 : Int32) (v2 : Int32) : nt_F ρ D F h0 u v (nk_N h) nt_q (f_X11_seal h t0 v1 v2) (f_X11_seal yh yt0 v1 v2) := by
  unfold f_X11_seal
  refine nt_rcv Rh (nt_vS At0) (fun a1 ya1 Aa1 => ?_)
  refine nt_dt (by omega) (n_X11_mustBeRecord Rh (nt_am Aa1 (by omega)) _ _) (fun h2 yh2 x3 Rh2 Lh2 => ?_)
  refine nt_gP Rh2 (nt_vS At0) (fun x4 yx4 Vx4 => ?_)
  refine nt_aP Rh2 Vx4 (fun x5 yx5 Vx5 => ?_)
  refine nt_rcv Rh2 Vx5 (fun a6 ya6 Aa6 => ?_)
  refine nt_doV (n_X1_actOf Rh2 (nt_am Aa6 (by omega)) _) (fun h7 yh7 x8 yx8 Rh7 Vx8 Lh7 => ?_)
  refine nt_gI Rh7 Vx8 (fun x9 => ?_)
  exact nt_ret Rh7 rfl (by omega)
theorem n_X11_broken {ρ : Nat → Nat} {D F : Nat → Prop} {h0 : nk_H} {u v : Nat}   {h yh : nk_H} (Rh : nt_R ρ D F h0 u v yh h) {t0 yt0 : Nat} (At0 : nt_A ρ D (nk_N h) t0 yt0) (v1 : Int32) : nt_F ρ D F h0 u v (nk_N h) nt_q (f_X11_broken h t0 v1) (f_X11_broken yh yt0 v1) := by
  unfold f_X11_broken
  refine nt_dt (by omega) (n_X11_mustBeKiosk Rh _) (fun h1 yh1 x2 Rh1 Lh1 => ?_)
  refine nt_gP Rh1 (nt_vS At0) (fun x3 yx3 Vx3 => ?_)
  refine nt_aP Rh1 Vx3 (fun x4 yx4 Vx4 => ?_)
  refine nt_rcv Rh1 Vx4 (fun a5 ya5 Aa5 => ?_)
  refine nt_doE (n_X1_firstBroken Rh1 (nt_am Aa5 (by omega))) (fun h6 yh6 x7 Rh6 Lh6 => ?_)
  exact nt_ret Rh6 rfl (by omega)
theorem n_X11_size {ρ : Nat → Nat} {D F : Nat → Prop} {h0 : nk_H} {u v : Nat}   {h yh : nk_H} (Rh : nt_R ρ D F h0 u v yh h) {t0 yt0 : Nat} (At0 : nt_A ρ D (nk_N h) t0 yt0) (v1 : Int32) : nt_F ρ D F h0 u v (nk_N h) nt_q (f_X11_size h t0 v1) (f_X11_size yh yt0 v1) := by
  unfold f_X11_size
  refine nt_rcv Rh (nt_vS At0) (fun a1 ya1 Aa1 => ?_)
  refine nt_dt (by omega) (n_X11_mustBeCopy Rh (nt_am Aa1 (by omega)) _) (fun h2 yh2 x3 Rh2 Lh2 => ?_)
  refine nt_gP Rh2 (nt_vS At0) (fun x4 yx4 Vx4 => ?_)
  refine nt_rcv Rh2 Vx4 (fun a5 ya5 Aa5 => ?_)
  refine nt_doV (n_Jx4a65c_get_915e3 Rh2 (nt_am Aa5 (by omega)) _) (fun h6 yh6 x7 yx7 Rh6 Vx7 Lh6 => ?_)
  refine nt_cc Rh6 Vx7 ?_
  refine nt_gI Rh6 Vx7 (fun x9 => ?_)
  exact nt_ret Rh6 rfl (by omega)
theorem n_X11_copied_c45 {ρ : Nat → Nat} {D F : Nat → Prop} {h0 : nk_H} {u v : Nat}   {h yh : nk_H} (Rh : nt_R ρ D F h0 u v yh h) (s0 : Int32) : nt_F ρ D F h0 u v (nk_N h) nt_q (f_X11_copied_c45 h s0) (f_X11_copied_c45 yh s0) := by
  unfold f_X11_copied_c45
  exact nt_ret Rh rfl (by omega)
theorem n_X11_copied {ρ : Nat → Nat} {D F : Nat → Prop} {h0 : nk_H} {u v : Nat}   {h yh : nk_H} (Rh : nt_R ρ D F h0 u v yh h) {t0 yt0 : Nat} (At0 : nt_A ρ D (nk_N h) t0 yt0) (v1 : Int32) (v2 : Int32) (v3 : Int32) : nt_F ρ D F h0 u v (nk_N h) nt_q (f_X11_copied h t0 v1 v2 v3) (f_X11_copied yh yt0 v1 v2 v3) := by
  unfold f_X11_copied
  refine nt_rcv Rh (nt_vS At0) (fun a1 ya1 Aa1 => ?_)
  refine nt_dt (by omega) (n_X11_mustBePlace Rh (nt_am Aa1 (by omega)) _ _) (fun h2 yh2 x3 Rh2 Lh2 => ?_)
  refine nt_dt (by omega) (n_X11_mustBePart Rh2 _) (fun h4 yh4 x5 Rh4 Lh4 => ?_)
  refine nt_gP Rh4 (nt_vS At0) (fun x6 yx6 Vx6 => ?_)
  refine nt_rcv Rh4 Vx6 (fun a7 ya7 Aa7 => ?_)
  refine nt_doV (n_Jx4a65c_get_915e3 Rh4 (nt_am Aa7 (by omega)) _) (fun h8 yh8 x9 yx9 Rh8 Vx9 Lh8 => ?_)
  refine nt_cc Rh8 Vx9 ?_
  refine nt_rcv Rh8 Vx9 (fun a11 ya11 Aa11 => ?_)
  refine nt_doE (n_X2_leavesOut Rh8 (nt_am Aa11 (by omega)) _) (fun h12 yh12 x13 Rh12 Lh12 => ?_)
  refine nt_ite ?_ ?_
  · refine nt_gP Rh12 Vx9 (fun x14 yx14 Vx14 => ?_)
    refine nt_aP Rh12 Vx14 (fun x15 yx15 Vx15 => ?_)
    refine nt_aI Rh12 Vx15 (fun x16 => ?_)
    exact nt_fk (n_X11_copied_c45 Rh12 _) (by omega)
  · exact nt_fk (n_X11_copied_c45 Rh12 _) (by omega)
theorem n_X11_brokenCopy {ρ : Nat → Nat} {D F : Nat → Prop} {h0 : nk_H} {u v : Nat}   {h yh : nk_H} (Rh : nt_R ρ D F h0 u v yh h) {t0 yt0 : Nat} (At0 : nt_A ρ D (nk_N h) t0 yt0) (v1 : Int32) : nt_F ρ D F h0 u v (nk_N h) nt_q (f_X11_brokenCopy h t0 v1) (f_X11_brokenCopy yh yt0 v1) := by
  unfold f_X11_brokenCopy
  refine nt_rcv Rh (nt_vS At0) (fun a1 ya1 Aa1 => ?_)
  refine nt_dt (by omega) (n_X11_mustBeCopy Rh (nt_am Aa1 (by omega)) _) (fun h2 yh2 x3 Rh2 Lh2 => ?_)
  refine nt_gP Rh2 (nt_vS At0) (fun x4 yx4 Vx4 => ?_)
  refine nt_rcv Rh2 Vx4 (fun a5 ya5 Aa5 => ?_)
  refine nt_doV (n_Jx4a65c_get_915e3 Rh2 (nt_am Aa5 (by omega)) _) (fun h6 yh6 x7 yx7 Rh6 Vx7 Lh6 => ?_)
  refine nt_cc Rh6 Vx7 ?_
  refine nt_rcv Rh6 Vx7 (fun a9 ya9 Aa9 => ?_)
  refine nt_doE (n_X2_firstBroken Rh6 (nt_am Aa9 (by omega))) (fun h10 yh10 x11 Rh10 Lh10 => ?_)
  exact nt_ret Rh10 rfl (by omega)
theorem n_X11_isTrue {ρ : Nat → Nat} {D F : Nat → Prop} {h0 : nk_H} {u v : Nat}   {h yh : nk_H} (Rh : nt_R ρ D F h0 u v yh h) {t0 yt0 : Nat} (At0 : nt_A ρ D (nk_N h) t0 yt0) (v1 : Int32) : nt_F ρ D F h0 u v (nk_N h) nt_q (f_X11_isTrue h t0 v1) (f_X11_isTrue yh yt0 v1) := by
  unfold f_X11_isTrue
  refine nt_rcv Rh (nt_vS At0) (fun a1 ya1 Aa1 => ?_)
  refine nt_dt (by omega) (n_X11_mustBeCopy Rh (nt_am Aa1 (by omega)) _) (fun h2 yh2 x3 Rh2 Lh2 => ?_)
  refine nt_gP Rh2 (nt_vS At0) (fun x4 yx4 Vx4 => ?_)
  refine nt_rcv Rh2 Vx4 (fun a5 ya5 Aa5 => ?_)
  refine nt_doV (n_Jx4a65c_get_915e3 Rh2 (nt_am Aa5 (by omega)) _) (fun h6 yh6 x7 yx7 Rh6 Vx7 Lh6 => ?_)
  refine nt_cc Rh6 Vx7 ?_
  refine nt_gP Rh6 (nt_vS At0) (fun x9 yx9 Vx9 => ?_)
  refine nt_gI Rh6 Vx7 (fun x10 => ?_)
  refine nt_aP Rh6 Vx9 (fun x11 yx11 Vx11 => ?_)
  refine nt_rcv Rh6 Vx7 (fun a12 ya12 Aa12 => ?_)
  refine nt_doE (n_X2_tellsAs Rh6 (nt_am Aa12 (by omega)) (nt_vm Vx11 (by omega))) (fun h13 yh13 x14 Rh13 Lh13 => ?_)
  exact nt_zr Rh13 _ rfl (by omega)
end
