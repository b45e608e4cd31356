section NKR
variable {α : Type} {G : nk_G} {l : Launch} {own : String} {cc : ByteArray} {nL : Nat} {ret : Option FieldType} {fr lo : Nat} {ini : Bool} {en : α → Option Value ⊕ String} {pc : Nat} {lv lv2 : List (Nat × nk_V)} {st : List nk_V} {h : nk_H} {f fA fB : Option (nk_H × α)}
theorem nr_iconst {n : Int} {v : Int32} (d : decode cc pc = .ok (.iconst n, 1)) (hv : Int32.ofInt n = v) (k : nk_Sim G l own cc nL ret fr lo ini en (pc + 1) lv (.inl v :: st) h f) : nk_Sim G l own cc nL ret fr lo ini en pc lv st h f :=
  nk_pure (fun p e R s m args below meth c H locs cells slots Q ls X hR hl kk => lv_iconst X.1 X.2.1 d hv (kk ls hl)) k
theorem nr_bipush {n : Int} {v : Int32} (d : decode cc pc = .ok (.bipush n, 2)) (hv : (Int8.ofInt n).toInt32 = v) (k : nk_Sim G l own cc nL ret fr lo ini en (pc + 2) lv (.inl v :: st) h f) : nk_Sim G l own cc nL ret fr lo ini en pc lv st h f :=
  nk_pure (fun p e R s m args below meth c H locs cells slots Q ls X hR hl kk => lv_bipush X.1 X.2.1 d hv (kk ls hl)) k
theorem nr_sipush {n : Int} {v : Int32} (d : decode cc pc = .ok (.sipush n, 3)) (hv : (Int16.ofInt n).toInt32 = v) (k : nk_Sim G l own cc nL ret fr lo ini en (pc + 3) lv (.inl v :: st) h f) : nk_Sim G l own cc nL ret fr lo ini en pc lv st h f :=
  nk_pure (fun p e R s m args below meth c H locs cells slots Q ls X hR hl kk => lv_sipush X.1 X.2.1 d hv (kk ls hl)) k
theorem nr_ldc {i : Nat} {v : Int32} (d : decode cc pc = .ok (.ldc i, 2)) (w : Cond.constant own i v ∈ nk_T) (k : nk_Sim G l own cc nL ret fr lo ini en (pc + 2) lv (.inl v :: st) h f) : nk_Sim G l own cc nL ret fr lo ini en pc lv st h f :=
  nk_pure (fun p e R s m args below meth c H locs cells slots Q ls X hR hl kk => lv_ldc X.1 X.2.1 X.2.2.2.2.2.1 (nk_Kn.use X.2.2.2.2.2.2.1 w args) d (kk ls hl)) k
theorem nr_ldcw {i : Nat} {v : Int32} (d : decode cc pc = .ok (.ldc_w i, 3)) (w : Cond.constant own i v ∈ nk_T) (k : nk_Sim G l own cc nL ret fr lo ini en (pc + 3) lv (.inl v :: st) h f) : nk_Sim G l own cc nL ret fr lo ini en pc lv st h f :=
  nk_pure (fun p e R s m args below meth c H locs cells slots Q ls X hR hl kk => lv_ldcw X.1 X.2.1 X.2.2.2.2.2.1 (nk_Kn.use X.2.2.2.2.2.2.1 w args) d (kk ls hl)) k
theorem nr_null  (d : decode cc pc = .ok (.aconst_null, 1))  (k : nk_Sim G l own cc nL ret fr lo ini en (pc + 1) lv (.inr none :: st) h f) : nk_Sim G l own cc nL ret fr lo ini en pc lv st h f :=
  nk_pure (fun p e R s m args below meth c H locs cells slots Q ls X hR hl kk => lv_null X.1 X.2.1 d (kk ls hl)) k
theorem nr_iload_n {i : Fin 4} (j : Nat) {x : Int32} (d : decode cc pc = .ok (.iload_n i, 1)) (hk : lv[j]? = some ((i : Nat), .inl x)) (k : nk_Sim G l own cc nL ret fr lo ini en (pc + 1) lv (.inl x :: st) h f) : nk_Sim G l own cc nL ret fr lo ini en pc lv st h f :=
  nk_pure (fun p e R s m args below meth c H locs cells slots Q ls X hR hl kk => lv_iload_n X.1 X.2.1 d rfl (nk_at hl j hk) (kk ls hl)) k
theorem nr_iload {i : Nat} (j : Nat) {x : Int32} (d : decode cc pc = .ok (.iload i, 2)) (hk : lv[j]? = some (i, .inl x)) (k : nk_Sim G l own cc nL ret fr lo ini en (pc + 2) lv (.inl x :: st) h f) : nk_Sim G l own cc nL ret fr lo ini en pc lv st h f :=
  nk_pure (fun p e R s m args below meth c H locs cells slots Q ls X hR hl kk => lv_iload X.1 X.2.1 d (nk_at hl j hk) (kk ls hl)) k
theorem nr_aload_n {i : Fin 4} (j : Nat) {x : Option Nat} (d : decode cc pc = .ok (.aload_n i, 1)) (hk : lv[j]? = some ((i : Nat), .inr x)) (k : nk_Sim G l own cc nL ret fr lo ini en (pc + 1) lv (.inr x :: st) h f) : nk_Sim G l own cc nL ret fr lo ini en pc lv st h f :=
  nk_pure (fun p e R s m args below meth c H locs cells slots Q ls X hR hl kk => by
    have h1 := nk_at hl j hk
    cases x with
    | none => exact lv_aload_nN X.1 X.2.1 d rfl h1 (kk ls hl)
    | some a => exact lv_aload_n X.1 X.2.1 d rfl h1 (kk ls hl)) k
theorem nr_aload {i : Nat} (j : Nat) {x : Option Nat} (d : decode cc pc = .ok (.aload i, 2)) (hk : lv[j]? = some (i, .inr x)) (k : nk_Sim G l own cc nL ret fr lo ini en (pc + 2) lv (.inr x :: st) h f) : nk_Sim G l own cc nL ret fr lo ini en pc lv st h f :=
  nk_pure (fun p e R s m args below meth c H locs cells slots Q ls X hR hl kk => by
    have h1 := nk_at hl j hk
    cases x with
    | none => exact lv_aloadN X.1 X.2.1 d h1 (kk ls hl)
    | some a => exact lv_aload X.1 X.2.1 d h1 (kk ls hl)) k
theorem nr_istore_n {i : Fin 4} {x : Int32} (d : decode cc pc = .ok (.istore_n i, 1)) (hn : (i : Nat) < nL) (hl2 : ((i : Nat), .inl x) :: lv.filter (fun q => !(q.1 == (i : Nat))) = lv2) (k : nk_Sim G l own cc nL ret fr lo ini en (pc + 1) lv2 st h f) : nk_Sim G l own cc nL ret fr lo ini en pc lv (.inl x :: st) h f :=
  nk_pure (fun p e R s m args below meth c H locs cells slots Q ls X hR hl kk => lv_istore_n X.1 X.2.1 d rfl hl hn (nk_setl hl2) kk) k
theorem nr_istore {i : Nat} {x : Int32} (d : decode cc pc = .ok (.istore i, 2)) (hn : i < nL) (hl2 : (i, .inl x) :: lv.filter (fun q => !(q.1 == i)) = lv2) (k : nk_Sim G l own cc nL ret fr lo ini en (pc + 2) lv2 st h f) : nk_Sim G l own cc nL ret fr lo ini en pc lv (.inl x :: st) h f :=
  nk_pure (fun p e R s m args below meth c H locs cells slots Q ls X hR hl kk => lv_istore X.1 X.2.1 d hl hn (nk_setl hl2) kk) k
theorem nr_astore_n {i : Fin 4} {x : Option Nat} (d : decode cc pc = .ok (.astore_n i, 1)) (hn : (i : Nat) < nL) (hl2 : ((i : Nat), .inr x) :: lv.filter (fun q => !(q.1 == (i : Nat))) = lv2) (k : nk_Sim G l own cc nL ret fr lo ini en (pc + 1) lv2 st h f) : nk_Sim G l own cc nL ret fr lo ini en pc lv (.inr x :: st) h f :=
  nk_pure (fun p e R s m args below meth c H locs cells slots Q ls X hR hl kk => by
    cases x with
    | none => exact lv_astore_nN X.1 X.2.1 d rfl hl hn (nk_setl hl2) kk
    | some a => exact lv_astore_n X.1 X.2.1 d rfl hl hn (nk_setl hl2) kk) k
theorem nr_astore {i : Nat} {x : Option Nat} (d : decode cc pc = .ok (.astore i, 2)) (hn : i < nL) (hl2 : (i, .inr x) :: lv.filter (fun q => !(q.1 == i)) = lv2) (k : nk_Sim G l own cc nL ret fr lo ini en (pc + 2) lv2 st h f) : nk_Sim G l own cc nL ret fr lo ini en pc lv (.inr x :: st) h f :=
  nk_pure (fun p e R s m args below meth c H locs cells slots Q ls X hR hl kk => by
    cases x with
    | none => exact lv_astoreN X.1 X.2.1 d hl hn (nk_setl hl2) kk
    | some a => exact lv_astore X.1 X.2.1 d hl hn (nk_setl hl2) kk) k
theorem nk_atl {l : List (Nat × nk_V)} {k i : Nat} {t : nk_V} (hk : l[k]? = some (i, t)) : (nk_lv l)[k]? = some (i, nk_v t) := by unfold nk_lv; rw [List.getElem?_map, hk]; rfl
theorem nr_iinc {i : Nat} {n : Int} (j : Nat) {x : Int32} (v : Int32) (d : decode cc pc = .ok (.iinc i n, 3)) (hk : lv[j]? = some (i, .inl x)) (hv : x + Int32.ofInt n = v) (hn : i < nL) (hl2 : (i, .inl v) :: lv.filter (fun q => !(q.1 == i)) = lv2) (k : nk_Sim G l own cc nL ret fr lo ini en (pc + 3) lv2 st h f) : nk_Sim G l own cc nL ret fr lo ini en pc lv st h f :=
  nk_pure (fun p e R s m args below meth c H locs cells slots Q ls X hR hl kk => lv_iinc X.1 X.2.1 d hl (nk_atl hk) hv hn (nk_setl hl2) kk) k
theorem nr_iadd {x y : Int32} (d : decode cc pc = .ok (.iadd, 1))  (k : nk_Sim G l own cc nL ret fr lo ini en (pc + 1) lv (.inl (x + y) :: st) h f) : nk_Sim G l own cc nL ret fr lo ini en pc lv (.inl y :: .inl x :: st) h f :=
  nk_pure (fun p e R s m args below meth c H locs cells slots Q ls X hR hl kk => lv_iadd X.1 X.2.1 d (kk ls hl)) k
theorem nr_isub {x y : Int32} (d : decode cc pc = .ok (.isub, 1))  (k : nk_Sim G l own cc nL ret fr lo ini en (pc + 1) lv (.inl (x - y) :: st) h f) : nk_Sim G l own cc nL ret fr lo ini en pc lv (.inl y :: .inl x :: st) h f :=
  nk_pure (fun p e R s m args below meth c H locs cells slots Q ls X hR hl kk => lv_isub X.1 X.2.1 d (kk ls hl)) k
theorem nr_imul {x y : Int32} (d : decode cc pc = .ok (.imul, 1))  (k : nk_Sim G l own cc nL ret fr lo ini en (pc + 1) lv (.inl (x * y) :: st) h f) : nk_Sim G l own cc nL ret fr lo ini en pc lv (.inl y :: .inl x :: st) h f :=
  nk_pure (fun p e R s m args below meth c H locs cells slots Q ls X hR hl kk => lv_imul X.1 X.2.1 d (kk ls hl)) k
theorem nr_iand {x y : Int32} (d : decode cc pc = .ok (.iand, 1))  (k : nk_Sim G l own cc nL ret fr lo ini en (pc + 1) lv (.inl (x &&& y) :: st) h f) : nk_Sim G l own cc nL ret fr lo ini en pc lv (.inl y :: .inl x :: st) h f :=
  nk_pure (fun p e R s m args below meth c H locs cells slots Q ls X hR hl kk => lv_iand X.1 X.2.1 d (kk ls hl)) k
theorem nr_ior {x y : Int32} (d : decode cc pc = .ok (.ior, 1))  (k : nk_Sim G l own cc nL ret fr lo ini en (pc + 1) lv (.inl (x ||| y) :: st) h f) : nk_Sim G l own cc nL ret fr lo ini en pc lv (.inl y :: .inl x :: st) h f :=
  nk_pure (fun p e R s m args below meth c H locs cells slots Q ls X hR hl kk => lv_ior X.1 X.2.1 d (kk ls hl)) k
theorem nr_ixor {x y : Int32} (d : decode cc pc = .ok (.ixor, 1))  (k : nk_Sim G l own cc nL ret fr lo ini en (pc + 1) lv (.inl (x ^^^ y) :: st) h f) : nk_Sim G l own cc nL ret fr lo ini en pc lv (.inl y :: .inl x :: st) h f :=
  nk_pure (fun p e R s m args below meth c H locs cells slots Q ls X hR hl kk => lv_ixor X.1 X.2.1 d (kk ls hl)) k
theorem nr_ishl {x y : Int32} (d : decode cc pc = .ok (.ishl, 1))  (k : nk_Sim G l own cc nL ret fr lo ini en (pc + 1) lv (.inl (x <<< (y &&& 31)) :: st) h f) : nk_Sim G l own cc nL ret fr lo ini en pc lv (.inl y :: .inl x :: st) h f :=
  nk_pure (fun p e R s m args below meth c H locs cells slots Q ls X hR hl kk => lv_ishl X.1 X.2.1 d (kk ls hl)) k
theorem nr_ishr {x y : Int32} (d : decode cc pc = .ok (.ishr, 1))  (k : nk_Sim G l own cc nL ret fr lo ini en (pc + 1) lv (.inl (x >>> (y &&& 31)) :: st) h f) : nk_Sim G l own cc nL ret fr lo ini en pc lv (.inl y :: .inl x :: st) h f :=
  nk_pure (fun p e R s m args below meth c H locs cells slots Q ls X hR hl kk => lv_ishr X.1 X.2.1 d (kk ls hl)) k
theorem nr_iushr {x y : Int32} (d : decode cc pc = .ok (.iushr, 1))  (k : nk_Sim G l own cc nL ret fr lo ini en (pc + 1) lv (.inl ((x.toUInt32 >>> (y.toUInt32 &&& Int32.toUInt32 31)).toInt32) :: st) h f) : nk_Sim G l own cc nL ret fr lo ini en pc lv (.inl y :: .inl x :: st) h f :=
  nk_pure (fun p e R s m args below meth c H locs cells slots Q ls X hR hl kk => lv_iushr X.1 X.2.1 d rfl (kk ls hl)) k
theorem nr_idiv {x y : Int32} (d : decode cc pc = .ok (.idiv, 1)) (hy : ¬ y = 0) (k : nk_Sim G l own cc nL ret fr lo ini en (pc + 1) lv (.inl (x / y) :: st) h f) : nk_Sim G l own cc nL ret fr lo ini en pc lv (.inl y :: .inl x :: st) h f :=
  nk_pure (fun p e R s m args below meth c H locs cells slots Q ls X hR hl kk => lv_idiv X.1 X.2.1 d hy (kk ls hl)) k
theorem nr_irem {x y : Int32} (d : decode cc pc = .ok (.irem, 1)) (hy : ¬ y = 0) (k : nk_Sim G l own cc nL ret fr lo ini en (pc + 1) lv (.inl (x - x / y * y) :: st) h f) : nk_Sim G l own cc nL ret fr lo ini en pc lv (.inl y :: .inl x :: st) h f :=
  nk_pure (fun p e R s m args below meth c H locs cells slots Q ls X hR hl kk => lv_irem X.1 X.2.1 d hy (kk ls hl)) k
theorem nr_dup {t : nk_V} (d : decode cc pc = .ok (.dup, 1))  (k : nk_Sim G l own cc nL ret fr lo ini en (pc + 1) lv (t :: t :: st) h f) : nk_Sim G l own cc nL ret fr lo ini en pc lv (t :: st) h f :=
  nk_pure (fun p e R s m args below meth c H locs cells slots Q ls X hR hl kk => lv_dup X.1 X.2.1 d (nk_vc t) (kk ls hl)) k
theorem nr_pop {t : nk_V} (d : decode cc pc = .ok (.pop, 1))  (k : nk_Sim G l own cc nL ret fr lo ini en (pc + 1) lv st h f) : nk_Sim G l own cc nL ret fr lo ini en pc lv (t :: st) h f :=
  nk_pure (fun p e R s m args below meth c H locs cells slots Q ls X hR hl kk => lv_pop X.1 X.2.1 d (nk_vc t) (kk ls hl)) k
theorem nr_dup_x1 {t u : nk_V} (d : decode cc pc = .ok (.dup_x1, 1))  (k : nk_Sim G l own cc nL ret fr lo ini en (pc + 1) lv (t :: u :: t :: st) h f) : nk_Sim G l own cc nL ret fr lo ini en pc lv (t :: u :: st) h f :=
  nk_pure (fun p e R s m args below meth c H locs cells slots Q ls X hR hl kk => lv_dup_x1 X.1 X.2.1 d (nk_vc t) (nk_vc u) (kk ls hl)) k
theorem nr_dup2 {t u : nk_V} (d : decode cc pc = .ok (.dup2, 1))  (k : nk_Sim G l own cc nL ret fr lo ini en (pc + 1) lv (t :: u :: t :: u :: st) h f) : nk_Sim G l own cc nL ret fr lo ini en pc lv (t :: u :: st) h f :=
  nk_pure (fun p e R s m args below meth c H locs cells slots Q ls X hR hl kk => lv_dup2_11 X.1 X.2.1 d (nk_vc t) (nk_vc u) (kk ls hl)) k
theorem nr_goto {off : Int} {tgt : Nat} (d : decode cc pc = .ok (.goto off, 3)) (ht : (pc : Int) + off = (tgt : Int)) (k : nk_Sim G l own cc nL ret fr lo ini en tgt lv st h f) : nk_Sim G l own cc nL ret fr lo ini en pc lv st h f :=
  nk_pure (fun p e R s m args below meth c H locs cells slots Q ls X hR hl kk => lv_goto X.1 X.2.1 d ht (kk ls hl)) k
/-- two ways on -/
theorem nk_ite {pa pb : Nat} {st2 : List nk_V} (P : Prop) [Decidable P] (step : ∀ (p : Program) (e : Env) (R : Room) (s : State) (m : MethodId) (args : Array Value) (below : List Frame) (meth : Method) (c : Code) (H : Heap) (locs : List Loc) (cells slots : Nat) (Q : State → Prop) (ls : Array Slot), nk_X G l own cc nL ret fr lo ini p R s m meth c →
      (P → W p l e R s m args below meth c H locs cells slots Q (F0 m pa ls (nk_vs st2))) → (¬ P → W p l e R s m args below meth c H locs cells slots Q (F0 m pb ls (nk_vs st2))) → W p l e R s m args below meth c H locs cells slots Q (F0 m pc ls (nk_vs st)))
    (ka : P → nk_Sim G l own cc nL ret fr lo ini en pa lv st2 h fA) (kb : ¬ P → nk_Sim G l own cc nL ret fr lo ini en pb lv st2 h fB) : nk_Sim G l own cc nL ret fr lo ini en pc lv st h (if P then fA else fB) := by
  intro h' r hf
  by_cases hP : P
  · rw [if_pos hP] at hf
    obtain ⟨k1, k2, k3⟩ := ka hP h' r hf
    refine ⟨k1, k2, fun p e R s m args below meth c X sb b1 b2 b3 b4 H ls locs hR hl hq => ?_⟩
    exact step p e R s m args below meth c H locs _ _ _ ls X (fun _ => k3 p e R s m args below meth c X sb b1 b2 b3 b4 H ls locs hR hl hq) (fun n => absurd hP n)
  · rw [if_neg hP] at hf
    obtain ⟨k1, k2, k3⟩ := kb hP h' r hf
    refine ⟨k1, k2, fun p e R s m args below meth c X sb b1 b2 b3 b4 H ls locs hR hl hq => ?_⟩
    exact step p e R s m args below meth c H locs _ _ _ ls X (fun y => absurd y hP) (fun _ => k3 p e R s m args below meth c X sb b1 b2 b3 b4 H ls locs hR hl hq)
theorem nr_if_eq {x : Int32} {off : Int} {tgt : Nat} (d : decode cc pc = .ok (.ifCond .eq off, 3)) (ht : (pc : Int) + off = (tgt : Int)) (ka : x = 0 → nk_Sim G l own cc nL ret fr lo ini en tgt lv st h fA) (kb : ¬ x = 0 → nk_Sim G l own cc nL ret fr lo ini en (pc + 3) lv st h fB) : nk_Sim G l own cc nL ret fr lo ini en pc lv (.inl x :: st) h (if x = 0 then fA else fB) :=
  nk_ite (x = 0) (fun p e R s m args below meth c H locs cells slots Q ls X ta tb => lv_if_eq X.1 X.2.1 d ht ta tb) ka kb
theorem nr_if_lt {x : Int32} {off : Int} {tgt : Nat} (d : decode cc pc = .ok (.ifCond .lt off, 3)) (ht : (pc : Int) + off = (tgt : Int)) (ka : x < 0 → nk_Sim G l own cc nL ret fr lo ini en tgt lv st h fA) (kb : ¬ x < 0 → nk_Sim G l own cc nL ret fr lo ini en (pc + 3) lv st h fB) : nk_Sim G l own cc nL ret fr lo ini en pc lv (.inl x :: st) h (if x < 0 then fA else fB) :=
  nk_ite (x < 0) (fun p e R s m args below meth c H locs cells slots Q ls X ta tb => lv_if_lt X.1 X.2.1 d ht ta tb) ka kb
theorem nr_if_ge {x : Int32} {off : Int} {tgt : Nat} (d : decode cc pc = .ok (.ifCond .ge off, 3)) (ht : (pc : Int) + off = (tgt : Int)) (ka : 0 ≤ x → nk_Sim G l own cc nL ret fr lo ini en tgt lv st h fA) (kb : ¬ 0 ≤ x → nk_Sim G l own cc nL ret fr lo ini en (pc + 3) lv st h fB) : nk_Sim G l own cc nL ret fr lo ini en pc lv (.inl x :: st) h (if 0 ≤ x then fA else fB) :=
  nk_ite (0 ≤ x) (fun p e R s m args below meth c H locs cells slots Q ls X ta tb => lv_if_ge X.1 X.2.1 d ht ta tb) ka kb
theorem nr_if_gt {x : Int32} {off : Int} {tgt : Nat} (d : decode cc pc = .ok (.ifCond .gt off, 3)) (ht : (pc : Int) + off = (tgt : Int)) (ka : 0 < x → nk_Sim G l own cc nL ret fr lo ini en tgt lv st h fA) (kb : ¬ 0 < x → nk_Sim G l own cc nL ret fr lo ini en (pc + 3) lv st h fB) : nk_Sim G l own cc nL ret fr lo ini en pc lv (.inl x :: st) h (if 0 < x then fA else fB) :=
  nk_ite (0 < x) (fun p e R s m args below meth c H locs cells slots Q ls X ta tb => lv_if_gt X.1 X.2.1 d ht ta tb) ka kb
theorem nr_if_le {x : Int32} {off : Int} {tgt : Nat} (d : decode cc pc = .ok (.ifCond .le off, 3)) (ht : (pc : Int) + off = (tgt : Int)) (ka : x ≤ 0 → nk_Sim G l own cc nL ret fr lo ini en tgt lv st h fA) (kb : ¬ x ≤ 0 → nk_Sim G l own cc nL ret fr lo ini en (pc + 3) lv st h fB) : nk_Sim G l own cc nL ret fr lo ini en pc lv (.inl x :: st) h (if x ≤ 0 then fA else fB) :=
  nk_ite (x ≤ 0) (fun p e R s m args below meth c H locs cells slots Q ls X ta tb => lv_if_le X.1 X.2.1 d ht ta tb) ka kb
theorem nr_icmp_eq {x y : Int32} {off : Int} {tgt : Nat} (d : decode cc pc = .ok (.if_icmp .eq off, 3)) (ht : (pc : Int) + off = (tgt : Int)) (ka : x = y → nk_Sim G l own cc nL ret fr lo ini en tgt lv st h fA) (kb : ¬ x = y → nk_Sim G l own cc nL ret fr lo ini en (pc + 3) lv st h fB) : nk_Sim G l own cc nL ret fr lo ini en pc lv (.inl y :: .inl x :: st) h (if x = y then fA else fB) :=
  nk_ite (x = y) (fun p e R s m args below meth c H locs cells slots Q ls X ta tb => lv_icmp_eq X.1 X.2.1 d ht ta tb) ka kb
theorem nr_icmp_lt {x y : Int32} {off : Int} {tgt : Nat} (d : decode cc pc = .ok (.if_icmp .lt off, 3)) (ht : (pc : Int) + off = (tgt : Int)) (ka : x < y → nk_Sim G l own cc nL ret fr lo ini en tgt lv st h fA) (kb : ¬ x < y → nk_Sim G l own cc nL ret fr lo ini en (pc + 3) lv st h fB) : nk_Sim G l own cc nL ret fr lo ini en pc lv (.inl y :: .inl x :: st) h (if x < y then fA else fB) :=
  nk_ite (x < y) (fun p e R s m args below meth c H locs cells slots Q ls X ta tb => lv_icmp_lt X.1 X.2.1 d ht ta tb) ka kb
theorem nr_icmp_ge {x y : Int32} {off : Int} {tgt : Nat} (d : decode cc pc = .ok (.if_icmp .ge off, 3)) (ht : (pc : Int) + off = (tgt : Int)) (ka : y ≤ x → nk_Sim G l own cc nL ret fr lo ini en tgt lv st h fA) (kb : ¬ y ≤ x → nk_Sim G l own cc nL ret fr lo ini en (pc + 3) lv st h fB) : nk_Sim G l own cc nL ret fr lo ini en pc lv (.inl y :: .inl x :: st) h (if y ≤ x then fA else fB) :=
  nk_ite (y ≤ x) (fun p e R s m args below meth c H locs cells slots Q ls X ta tb => lv_icmp_ge X.1 X.2.1 d ht ta tb) ka kb
theorem nr_icmp_gt {x y : Int32} {off : Int} {tgt : Nat} (d : decode cc pc = .ok (.if_icmp .gt off, 3)) (ht : (pc : Int) + off = (tgt : Int)) (ka : y < x → nk_Sim G l own cc nL ret fr lo ini en tgt lv st h fA) (kb : ¬ y < x → nk_Sim G l own cc nL ret fr lo ini en (pc + 3) lv st h fB) : nk_Sim G l own cc nL ret fr lo ini en pc lv (.inl y :: .inl x :: st) h (if y < x then fA else fB) :=
  nk_ite (y < x) (fun p e R s m args below meth c H locs cells slots Q ls X ta tb => lv_icmp_gt X.1 X.2.1 d ht ta tb) ka kb
theorem nr_icmp_le {x y : Int32} {off : Int} {tgt : Nat} (d : decode cc pc = .ok (.if_icmp .le off, 3)) (ht : (pc : Int) + off = (tgt : Int)) (ka : x ≤ y → nk_Sim G l own cc nL ret fr lo ini en tgt lv st h fA) (kb : ¬ x ≤ y → nk_Sim G l own cc nL ret fr lo ini en (pc + 3) lv st h fB) : nk_Sim G l own cc nL ret fr lo ini en pc lv (.inl y :: .inl x :: st) h (if x ≤ y then fA else fB) :=
  nk_ite (x ≤ y) (fun p e R s m args below meth c H locs cells slots Q ls X ta tb => lv_icmp_le X.1 X.2.1 d ht ta tb) ka kb
theorem nr_if_ne {x : Int32} {off : Int} {tgt : Nat} (d : decode cc pc = .ok (.ifCond .ne off, 3)) (ht : (pc : Int) + off = (tgt : Int)) (ka : x = 0 → nk_Sim G l own cc nL ret fr lo ini en (pc + 3) lv st h fA) (kb : ¬ x = 0 → nk_Sim G l own cc nL ret fr lo ini en tgt lv st h fB) : nk_Sim G l own cc nL ret fr lo ini en pc lv (.inl x :: st) h (if x = 0 then fA else fB) :=
  nk_ite (x = 0) (fun p e R s m args below meth c H locs cells slots Q ls X ta tb => lv_if_ne X.1 X.2.1 d ht tb ta) ka kb
theorem nr_icmp_ne {x y : Int32} {off : Int} {tgt : Nat} (d : decode cc pc = .ok (.if_icmp .ne off, 3)) (ht : (pc : Int) + off = (tgt : Int)) (ka : x = y → nk_Sim G l own cc nL ret fr lo ini en (pc + 3) lv st h fA) (kb : ¬ x = y → nk_Sim G l own cc nL ret fr lo ini en tgt lv st h fB) : nk_Sim G l own cc nL ret fr lo ini en pc lv (.inl y :: .inl x :: st) h (if x = y then fA else fB) :=
  nk_ite (x = y) (fun p e R s m args below meth c H locs cells slots Q ls X ta tb => lv_icmp_ne X.1 X.2.1 d ht tb ta) ka kb
theorem nr_acmp_ne {x y : Option Nat} {off : Int} {tgt : Nat} (d : decode cc pc = .ok (.if_acmp .ne off, 3)) (ht : (pc : Int) + off = (tgt : Int)) (ka : x = y → nk_Sim G l own cc nL ret fr lo ini en (pc + 3) lv st h fA) (kb : ¬ x = y → nk_Sim G l own cc nL ret fr lo ini en tgt lv st h fB) : nk_Sim G l own cc nL ret fr lo ini en pc lv (.inr y :: .inr x :: st) h (if x = y then fA else fB) :=
  nk_ite (x = y) (fun p e R s m args below meth c H locs cells slots Q ls X ta tb => lv_acmp_ne X.1 X.2.1 d ht tb ta) ka kb
theorem nr_acmp_eq {x y : Option Nat} {off : Int} {tgt : Nat} (d : decode cc pc = .ok (.if_acmp .eq off, 3)) (ht : (pc : Int) + off = (tgt : Int)) (ka : x = y → nk_Sim G l own cc nL ret fr lo ini en tgt lv st h fA) (kb : ¬ x = y → nk_Sim G l own cc nL ret fr lo ini en (pc + 3) lv st h fB) : nk_Sim G l own cc nL ret fr lo ini en pc lv (.inr y :: .inr x :: st) h (if x = y then fA else fB) :=
  nk_ite (x = y) (fun p e R s m args below meth c H locs cells slots Q ls X ta tb => lv_acmp_eq X.1 X.2.1 d ht ta tb) ka kb
theorem nr_ifnull {x : Option Nat} {off : Int} {tgt : Nat} (d : decode cc pc = .ok (.ifnull off, 3)) (ht : (pc : Int) + off = (tgt : Int)) (ka : x = none → nk_Sim G l own cc nL ret fr lo ini en tgt lv st h fA) (kb : ¬ x = none → nk_Sim G l own cc nL ret fr lo ini en (pc + 3) lv st h fB) : nk_Sim G l own cc nL ret fr lo ini en pc lv (.inr x :: st) h (if x = none then fA else fB) :=
  nk_ite (x = none) (fun p e R s m args below meth c H locs cells slots Q ls X ta tb => by
    cases x with
    | none => exact lv_ifnullN X.1 X.2.1 d ht (ta rfl)
    | some a => exact lv_ifnull X.1 X.2.1 d (tb (fun z => nomatch z))) ka kb
theorem nr_ifnonnull {x : Option Nat} {off : Int} {tgt : Nat} (d : decode cc pc = .ok (.ifnonnull off, 3)) (ht : (pc : Int) + off = (tgt : Int)) (ka : x = none → nk_Sim G l own cc nL ret fr lo ini en (pc + 3) lv st h fA) (kb : ¬ x = none → nk_Sim G l own cc nL ret fr lo ini en tgt lv st h fB) : nk_Sim G l own cc nL ret fr lo ini en pc lv (.inr x :: st) h (if x = none then fA else fB) :=
  nk_ite (x = none) (fun p e R s m args below meth c H locs cells slots Q ls X ta tb => by
    cases x with
    | none => exact lv_ifnonnullN X.1 X.2.1 d (ta rfl)
    | some a => exact lv_ifnonnull X.1 X.2.1 d ht (tb (fun z => nomatch z))) ka kb
end NKR
