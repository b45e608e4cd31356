/-! ===== rows that read and write objects and arrays ===== -/
/-- the classes' own facts: their layout's words, types, names, first values -/
def nk_ClsP (ci : Nat) (q : vw_C) : Prop := (∀ w ∈ u_ws q.1 q.2.1 q.2.2, w ∈ nk_T) ∧ (∃ ty : Nat → FieldType, (∀ k, k < q.2.2 → parseFieldDescriptor (q.2.1 k).2.2.1 = some (ty k)) ∧ ∀ k, k < q.2.2 → defaultValue (ty k) = if nk_rf ci k = true then va_rf none else .int 0) ∧ (∀ a, a < q.2.2 → ∀ b, b < q.2.2 → a ≠ b → (q.2.1 a).2.1 ≠ (q.2.1 b).2.1)
theorem nk_cls (ci : Nat) (q : vw_C) (h : nk_cl[ci]? = some q) : nk_ClsP ci q := by
  match ci, h with
  | 0, h => cases h; exact ⟨nk_ins [101, 97, 99] (by decide +kernel) (by decide +kernel), ⟨tyJx4a65c, tyJx4a65c_ok, by decide +kernel⟩, nmJx4a65c⟩
  | 1, h => cases h; exact ⟨nk_ins [834, 835, 836, 837, 838, 839, 824, 826, 828, 830, 832] (by decide +kernel) (by decide +kernel), ⟨tyX0, tyX0_ok, by decide +kernel⟩, nmX0⟩
  | 2, h => cases h; exact ⟨nk_ins [125, 127] (by decide +kernel) (by decide +kernel), ⟨tyX1, tyX1_ok, by decide +kernel⟩, nmX1⟩
  | 3, h => cases h; exact ⟨nk_ins [928, 930, 932, 934, 936, 938, 940] (by decide +kernel) (by decide +kernel), ⟨tyX2, tyX2_ok, by decide +kernel⟩, nmX2⟩
  | 4, h => cases h; exact ⟨nk_ins [753, 755, 757, 759, 761, 763] (by decide +kernel) (by decide +kernel), ⟨tyX3, tyX3_ok, by decide +kernel⟩, nmX3⟩
  | 5, h => cases h; exact ⟨nk_ins [715, 716, 717, 718, 719, 720, 709, 711, 713] (by decide +kernel) (by decide +kernel), ⟨tyX4, tyX4_ok, by decide +kernel⟩, nmX4⟩
  | 6, h => cases h; exact ⟨nk_ins [147, 149, 151, 153, 155] (by decide +kernel) (by decide +kernel), ⟨tyX5, tyX5_ok, by decide +kernel⟩, nmX5⟩
  | 7, h => cases h; exact ⟨nk_ins [66, 68] (by decide +kernel) (by decide +kernel), ⟨tyX6, tyX6_ok, by decide +kernel⟩, nmX6⟩
  | 8, h => cases h; exact ⟨nk_ins [106, 108] (by decide +kernel) (by decide +kernel), ⟨tyX7, tyX7_ok, by decide +kernel⟩, nmX7⟩
  | 9, h => cases h; exact ⟨nk_ins [519, 521, 523, 525, 527, 529, 501, 503, 505, 507, 509, 511, 513, 515, 517] (by decide +kernel) (by decide +kernel), ⟨tyX9, tyX9_ok, by decide +kernel⟩, nmX9⟩
  | 10, h => cases h; exact ⟨nk_ins [670, 671, 672, 673, 674, 675, 668] (by decide +kernel) (by decide +kernel), ⟨tyX10, tyX10_ok, by decide +kernel⟩, nmX10⟩
  | 11, h => cases h; exact ⟨nk_ins [167, 169, 171, 173, 175, 177, 179, 181, 183] (by decide +kernel) (by decide +kernel), ⟨tyX11, tyX11_ok, by decide +kernel⟩, nmX11⟩
  | 12, h => cases h; exact ⟨nk_ins [167, 169, 171, 173, 175, 177, 179, 181, 183] (by decide +kernel) (by decide +kernel), ⟨tyX11, tyX11_ok, by decide +kernel⟩, nmX11⟩
  | n + 13, h => simp [nk_cl] at h
/-- a place of a class file's pool links the field k of the class ci -/
def nk_Fl (own : String) (i ci k : Nat) : Prop := ∃ (q : vw_C) (rf : String), nk_cl[ci]? = some q ∧ k < q.2.2 ∧ Cond.fieldLink own i rf (q.2.1 k).2.1 (q.2.1 k).2.2.1 ∈ nk_T ∧ (rf = (q.2.1 k).1 ∨ Cond.sameField rf (q.2.1 k).1 (q.2.1 k).2.1 (q.2.1 k).2.2.1 ∈ nk_T)
def nk_Fk (own : String) (i k : Nat) (b : Bool) : List Nat → Prop
  | [] => True
  | c :: t => (∃ ci : Nat, c = ci + 7 ∧ nk_Fl own i ci k ∧ nk_rf ci k = b) ∧ nk_Fk own i k b t
theorem nk_Fk.get {own : String} {i k : Nat} {b : Bool} {ks : List Nat} (h : nk_Fk own i k b ks) {c : Nat} (hc : c ∈ ks) : ∃ ci : Nat, c = ci + 7 ∧ nk_Fl own i ci k ∧ nk_rf ci k = b := by
  induction ks with
  | nil => cases hc
  | cons d t ih =>
    rcases List.mem_cons.mp hc with rfl | hc
    · exact h.1
    · exact ih h.2 hc
/-- a field that is written: an int's or a reference's, not final, or final in its own constructor -/
def nk_Fw (own : String) (ini : Bool) (k : Nat) : List Nat → Prop
  | [] => True
  | c :: t => (∀ (ci : Nat) (q : vw_C), c = ci + 7 → nk_cl[ci]? = some q → ((q.2.1 k).2.2.2 = false ∨ ((q.2.1 k).2.2.2 = true ∧ ini = true ∧ (q.2.1 k).1 = own)) ∧
      ((parseFieldDescriptor (q.2.1 k).2.2.1 = some .int ∧ nk_rf ci k = false) ∨ (nk_rf ci k = true ∧ ((∃ n, parseFieldDescriptor (q.2.1 k).2.2.1 = some (.object n)) ∨ ∃ t, parseFieldDescriptor (q.2.1 k).2.2.1 = some (.array t))))) ∧ nk_Fw own ini k t
theorem nk_Fw.get {own : String} {ini : Bool} {k : Nat} {ks : List Nat} (h : nk_Fw own ini k ks) {c : Nat} (hc : c ∈ ks) : ∀ (ci : Nat) (q : vw_C), c = ci + 7 → nk_cl[ci]? = some q → ((q.2.1 k).2.2.2 = false ∨ ((q.2.1 k).2.2.2 = true ∧ ini = true ∧ (q.2.1 k).1 = own)) ∧
      ((parseFieldDescriptor (q.2.1 k).2.2.1 = some .int ∧ nk_rf ci k = false) ∨ (nk_rf ci k = true ∧ ((∃ n, parseFieldDescriptor (q.2.1 k).2.2.1 = some (.object n)) ∨ ∃ t, parseFieldDescriptor (q.2.1 k).2.2.1 = some (.array t)))) := by
  induction ks with
  | nil => cases hc
  | cons d t ih =>
    rcases List.mem_cons.mp hc with rfl | hc
    · exact h.1
    · exact ih h.2 hc
/-- the parts of the functions that may have no answer -/
def nk_gI (ks : List Nat) (k : Nat) (h : nk_H) (p : Option Nat) : Option Int32 := p.bind fun a => if nk_K h a ∈ ks then some (nk_I h a k) else none
def nk_gP (ks : List Nat) (k : Nat) (h : nk_H) (p : Option Nat) : Option (Option Nat) := p.bind fun a => if nk_K h a ∈ ks then some (nk_P h a k) else none
def nk_pI (ks : List Nat) (k : Nat) (h : nk_H) (p : Option Nat) (v : Int32) : Option nk_H := p.bind fun a => if nk_K h a ∈ ks then some (nk_sI h a k v) else none
def nk_pP (ks : List Nat) (k : Nat) (h : nk_H) (p : Option Nat) (v : Option Nat) : Option nk_H := p.bind fun a => if nk_K h a ∈ ks then some (nk_sP h a k v) else none
def nk_aI (c : Nat) (h : nk_H) (p : Option Nat) (i : Int32) : Option Int32 := p.bind fun a => if nk_K h a = c ∧ ¬ i < 0 ∧ i.toNatClampNeg < nk_L h a then some (nk_I h a i.toNatClampNeg) else none
def nk_aP (c : Nat) (h : nk_H) (p : Option Nat) (i : Int32) : Option (Option Nat) := p.bind fun a => if nk_K h a = c ∧ ¬ i < 0 ∧ i.toNatClampNeg < nk_L h a then some (nk_P h a i.toNatClampNeg) else none
def nk_wI (h : nk_H) (p : Option Nat) (i v : Int32) : Option nk_H := p.bind fun a => if nk_K h a = 1 ∧ ¬ i < 0 ∧ i.toNatClampNeg < nk_L h a then some (nk_sI h a i.toNatClampNeg v) else none
def nk_wZ (h : nk_H) (p : Option Nat) (i v : Int32) : Option nk_H := p.bind fun a => if nk_K h a = 2 ∧ ¬ i < 0 ∧ i.toNatClampNeg < nk_L h a then some (nk_sI h a i.toNatClampNeg (vp_nar .boolean v)) else none
def nk_len (h : nk_H) (p : Option Nat) : Option Int32 := p.bind fun a => if 1 ≤ nk_K h a ∧ nk_K h a ≤ 6 then some (Int32.ofNat (nk_L h a)) else if nk_K h a = 20 then some 0 else none
def nk_na (c : Nat) (h : nk_H) (n : Int32) : Option nk_H := if ¬ n < 0 ∧ n.toNatClampNeg ≤ 65536 then some (nk_al h c n.toNatClampNeg n.toNatClampNeg) else none
section NKO
variable {p : Program} {l : Launch} {e : Env} {R : Room} {s : State} {m : MethodId} {args : Array Value} {below : List Frame} {meth : Method} {c : Code} {H : Heap} {locs : List Loc} {cells slots : Nat} {Q : State → Prop} {cc : ByteArray} {pc : Nat} {ls : Array Slot} {rest : List Value} {G : nk_G} {h : nk_H} {own : String} {a : Nat}
theorem nk_wget (hx : p.tables.exec = Jvm.exec) (hb : c.code = cc) (hown : s.vm.findClass own = some m.cls) (hKn : nk_Kn G s) (hR : nk_R G h H) {i ci k : Nat} (hk : nk_K h a = ci + 7) (hF : nk_Fl own i ci k) (d : decode cc pc = .ok (.getfield i, 3))
    (kk : W p l e R s m args below meth c H locs cells slots Q (F0 m (pc + 3) ls (nk_fv h ci a k :: rest))) : W p l e R s m args below meth c H locs cells slots Q (F0 m pc ls (.ref a :: rest)) := by
  obtain ⟨q, rf, hq, hlt, hlink, hsame⟩ := hF
  obtain ⟨cell, q1, q2, q3, q4⟩ := (hR.2.2.2.2.1 a ci q hk hq).2.2
  obtain ⟨hS, hfc, kC, hkC, hkind⟩ := hKn.2.1.1 ci q hq
  obtain ⟨cf, kf, fi, f, hi, hsl⟩ := hS k hlt
  have hin := (nk_cls ci q hq).1
  have hts : ∀ w ∈ nk_T, w.before args s = true := fun w hw => hKn.use hw args
  have hi2 : s.fieldFound? rf (q.2.1 k).2.1 (q.2.1 k).2.2.1 = some (cf, kf, fi, f) := by
    rcases hsame with h1 | h1
    · rw [h1]; exact hi
    · exact u_same (hts _ h1) _ hi
  refine W.getf hx hb hown (hts _ hlink) hi2 (u_facts hfc hkC (u_lays hts hin hlt) hi).1 q1 (by rw [q3]; exact fun h => by cases h) (v := nk_fv h ci a k) ?_ rfl rfl d kk
  rw [hsl]
  exact q4 k hlt
theorem nk_wput (hx : p.tables.exec = Jvm.exec) (hb : c.code = cc) (hown : s.vm.findClass own = some m.cls) (hKn : nk_Kn G s) (hR : nk_R G h H) {i ci k : Nat} {ini : Bool} (hini : ini = true → meth.name = "<init>") {v : Value} (hk : nk_K h a = ci + 7) (hF : nk_Fl own i ci k)
    (hW : ∀ q : vw_C, nk_cl[ci]? = some q → ((q.2.1 k).2.2.2 = false ∨ ((q.2.1 k).2.2.2 = true ∧ ini = true ∧ (q.2.1 k).1 = own)) ∧ ∃ ty : FieldType, parseFieldDescriptor (q.2.1 k).2.2.1 = some ty ∧ narrow ty v = v ∧ fits ty v = true) (d : decode cc pc = .ok (.putfield i, 3))
    (kk : ∀ (H1 : Heap) (i9 : Nat) (q : vw_C), nk_cl[ci]? = some q → H1.size = H.size → (∀ x : Nat, x ≠ a → H1[x]? = H[x]?) → t_OB a ((nk_gD G).1 ci) q.2.2 ((nk_gD G).2 ci) H1 (updV (nk_fv h ci a) k v) → W p l e R s m args below meth c H1 (locs ++ [⟨a, i9⟩]) cells slots Q (F0 m (pc + 3) ls rest)) : W p l e R s m args below meth c H locs cells slots Q (F0 m pc ls (v :: .ref a :: rest)) := by
  obtain ⟨q, rf, hq, hlt, hlink, hsame⟩ := hF
  obtain ⟨cell, q1, q2, q3, q4⟩ := (hR.2.2.2.2.1 a ci q hk hq).2.2
  obtain ⟨hS, hfc, kC, hkC, hkind⟩ := hKn.2.1.1 ci q hq
  obtain ⟨cf, kf, fi, f, hi, hsl⟩ := hS k hlt
  obtain ⟨hin, ⟨ty0, hty0, -⟩, hnm⟩ := nk_cls ci q hq
  obtain ⟨hfin, ty, hd, hn, hfit⟩ := hW q hq
  have hts : ∀ w ∈ nk_T, w.before args s = true := fun w hw => hKn.use hw args
  have hi2 : s.fieldFound? rf (q.2.1 k).2.1 (q.2.1 k).2.2.1 = some (cf, kf, fi, f) := by
    rcases hsame with h1 | h1
    · rw [h1]; exact hi
    · exact u_same (hts _ h1) _ hi
  have hap := va_apart (own := own) hts hin ty0 hty0 hnm hKn.2.1 hq
  have hst := (u_facts hfc hkC (u_lays hts hin hlt) hi).1
  have hlay := hts _ (hin _ (u_in_lay hlt))
  unfold u_lay at hlay
  rcases hfin with hfin | ⟨hfin, hin2, hdecl⟩
  · rw [if_neg (by rw [hfin]; decide)] at hlay
    have h6 := u_store hfc hkC hkind hlay hi hd hn hfit
    refine W.putK hx hb (f := f) ⟨hown, hts _ hlink, ⟨_, _, _, hi2⟩, hst⟩ (by rw [q2]; exact h6) q1 q3 (by rw [hsl]; exact k2_hasslot (q4 k hlt)) rfl rfl d fun H' e1 e2 e3 => ?_
    rw [hsl] at e1 ⊢
    exact kk H' _ q hq e2 e3 ⟨_, e1, q2, q3, t_set q4 hap hlt v⟩
  · rw [if_pos hfin] at hlay
    have hcf : m.cls = cf := by
      obtain ⟨_, _, c', _, _, _, -, -, hf', -, -, -, hown2, -⟩ := Cond.laysFinal_spec hlay
      have e1 : c' = cf := by have := hi.symm.trans hf'; simp at this; exact this.1.symm
      rw [hdecl] at hown2
      rw [← e1]; exact Option.some.inj (hown.symm.trans hown2)
    have h6 := u_fits hfc hkC hkind (Or.inr hlay) hi hd hn hfit
    refine W.putFinK hx hb hown (hts _ hlink) hi2 hst hcf (hini hin2) (by rw [q2]; exact h6) q1 q3 (by rw [hsl]; exact k2_hasslot (q4 k hlt)) rfl rfl d fun H' e1 e2 e3 => ?_
    rw [hsl] at e1 ⊢
    exact kk H' _ q hq e2 e3 ⟨_, e1, q2, q3, t_set q4 hap hlt v⟩
end NKO
theorem nk_fr_app {G : nk_G} {locs : List Loc} {a i : Nat} (h : ∀ q ∈ locs, nk_fr G q.base) (ha : nk_fr G a) : ∀ q ∈ locs ++ [⟨a, i⟩], nk_fr G q.base := by
  intro q hq
  rcases List.mem_append.mp hq with h1 | h1
  · exact h q h1
  · rw [List.mem_singleton.mp h1]; exact ha
theorem nk_rf_fits {ty : FieldType} (h : (∃ n, ty = .object n) ∨ ∃ t, ty = .array t) (v : Option Nat) : narrow ty (va_rf v) = va_rf v ∧ fits ty (va_rf v) = true := by
  rcases h with ⟨n, rfl⟩ | ⟨t, rfl⟩ <;> cases v <;> exact ⟨rfl, rfl⟩
section NKR
variable {α : Type} {G : nk_G} {l : Launch} {own : String} {cc : ByteArray} {nL : Nat} {ret : Option FieldType} {fr lo : Nat} {ini : Bool} {en : α → Option Value ⊕ String} {pc : Nat} {lv lv2 : List (Nat × nk_V)} {st : List nk_V} {h : nk_H} {f fA fB : Option (nk_H × α)}
theorem nr_getI {i : Nat} (ks : List Nat) (k : Nat) {x : Option Nat} {F : Int32 → Option (nk_H × α)} (d : decode cc pc = .ok (.getfield i, 3)) (w : nk_Fk own i k false ks) (kk : ∀ v, nk_Sim G l own cc nL ret fr lo ini en (pc + 3) lv (.inl v :: st) h (F v)) : nk_Sim G l own cc nL ret fr lo ini en pc lv (.inr x :: st) h ((nk_gI ks k h x).bind F) := by
  refine nk_bind (fun v hv => nk_pure (fun p e R s m args below meth c H locs cells slots Q ls X hR hl k9 => ?_) (kk v))
  cases x with
  | none => cases hv
  | some a =>
    by_cases hm : nk_K h a ∈ ks
    · have hv2 : nk_I h a k = v := Option.some.inj ((if_pos hm).symm.trans hv)
      obtain ⟨ci, e1, hF, hrf⟩ := w.get hm
      have := nk_wget (args := args) (rest := nk_vs st) (ls := ls) X.1 X.2.1 X.2.2.2.2.2.1 X.2.2.2.2.2.2.1 hR e1 hF d (p := p) (l := l) (e := e) (R := R) (below := below) (meth := meth) (locs := locs) (cells := cells) (slots := slots) (Q := Q)
      refine this ?_
      rw [show nk_fv h ci a k = .int v by unfold nk_fv; rw [if_neg (by rw [hrf]; decide), hv2]]
      exact k9 ls hl
    · exact absurd ((if_neg hm).symm.trans hv) (fun z => nomatch z)
theorem nr_getP {i : Nat} (ks : List Nat) (k : Nat) {x : Option Nat} {F : Option Nat → Option (nk_H × α)} (d : decode cc pc = .ok (.getfield i, 3)) (w : nk_Fk own i k true ks) (kk : ∀ v, nk_Sim G l own cc nL ret fr lo ini en (pc + 3) lv (.inr v :: st) h (F v)) : nk_Sim G l own cc nL ret fr lo ini en pc lv (.inr x :: st) h ((nk_gP ks k h x).bind F) := by
  refine nk_bind (fun v hv => nk_pure (fun p e R s m args below meth c H locs cells slots Q ls X hR hl k9 => ?_) (kk v))
  cases x with
  | none => cases hv
  | some a =>
    by_cases hm : nk_K h a ∈ ks
    · have hv2 : nk_P h a k = v := Option.some.inj ((if_pos hm).symm.trans hv)
      obtain ⟨ci, e1, hF, hrf⟩ := w.get hm
      have := nk_wget (args := args) (rest := nk_vs st) (ls := ls) X.1 X.2.1 X.2.2.2.2.2.1 X.2.2.2.2.2.2.1 hR e1 hF d (p := p) (l := l) (e := e) (R := R) (below := below) (meth := meth) (locs := locs) (cells := cells) (slots := slots) (Q := Q)
      refine this ?_
      rw [show nk_fv h ci a k = va_rf v by unfold nk_fv; rw [if_pos hrf, hv2]]
      exact k9 ls hl
    · exact absurd ((if_neg hm).symm.trans hv) (fun z => nomatch z)
theorem nr_putI {i : Nat} (ks : List Nat) (k : Nat) {x : Option Nat} {v : Int32} {F : nk_H → Option (nk_H × α)} (d : decode cc pc = .ok (.putfield i, 3)) (w : nk_Fk own i k false ks) (w2 : nk_Fw own ini k ks) (kk : ∀ h1, nk_Sim G l own cc nL ret fr lo ini en (pc + 3) lv st h1 (F h1)) : nk_Sim G l own cc nL ret fr lo ini en pc lv (.inl v :: .inr x :: st) h ((nk_pI ks k h x v).bind F) := by
  refine nk_bind (fun h1 hv => ?_)
  cases x with
  | none => cases hv
  | some a =>
    by_cases hm : nk_K h a ∈ ks
    · have hv2 : nk_sI h a k v = h1 := Option.some.inj ((if_pos hm).symm.trans hv)
      subst hv2
      obtain ⟨ci, e1, hF, hrf⟩ := w.get hm
      refine nk_heap (nk_N_sI h a k v) (nk_S_sI h a k v) (fun p e R s m args below meth c H locs cells slots Q ls X hR hl hq k9 => ?_) (kk _)
      refine nk_wput (args := args) (ini := ini) (v := .int v) X.1 X.2.1 X.2.2.2.2.2.1 X.2.2.2.2.2.2.1 hR X.2.2.2.2.2.2.2.2.2.2.2.2 e1 hF (fun q hq9 => ?_) d (fun H1 i9 q hq9 z o hB => ?_)
      · obtain ⟨g1, g2⟩ := w2.get hm ci q e1 hq9
        rcases g2 with ⟨g2, -⟩ | ⟨g2, -⟩
        · exact ⟨g1, .int, g2, rfl, rfl⟩
        · rw [hrf] at g2; cases g2
      · exact k9 H1 _ (nk_R_sI hR e1 hq9 hrf z o hB) (nk_fr_app hq (hR.2.2.2.2.1 a ci q e1 hq9).1)
    · exact absurd ((if_neg hm).symm.trans hv) (fun z => nomatch z)
theorem nr_putP {i : Nat} (ks : List Nat) (k : Nat) {x : Option Nat} {v : Option Nat} {F : nk_H → Option (nk_H × α)} (d : decode cc pc = .ok (.putfield i, 3)) (w : nk_Fk own i k true ks) (w2 : nk_Fw own ini k ks) (kk : ∀ h1, nk_Sim G l own cc nL ret fr lo ini en (pc + 3) lv st h1 (F h1)) : nk_Sim G l own cc nL ret fr lo ini en pc lv (.inr v :: .inr x :: st) h ((nk_pP ks k h x v).bind F) := by
  refine nk_bind (fun h1 hv => ?_)
  cases x with
  | none => cases hv
  | some a =>
    by_cases hm : nk_K h a ∈ ks
    · have hv2 : nk_sP h a k v = h1 := Option.some.inj ((if_pos hm).symm.trans hv)
      subst hv2
      obtain ⟨ci, e1, hF, hrf⟩ := w.get hm
      refine nk_heap (nk_N_sP h a k v) (nk_S_sP h a k v) (fun p e R s m args below meth c H locs cells slots Q ls X hR hl hq k9 => ?_) (kk _)
      refine nk_wput (args := args) (ini := ini) (v := va_rf v) X.1 X.2.1 X.2.2.2.2.2.1 X.2.2.2.2.2.2.1 hR X.2.2.2.2.2.2.2.2.2.2.2.2 e1 hF (fun q hq9 => ?_) d (fun H1 i9 q hq9 z o hB => ?_)
      · obtain ⟨g1, g2⟩ := w2.get hm ci q e1 hq9
        rcases g2 with ⟨-, g2⟩ | ⟨-, ⟨n, g2⟩ | ⟨t, g2⟩⟩
        · rw [hrf] at g2; cases g2
        · exact ⟨g1, _, g2, nk_rf_fits (Or.inl ⟨n, rfl⟩) v⟩
        · exact ⟨g1, _, g2, nk_rf_fits (Or.inr ⟨t, rfl⟩) v⟩
      · exact k9 H1 _ (nk_R_sP hR e1 hq9 hrf z o hB) (nk_fr_app hq (hR.2.2.2.2.1 a ci q e1 hq9).1)
    · exact absurd ((if_neg hm).symm.trans hv) (fun z => nomatch z)
theorem nk_tyAt {s : State} (hKn : nk_Kn G s) (j : Nat) {q : ClassId × FieldType} (hj : (nk_tys G)[j]? = some q) : ArrOfT s q.1 q.2 ∧ va_RA s q.1 q.2 := hKn.2.1.2 j q hj
theorem nr_iaload {x : Option Nat} {i : Int32} {F : Int32 → Option (nk_H × α)} (d : decode cc pc = .ok (.iaload, 1)) (kk : ∀ v, nk_Sim G l own cc nL ret fr lo ini en (pc + 1) lv (.inl v :: st) h (F v)) : nk_Sim G l own cc nL ret fr lo ini en pc lv (.inl i :: .inr x :: st) h ((nk_aI 1 h x i).bind F) := by
  refine nk_bind (fun v hv => nk_pure (fun p e R s m args below meth c H locs cells slots Q ls X hR hl k9 => ?_) (kk v))
  cases x with
  | none => cases hv
  | some a =>
    by_cases hm : nk_K h a = 1 ∧ ¬ i < 0 ∧ i.toNatClampNeg < nk_L h a
    · have hv2 : nk_I h a i.toNatClampNeg = v := Option.some.inj ((if_pos hm).symm.trans hv)
      obtain ⟨hc, h0, hlt⟩ := hm
      have hcell := (hR.2.2.2.1 a (by omega) (by omega)).2.2
      rw [hc] at hcell
      exact W.iald (v := .int v) X.1 X.2.1 hcell ((nk_tyAt X.2.2.2.2.2.2.1 0 rfl).1 _ _) (fun q => by cases q) (by rw [arrV_size]; exact fun q => q.elim h0 (Nat.not_le.mpr hlt)) (by rw [arrV_read _ _ hlt, ← hv2]; rfl) rfl rfl d (k9 ls hl)
    · exact absurd ((if_neg hm).symm.trans hv) (fun z => nomatch z)
theorem nr_baload {x : Option Nat} {i : Int32} {F : Int32 → Option (nk_H × α)} (d : decode cc pc = .ok (.baload, 1)) (kk : ∀ v, nk_Sim G l own cc nL ret fr lo ini en (pc + 1) lv (.inl v :: st) h (F v)) : nk_Sim G l own cc nL ret fr lo ini en pc lv (.inl i :: .inr x :: st) h ((nk_aI 2 h x i).bind F) := by
  refine nk_bind (fun v hv => nk_pure (fun p e R s m args below meth c H locs cells slots Q ls X hR hl k9 => ?_) (kk v))
  cases x with
  | none => cases hv
  | some a =>
    by_cases hm : nk_K h a = 2 ∧ ¬ i < 0 ∧ i.toNatClampNeg < nk_L h a
    · have hv2 : nk_I h a i.toNatClampNeg = v := Option.some.inj ((if_pos hm).symm.trans hv)
      obtain ⟨hc, h0, hlt⟩ := hm
      have hcell := (hR.2.2.2.1 a (by omega) (by omega)).2.2
      rw [hc] at hcell
      exact W.zald (v := .int v) X.1 X.2.1 hcell ((nk_tyAt X.2.2.2.2.2.2.1 1 rfl).1 _ _) (fun q => by cases q) (by rw [arrV_size]; exact fun q => q.elim h0 (Nat.not_le.mpr hlt)) (by rw [arrV_read _ _ hlt, ← hv2]; rfl) rfl rfl d (k9 ls hl)
    · exact absurd ((if_neg hm).symm.trans hv) (fun z => nomatch z)
theorem nr_aaload (j : Nat) {x : Option Nat} {i : Int32} {F : Option Nat → Option (nk_H × α)} (d : decode cc pc = .ok (.aaload, 1)) (hj : j = 3 ∨ j = 4 ∨ j = 5) (kk : ∀ v, nk_Sim G l own cc nL ret fr lo ini en (pc + 1) lv (.inr v :: st) h (F v)) : nk_Sim G l own cc nL ret fr lo ini en pc lv (.inl i :: .inr x :: st) h ((nk_aP j h x i).bind F) := by
  refine nk_bind (fun v hv => nk_pure (fun p e R s m args below meth c H locs cells slots Q ls X hR hl k9 => ?_) (kk v))
  cases x with
  | none => cases hv
  | some a =>
    by_cases hm : nk_K h a = j ∧ ¬ i < 0 ∧ i.toNatClampNeg < nk_L h a
    · have hv2 : nk_P h a i.toNatClampNeg = v := Option.some.inj ((if_pos hm).symm.trans hv)
      obtain ⟨hc, h0, hlt⟩ := hm
      have hcell := (hR.2.2.2.1 a (by omega) (by omega)).2.2
      rw [hc] at hcell
      rcases hj with rfl | rfl | rfl
      · exact W.aald (v := va_rf v) (ty := .object "NotaryKiosk$Chain") X.1 X.2.1 hcell ((nk_tyAt X.2.2.2.2.2.2.1 2 rfl).1 _ _) rfl (fun q => by cases q) (by rw [arrV_size]; exact fun q => q.elim h0 (Nat.not_le.mpr hlt)) (by rw [arrV_read _ _ hlt, ← hv2]; rfl) rfl rfl d (k9 ls hl)
      · exact W.aald (v := va_rf v) (ty := .object "java/lang/Object") X.1 X.2.1 hcell ((nk_tyAt X.2.2.2.2.2.2.1 3 rfl).1 _ _) rfl (fun q => by cases q) (by rw [arrV_size]; exact fun q => q.elim h0 (Nat.not_le.mpr hlt)) (by rw [arrV_read _ _ hlt, ← hv2]; rfl) rfl rfl d (k9 ls hl)
      · exact W.aald (v := va_rf v) (ty := .array .int) X.1 X.2.1 hcell ((nk_tyAt X.2.2.2.2.2.2.1 4 rfl).1 _ _) rfl (fun q => by cases q) (by rw [arrV_size]; exact fun q => q.elim h0 (Nat.not_le.mpr hlt)) (by rw [arrV_read _ _ hlt, ← hv2]; rfl) rfl rfl d (k9 ls hl)
    · exact absurd ((if_neg hm).symm.trans hv) (fun z => nomatch z)
theorem nr_iastore {x : Option Nat} {i v : Int32} {F : nk_H → Option (nk_H × α)} (d : decode cc pc = .ok (.iastore, 1)) (kk : ∀ h1, nk_Sim G l own cc nL ret fr lo ini en (pc + 1) lv st h1 (F h1)) : nk_Sim G l own cc nL ret fr lo ini en pc lv (.inl v :: .inl i :: .inr x :: st) h ((nk_wI h x i v).bind F) := by
  refine nk_bind (fun h1 hv => ?_)
  cases x with
  | none => cases hv
  | some a =>
    by_cases hm : nk_K h a = 1 ∧ ¬ i < 0 ∧ i.toNatClampNeg < nk_L h a
    · have hv2 : nk_sI h a i.toNatClampNeg v = h1 := Option.some.inj ((if_pos hm).symm.trans hv)
      subst hv2
      obtain ⟨hc, h0, hlt⟩ := hm
      refine nk_heap (nk_N_sI h a _ v) (nk_S_sI h a _ v) (fun p e R s m args below meth c H locs cells slots Q ls X hR hl hq k9 => ?_) (kk _)
      have hA := hR.2.2.2.1 a (by omega) (by omega)
      have hcell := hA.2.2
      have hcell2 := hcell
      rw [hc] at hcell2
      refine W.iast X.1 X.2.1 hcell2 ((nk_tyAt X.2.2.2.2.2.2.1 0 rfl).1 _ _) (fun q => by cases q) (by rw [arrV_size]; exact fun q => q.elim h0 (Nat.not_le.mpr hlt)) rfl rfl d fun H1 e1 z o => ?_
      rw [arrV_store] at e1
      exact k9 H1 _ (nk_R_aI hR (by omega) (by omega) (Or.inl ⟨by omega, rfl⟩) z o (by rw [hc]; exact e1)) (nk_fr_app hq hA.1)
    · exact absurd ((if_neg hm).symm.trans hv) (fun z => nomatch z)
theorem nr_bastore {x : Option Nat} {i v : Int32} {F : nk_H → Option (nk_H × α)} (d : decode cc pc = .ok (.bastore, 1)) (kk : ∀ h1, nk_Sim G l own cc nL ret fr lo ini en (pc + 1) lv st h1 (F h1)) : nk_Sim G l own cc nL ret fr lo ini en pc lv (.inl v :: .inl i :: .inr x :: st) h ((nk_wZ h x i v).bind F) := by
  refine nk_bind (fun h1 hv => ?_)
  cases x with
  | none => cases hv
  | some a =>
    by_cases hm : nk_K h a = 2 ∧ ¬ i < 0 ∧ i.toNatClampNeg < nk_L h a
    · have hv2 : nk_sI h a i.toNatClampNeg (vp_nar .boolean v) = h1 := Option.some.inj ((if_pos hm).symm.trans hv)
      subst hv2
      obtain ⟨hc, h0, hlt⟩ := hm
      refine nk_heap (nk_N_sI h a _ _) (nk_S_sI h a _ _) (fun p e R s m args below meth c H locs cells slots Q ls X hR hl hq k9 => ?_) (kk _)
      have hA := hR.2.2.2.1 a (by omega) (by omega)
      have hcell := hA.2.2
      have hcell2 := hcell
      rw [hc] at hcell2
      refine W.zast X.1 X.2.1 hcell2 ((nk_tyAt X.2.2.2.2.2.2.1 1 rfl).1 _ _) (fun q => by cases q) (by rw [arrV_size]; exact fun q => q.elim h0 (Nat.not_le.mpr hlt)) rfl rfl d fun H1 e1 z o => ?_
      rw [arrV_store] at e1
      exact k9 H1 _ (nk_R_aI hR (by omega) (by omega) (Or.inl ⟨by omega, rfl⟩) z o (by rw [hc]; exact e1)) (nk_fr_app hq hA.1)
    · exact absurd ((if_neg hm).symm.trans hv) (fun z => nomatch z)
theorem nr_alen {x : Option Nat} {F : Int32 → Option (nk_H × α)} (d : decode cc pc = .ok (.arraylength, 1)) (kk : ∀ v, nk_Sim G l own cc nL ret fr lo ini en (pc + 1) lv (.inl v :: st) h (F v)) : nk_Sim G l own cc nL ret fr lo ini en pc lv (.inr x :: st) h ((nk_len h x).bind F) := by
  refine nk_bind (fun v hv => nk_pure (fun p e R s m args below meth c H locs cells slots Q ls X hR hl k9 => ?_) (kk v))
  cases x with
  | none => cases hv
  | some a =>
    by_cases hm : 1 ≤ nk_K h a ∧ nk_K h a ≤ 6
    · have hv2 : Int32.ofNat (nk_L h a) = v := Option.some.inj ((if_pos hm).symm.trans hv)
      have hcell := (hR.2.2.2.1 a hm.1 hm.2).2.2
      have hE : ∃ ty, s.isArrayOf (arrV (nk_gA G (nk_K h a)) (nk_L h a) (nk_el h (nk_K h a) a)) ty := by
        have : nk_K h a = 1 ∨ nk_K h a = 2 ∨ nk_K h a = 3 ∨ nk_K h a = 4 ∨ nk_K h a = 5 ∨ nk_K h a = 6 := by omega
        rcases this with e1 | e1 | e1 | e1 | e1 | e1 <;> rw [e1]
        · exact ⟨_, (nk_tyAt X.2.2.2.2.2.2.1 0 rfl).1 _ _⟩
        · exact ⟨_, (nk_tyAt X.2.2.2.2.2.2.1 1 rfl).1 _ _⟩
        · exact ⟨_, (nk_tyAt X.2.2.2.2.2.2.1 2 rfl).1 _ _⟩
        · exact ⟨_, (nk_tyAt X.2.2.2.2.2.2.1 3 rfl).1 _ _⟩
        · exact ⟨_, (nk_tyAt X.2.2.2.2.2.2.1 4 rfl).1 _ _⟩
        · exact ⟨_, (nk_tyAt X.2.2.2.2.2.2.1 5 rfl).1 _ _⟩
      obtain ⟨ty, hty⟩ := hE
      exact W.alen (n := v) X.1 X.2.1 hcell hty (by rw [arrV_size, ← hv2] <;> rfl) rfl rfl d (k9 ls hl)
    · by_cases hm2 : nk_K h a = 20
      · have hv2 : (0 : Int32) = v := Option.some.inj ((if_pos hm2).symm.trans ((if_neg hm).symm.trans hv))
        have ha : a = nk_gE G := hR.2.2.2.2.2.1 a hm2
        obtain ⟨cell, c1, c2, c3⟩ := X.2.2.2.2.2.2.1.2.2.2.2.2.2.2.1
        have hlt : nk_gE G < (nk_gH G).size := (Array.getElem?_eq_some_iff.mp c1).1
        exact W.alen (n := v) X.1 X.2.1 (by rw [ha, hR.2.2.1 _ hlt]; exact c1) c2 (by rw [c3, ← hv2] <;> rfl) rfl rfl d (k9 ls hl)
      · exact absurd ((if_neg hm2).symm.trans ((if_neg hm).symm.trans hv)) (fun z => nomatch z)
end NKR
