/-! ===== an abstract machine for these classes: its heap (kind, ints, references, length of each address; how many cells, slots), and how it lies in the machine's heap ===== -/
abbrev nk_H : Type := (Nat → Nat) × (Nat → Nat → Int32) × (Nat → Nat → Option Nat) × (Nat → Nat) × Nat × Nat × Nat × Nat
def nk_K (h : nk_H) : Nat → Nat := h.1
def nk_I (h : nk_H) : Nat → Nat → Int32 := h.2.1
def nk_P (h : nk_H) : Nat → Nat → Option Nat := h.2.2.1
def nk_L (h : nk_H) : Nat → Nat := h.2.2.2.1
def nk_N (h : nk_H) : Nat := h.2.2.2.2.1
def nk_S (h : nk_H) : Nat := h.2.2.2.2.2.1
/-- the address of the lists' empty row; of the class object of Object[] -/
def nk_E (h : nk_H) : Nat := h.2.2.2.2.2.2.1
def nk_M (h : nk_H) : Nat := h.2.2.2.2.2.2.2
def nk_u2 {α : Type} (f : Nat → Nat → α) (a k : Nat) (v : α) : Nat → Nat → α := fun x y => if x = a ∧ y = k then v else f x y
def nk_u1 {α : Type} (f : Nat → α) (a : Nat) (v : α) : Nat → α := fun x => if x = a then v else f x
/-- a store of an int, of a reference -/
def nk_sI (h : nk_H) (a k : Nat) (v : Int32) : nk_H := (h.1, nk_u2 h.2.1 a k v, h.2.2)
def nk_sP (h : nk_H) (a k : Nat) (v : Option Nat) : nk_H := (h.1, h.2.1, nk_u2 h.2.2.1 a k v, h.2.2.2)
/-- a new cell of kind c, length n, of w slots -/
def nk_al (h : nk_H) (c n w : Nat) : nk_H := (nk_u1 (nk_K h) (nk_N h) c, nk_u1 (nk_I h) (nk_N h) (fun _ => 0), nk_u1 (nk_P h) (nk_N h) (fun _ => none), nk_u1 (nk_L h) (nk_N h) n, nk_N h + 1, nk_S h + w, nk_E h, nk_M h)
theorem nk_E_sI (h : nk_H) (a k : Nat) (v : Int32) : nk_E (nk_sI h a k v) = nk_E h := rfl
theorem nk_M_sI (h : nk_H) (a k : Nat) (v : Int32) : nk_M (nk_sI h a k v) = nk_M h := rfl
theorem nk_K_sI (h : nk_H) (a k : Nat) (v : Int32) : nk_K (nk_sI h a k v) = nk_K h := rfl
theorem nk_I_sI (h : nk_H) (a k : Nat) (v : Int32) : nk_I (nk_sI h a k v) = nk_u2 (nk_I h) a k v := rfl
theorem nk_P_sI (h : nk_H) (a k : Nat) (v : Int32) : nk_P (nk_sI h a k v) = nk_P h := rfl
theorem nk_L_sI (h : nk_H) (a k : Nat) (v : Int32) : nk_L (nk_sI h a k v) = nk_L h := rfl
theorem nk_N_sI (h : nk_H) (a k : Nat) (v : Int32) : nk_N (nk_sI h a k v) = nk_N h := rfl
theorem nk_S_sI (h : nk_H) (a k : Nat) (v : Int32) : nk_S (nk_sI h a k v) = nk_S h := rfl
theorem nk_E_sP (h : nk_H) (a k : Nat) (v : Option Nat) : nk_E (nk_sP h a k v) = nk_E h := rfl
theorem nk_M_sP (h : nk_H) (a k : Nat) (v : Option Nat) : nk_M (nk_sP h a k v) = nk_M h := rfl
theorem nk_K_sP (h : nk_H) (a k : Nat) (v : Option Nat) : nk_K (nk_sP h a k v) = nk_K h := rfl
theorem nk_I_sP (h : nk_H) (a k : Nat) (v : Option Nat) : nk_I (nk_sP h a k v) = nk_I h := rfl
theorem nk_P_sP (h : nk_H) (a k : Nat) (v : Option Nat) : nk_P (nk_sP h a k v) = nk_u2 (nk_P h) a k v := rfl
theorem nk_L_sP (h : nk_H) (a k : Nat) (v : Option Nat) : nk_L (nk_sP h a k v) = nk_L h := rfl
theorem nk_N_sP (h : nk_H) (a k : Nat) (v : Option Nat) : nk_N (nk_sP h a k v) = nk_N h := rfl
theorem nk_S_sP (h : nk_H) (a k : Nat) (v : Option Nat) : nk_S (nk_sP h a k v) = nk_S h := rfl
theorem nk_E_al (h : nk_H) (c n w : Nat) : nk_E (nk_al h c n w) = nk_E h := rfl
theorem nk_M_al (h : nk_H) (c n w : Nat) : nk_M (nk_al h c n w) = nk_M h := rfl
theorem nk_K_al (h : nk_H) (c n w : Nat) : nk_K (nk_al h c n w) = nk_u1 (nk_K h) (nk_N h) c := rfl
theorem nk_I_al (h : nk_H) (c n w : Nat) : nk_I (nk_al h c n w) = nk_u1 (nk_I h) (nk_N h) (fun _ => 0) := rfl
theorem nk_P_al (h : nk_H) (c n w : Nat) : nk_P (nk_al h c n w) = nk_u1 (nk_P h) (nk_N h) (fun _ => none) := rfl
theorem nk_L_al (h : nk_H) (c n w : Nat) : nk_L (nk_al h c n w) = nk_u1 (nk_L h) (nk_N h) n := rfl
theorem nk_N_al (h : nk_H) (c n w : Nat) : nk_N (nk_al h c n w) = nk_N h + 1 := rfl
theorem nk_S_al (h : nk_H) (c n w : Nat) : nk_S (nk_al h c n w) = nk_S h + w := rfl
theorem nk_u2_eq {α : Type} (f : Nat → Nat → α) (a k : Nat) (v : α) : nk_u2 f a k v a k = v := by simp [nk_u2]
theorem nk_u2_ne {α : Type} (f : Nat → Nat → α) (a k : Nat) (v : α) {x : Nat} (y : Nat) (h : x ≠ a) : nk_u2 f a k v x y = f x y := by simp [nk_u2, h]
theorem nk_u2_nk {α : Type} (f : Nat → Nat → α) (a k : Nat) (v : α) (x : Nat) {y : Nat} (h : y ≠ k) : nk_u2 f a k v x y = f x y := by simp [nk_u2, h]
theorem nk_u1_eq {α : Type} (f : Nat → α) (a : Nat) (v : α) : nk_u1 f a v a = v := by simp [nk_u1]
theorem nk_u1_ne {α : Type} (f : Nat → α) (a : Nat) (v : α) {x : Nat} (h : x ≠ a) : nk_u1 f a v x = f x := by simp [nk_u1, h]
/-- the classes of the objects, by their places: kind = place + 7 -/
abbrev nk_cl : List vw_C := [(RJx4a65c, TJx4a65c, 3), (RX0, TX0, 11), (RX1, TX1, 2), (RX2, TX2, 7), (RX3, TX3, 6), (RX4, TX4, 9), (RX5, TX5, 5), (RX6, TX6, 2), (RX7, TX7, 2), (RX9, TX9, 15), (RX10, TX10, 7), (RX11, TX11, 9), (RX11, TX11, 9)]
/-- which fields are references -/
def nk_rfl : List (List Nat) := [[1], [5, 6, 7, 8], [1], [4, 5], [], [5], [], [0, 1], [0, 1], [5, 7], [5, 6], [0, 1, 2, 3, 4, 6], [0, 1, 2, 3, 4, 6]]
def nk_rf (ci k : Nat) : Bool := (nk_rfl.getD ci []).contains k
def nk_fv (h : nk_H) (ci a k : Nat) : Value := if nk_rf ci k = true then va_rf (nk_P h a k) else .int (nk_I h a k)
/-- arrays: kinds 1 to 6 -/
def nk_el (h : nk_H) (c a j : Nat) : Value := if c ≤ 2 then .int (nk_I h a j) else if c ≤ 5 then va_rf (nk_P h a j) else .long (nk_I h a j).toInt64
def nk_ty (c : Nat) : FieldType := match c with
  | 1 => .int
  | 2 => .boolean
  | 3 => .object "NotaryKiosk$Chain"
  | 4 => .object "java/lang/Object"
  | 5 => .array .int
  | _ => .long
/-- what is fixed: the numbers of the classes and of their fields, of the arrays' classes; the heap of the law's start; the empty row of lists; the script's address, length and ints -/
abbrev nk_G : Type := va_G × (Nat → ClassId) × Heap × Nat × Nat × Nat × (Nat → Int32) × Nat
def nk_gD (G : nk_G) : va_G := G.1
def nk_gA (G : nk_G) : Nat → ClassId := G.2.1
def nk_gH (G : nk_G) : Heap := G.2.2.1
def nk_gE (G : nk_G) : Nat := G.2.2.2.1
def nk_gB (G : nk_G) : Nat := G.2.2.2.2.1
def nk_gL (G : nk_G) : Nat := G.2.2.2.2.2.1
def nk_gX (G : nk_G) : Nat → Int32 := G.2.2.2.2.2.2.1
def nk_gM (G : nk_G) : Nat := G.2.2.2.2.2.2.2
def nk_okA (G : nk_G) (h : nk_H) (H : Heap) : Prop := ∀ a : Nat, 1 ≤ nk_K h a → nk_K h a ≤ 6 → (nk_gH G).size ≤ a ∧ a < nk_N h ∧ H[a]? = some (arrV (nk_gA G (nk_K h a)) (nk_L h a) (nk_el h (nk_K h a) a))
def nk_okO (G : nk_G) (h : nk_H) (H : Heap) : Prop := ∀ (a ci : Nat) (q : vw_C), nk_K h a = ci + 7 → nk_cl[ci]? = some q → (nk_gH G).size ≤ a ∧ a < nk_N h ∧ t_OB a ((nk_gD G).1 ci) q.2.2 ((nk_gD G).2 ci) H (nk_fv h ci a)
def nk_okE (G : nk_G) (h : nk_H) : Prop := (∀ a : Nat, nk_K h a = 20 → a = nk_gE G) ∧ nk_E h = nk_gE G ∧ nk_M h = nk_gM G
def nk_R (G : nk_G) (h : nk_H) (H : Heap) : Prop := H.size = nk_N h ∧ (nk_gH G).size ≤ nk_N h ∧ (∀ a : Nat, a < (nk_gH G).size → H[a]? = (nk_gH G)[a]?) ∧ nk_okA G h H ∧ nk_okO G h H ∧ nk_okE G h
theorem nk_fv_other {h h1 : nk_H} {a : Nat} (ci : Nat) (hI : ∀ j, nk_I h1 a j = nk_I h a j) (hP : ∀ j, nk_P h1 a j = nk_P h a j) : nk_fv h1 ci a = nk_fv h ci a := by
  funext j; unfold nk_fv; rw [hI, hP]
theorem nk_el_other {h h1 : nk_H} {a : Nat} (c : Nat) (hI : ∀ j, nk_I h1 a j = nk_I h a j) (hP : ∀ j, nk_P h1 a j = nk_P h a j) : nk_el h1 c a = nk_el h c a := by
  funext j; unfold nk_el; rw [hI, hP]
/-- one cell of old kind has changed -/
theorem nk_R1 {G : nk_G} {h h1 : nk_H} {H H1 : Heap} {a : Nat} (hR : nk_R G h H) (hE : nk_E h1 = nk_E h ∧ nk_M h1 = nk_M h) (hK : nk_K h1 = nk_K h) (hL : nk_L h1 = nk_L h) (hN : nk_N h1 = nk_N h) (hI : ∀ x j, x ≠ a → nk_I h1 x j = nk_I h x j) (hP : ∀ x j, x ≠ a → nk_P h1 x j = nk_P h x j)
    (z : H1.size = H.size) (o : ∀ x : Nat, x ≠ a → H1[x]? = H[x]?) (ha : (nk_gH G).size ≤ a)
    (cA : 1 ≤ nk_K h a → nk_K h a ≤ 6 → H1[a]? = some (arrV (nk_gA G (nk_K h a)) (nk_L h a) (nk_el h1 (nk_K h a) a)))
    (cO : ∀ (ci : Nat) (q : vw_C), nk_K h a = ci + 7 → nk_cl[ci]? = some q → t_OB a ((nk_gD G).1 ci) q.2.2 ((nk_gD G).2 ci) H1 (nk_fv h1 ci a)) : nk_R G h1 H1 := by
  obtain ⟨r1, r2, r3, r4, r5, r6⟩ := hR
  refine ⟨by rw [z, hN]; exact r1, by rw [hN]; exact r2, fun x hx => by rw [o x (fun e => by omega)]; exact r3 x hx, fun x h1' h2' => ?_, fun x ci q h1' h2' => ?_, ⟨fun x hx => r6.1 x (by rw [← hK]; exact hx), by rw [hE.1]; exact r6.2.1, by rw [hE.2]; exact r6.2.2⟩⟩
  · rw [hK] at h1' h2' ⊢
    obtain ⟨q1, q2, q3⟩ := r4 x h1' h2'
    refine ⟨q1, by rw [hN]; exact q2, ?_⟩
    by_cases e : x = a
    · subst e
      rw [hL]
      exact cA h1' h2'
    · rw [hL, o x e, nk_el_other _ (fun j => hI x j e) (fun j => hP x j e)]
      exact q3
  · rw [hK] at h1'
    obtain ⟨q1, q2, q3⟩ := r5 x ci q h1' h2'
    refine ⟨q1, by rw [hN]; exact q2, ?_⟩
    by_cases e : x = a
    · subst e
      exact cO ci q h1' h2'
    · rw [nk_fv_other _ (fun j => hI x j e) (fun j => hP x j e)]
      exact q3.kept (o x e)
/-- one new cell -/
theorem nk_R_al {G : nk_G} {h : nk_H} {H H1 : Heap} {c n w : Nat} (hR : nk_R G h H) (z : H1.size = H.size + 1) (o : ∀ x : Nat, x < H.size → H1[x]? = H[x]?) (hc : c ≠ 20)
    (cA : 1 ≤ c → c ≤ 6 → H1[nk_N h]? = some (arrV (nk_gA G c) n (nk_el (nk_al h c n w) c (nk_N h))))
    (cO : ∀ (ci : Nat) (q : vw_C), c = ci + 7 → nk_cl[ci]? = some q → t_OB (nk_N h) ((nk_gD G).1 ci) q.2.2 ((nk_gD G).2 ci) H1 (nk_fv (nk_al h c n w) ci (nk_N h))) : nk_R G (nk_al h c n w) H1 := by
  obtain ⟨r1, r2, r3, r4, r5, r6⟩ := hR
  have other : ∀ x : Nat, x ≠ nk_N h → nk_K (nk_al h c n w) x = nk_K h x := fun x e => by rw [nk_K_al, nk_u1_ne _ _ _ e]
  have hIo : ∀ x j, x ≠ nk_N h → nk_I (nk_al h c n w) x j = nk_I h x j := fun x j e => by rw [nk_I_al, nk_u1_ne _ _ _ e]
  have hPo : ∀ x j, x ≠ nk_N h → nk_P (nk_al h c n w) x j = nk_P h x j := fun x j e => by rw [nk_P_al, nk_u1_ne _ _ _ e]
  have hLo : ∀ x, x ≠ nk_N h → nk_L (nk_al h c n w) x = nk_L h x := fun x e => by rw [nk_L_al, nk_u1_ne _ _ _ e]
  have hKs : nk_K (nk_al h c n w) (nk_N h) = c := by rw [nk_K_al, nk_u1_eq]
  have hLs : nk_L (nk_al h c n w) (nk_N h) = n := by rw [nk_L_al, nk_u1_eq]
  have hNs : nk_N (nk_al h c n w) = nk_N h + 1 := rfl
  refine ⟨by rw [z, r1]; rfl, by rw [hNs]; omega, fun x hx => by rw [o x (by omega)]; exact r3 x hx, fun x h1' h2' => ?_, fun x ci q h1' h2' => ?_, ⟨fun x hx => ?_, r6.2.1, r6.2.2⟩⟩
  · by_cases e : x = nk_N h
    · subst e
      rw [hKs] at h1' h2' ⊢
      refine ⟨r2, by rw [hNs]; omega, ?_⟩
      rw [hLs]
      exact cA h1' h2'
    · rw [other x e] at h1' h2' ⊢
      obtain ⟨q1, q2, q3⟩ := r4 x h1' h2'
      refine ⟨q1, by rw [hNs]; omega, ?_⟩
      rw [hLo x e, o x (by omega), nk_el_other _ (fun j => hIo x j e) (fun j => hPo x j e)]
      exact q3
  · by_cases e : x = nk_N h
    · subst e
      rw [hKs] at h1'
      exact ⟨r2, by rw [hNs]; omega, cO ci q h1' h2'⟩
    · rw [other x e] at h1'
      obtain ⟨q1, q2, q3⟩ := r5 x ci q h1' h2'
      refine ⟨q1, by rw [hNs]; omega, ?_⟩
      rw [nk_fv_other _ (fun j => hIo x j e) (fun j => hPo x j e)]
      exact q3.kept (o x (by omega))
  · by_cases e : x = nk_N h
    · subst e
      rw [hKs] at hx
      exact absurd hx hc
    · rw [other x e] at hx
      exact r6.1 x hx
/-- behind the stores -/
theorem nk_R_sI {G : nk_G} {h : nk_H} {H H1 : Heap} {a ci k : Nat} {v : Int32} {q : vw_C} (hR : nk_R G h H) (hk : nk_K h a = ci + 7) (hq : nk_cl[ci]? = some q) (hf : nk_rf ci k = false) (z : H1.size = H.size) (o : ∀ x : Nat, x ≠ a → H1[x]? = H[x]?)
    (hB : t_OB a ((nk_gD G).1 ci) q.2.2 ((nk_gD G).2 ci) H1 (updV (nk_fv h ci a) k (.int v))) : nk_R G (nk_sI h a k v) H1 := by
  refine nk_R1 (a := a) hR ⟨rfl, rfl⟩ rfl rfl rfl (fun x j e => nk_u2_ne _ _ _ _ j e) (fun _ _ _ => rfl) z o (hR.2.2.2.2.1 a ci q hk hq).1 (fun _ h2 => by omega) (fun ci' q' h1 h2 => ?_)
  have e : ci' = ci := by omega
  subst e
  cases hq.symm.trans h2
  refine hB.to (fun j _ => ?_)
  unfold updV nk_fv
  by_cases ej : j = k
  · subst ej
    rw [if_pos rfl, if_neg (by rw [hf]; decide), nk_I_sI, nk_u2_eq]
  · rw [if_neg ej, nk_I_sI, nk_u2_nk _ _ _ _ _ ej]; rfl
theorem nk_R_sP {G : nk_G} {h : nk_H} {H H1 : Heap} {a ci k : Nat} {v : Option Nat} {q : vw_C} (hR : nk_R G h H) (hk : nk_K h a = ci + 7) (hq : nk_cl[ci]? = some q) (hf : nk_rf ci k = true) (z : H1.size = H.size) (o : ∀ x : Nat, x ≠ a → H1[x]? = H[x]?)
    (hB : t_OB a ((nk_gD G).1 ci) q.2.2 ((nk_gD G).2 ci) H1 (updV (nk_fv h ci a) k (va_rf v))) : nk_R G (nk_sP h a k v) H1 := by
  refine nk_R1 (a := a) hR ⟨rfl, rfl⟩ rfl rfl rfl (fun _ _ _ => rfl) (fun x j e => nk_u2_ne _ _ _ _ j e) z o (hR.2.2.2.2.1 a ci q hk hq).1 (fun _ h2 => by omega) (fun ci' q' h1 h2 => ?_)
  have e : ci' = ci := by omega
  subst e
  cases hq.symm.trans h2
  refine hB.to (fun j _ => ?_)
  unfold updV nk_fv
  by_cases ej : j = k
  · subst ej
    rw [if_pos rfl, if_pos hf, nk_P_sP, nk_u2_eq]
  · rw [if_neg ej, nk_P_sP, nk_u2_nk _ _ _ _ _ ej]; rfl
theorem nk_R_aI {G : nk_G} {h : nk_H} {H H1 : Heap} {a j : Nat} {v : Int32} {u : Value} (hR : nk_R G h H) (h1 : 1 ≤ nk_K h a) (h2 : nk_K h a ≤ 6) (hu : (nk_K h a ≤ 2 ∧ u = .int v) ∨ (nk_K h a = 6 ∧ u = .long v.toInt64)) (z : H1.size = H.size) (o : ∀ x : Nat, x ≠ a → H1[x]? = H[x]?)
    (hB : H1[a]? = some (arrV (nk_gA G (nk_K h a)) (nk_L h a) (updV (nk_el h (nk_K h a) a) j u))) : nk_R G (nk_sI h a j v) H1 := by
  refine nk_R1 (a := a) hR ⟨rfl, rfl⟩ rfl rfl rfl (fun x j e => nk_u2_ne _ _ _ _ j e) (fun _ _ _ => rfl) z o (hR.2.2.2.1 a h1 h2).1 (fun _ _ => ?_) (fun ci' q' h1' _ => by omega)
  rw [hB]
  congr 2
  funext x
  unfold updV nk_el
  by_cases ej : x = j
  · subst ej
    rw [if_pos rfl, nk_I_sI, nk_u2_eq]
    rcases hu with ⟨hc, rfl⟩ | ⟨hc, rfl⟩
    · rw [if_pos hc]
    · rw [if_neg (by omega), if_neg (by omega)]
  · rw [if_neg ej, nk_I_sI, nk_u2_nk _ _ _ _ _ ej]; rfl
theorem nk_R_aP {G : nk_G} {h : nk_H} {H H1 : Heap} {a j : Nat} {v : Option Nat} (hR : nk_R G h H) (h1 : 3 ≤ nk_K h a) (h2 : nk_K h a ≤ 5) (z : H1.size = H.size) (o : ∀ x : Nat, x ≠ a → H1[x]? = H[x]?)
    (hB : H1[a]? = some (arrV (nk_gA G (nk_K h a)) (nk_L h a) (updV (nk_el h (nk_K h a) a) j (va_rf v)))) : nk_R G (nk_sP h a j v) H1 := by
  refine nk_R1 (a := a) hR ⟨rfl, rfl⟩ rfl rfl rfl (fun _ _ _ => rfl) (fun x j e => nk_u2_ne _ _ _ _ j e) z o (hR.2.2.2.1 a (by omega) (by omega)).1 (fun _ _ => ?_) (fun ci' q' h1' _ => by omega)
  rw [hB]
  congr 2
  funext x
  unfold updV nk_el
  by_cases ej : x = j
  · subst ej
    rw [if_pos rfl, nk_P_sP, nk_u2_eq, if_neg (by omega), if_pos h2]
  · rw [if_neg ej, nk_P_sP, nk_u2_nk _ _ _ _ _ ej]; rfl
