/-! ===== does, tell, act: by program (wip/p44/gen/gen_act.py) ===== -/
section U2
variable {m : Nat → Nat → Int32} {n w a c hr : Nat}
theorem hsok_all {L hs : nk_Hs} (h : (hs.map Prod.snd).all (fun E => (nk_kx L 1 E).isSome) = true) : hsok L hs := fun E hE => by
  have := List.all_eq_true.mp h E hE
  exact Option.isSome_iff_exists.mp this
theorem ud_join (x y z u : Int32) : UA 1000 m (fun h o => f_L_does h (some o) (Int32.ofNat 0) x y z u) := by
  have U := UA.mk (m := m) (L := hs_L_does) (hs := hs_W_join) (f := fun h o => f_X11_join h o x y) (hsok_all (by decide +kernel)) (fun T => tm_join T x y)
  unfold f_L_does f_L_does_c220
  simp only [if_pos (show Int32.ofNat 0 = 0 by decide)]
  exact U
theorem ud_cut (x y z u : Int32) : UA 1000 m (fun h o => f_L_does h (some o) (Int32.ofNat 1) x y z u) := by
  have U := UA.mk (m := m) (L := hs_L_does) (hs := hs_W_cut) (f := fun h o => f_X11_cut h o x y) (hsok_all (by decide +kernel)) (fun T => tm_cut T x y)
  unfold f_L_does f_L_does_c220
  simp only [if_neg (show ¬ Int32.ofNat 1 = 0 by decide), if_pos (show Int32.ofNat 1 = 1 by decide)]
  exact U
theorem ud_pass (x y z u : Int32) : UA 1000 m (fun h o => f_L_does h (some o) (Int32.ofNat 2) x y z u) := by
  have U := UA.mk (m := m) (L := hs_L_does) (hs := hs_W_pass) (f := fun h o => f_X11_pass h o x) (hsok_all (by decide +kernel)) (fun T => tm_pass T x)
  unfold f_L_does f_L_does_c220
  simp only [if_neg (show ¬ Int32.ofNat 2 = 0 by decide), if_neg (show ¬ Int32.ofNat 2 = 1 by decide), if_pos (show Int32.ofNat 2 = 2 by decide)]
  exact U
theorem ud_read (x y z u : Int32) : UA 1000 m (fun h o => f_L_does h (some o) (Int32.ofNat 3) x y z u) := by
  have U := UA.mk (m := m) (L := hs_L_does) (hs := hs_W_read) (f := fun h o => f_X11_read h o x) (hsok_all (by decide +kernel)) (fun T => tm_read T x)
  unfold f_L_does f_L_does_c220
  simp only [if_neg (show ¬ Int32.ofNat 3 = 0 by decide), if_neg (show ¬ Int32.ofNat 3 = 1 by decide), if_neg (show ¬ Int32.ofNat 3 = 2 by decide), if_pos (show Int32.ofNat 3 = 3 by decide)]
  exact U
theorem ud_grant (x y z u : Int32) : UA 1000 m (fun h o => f_L_does h (some o) (Int32.ofNat 4) x y z u) := by
  have U := UA.mk (m := m) (L := hs_L_does) (hs := hs_W_grant) (f := fun h o => f_X11_grant h o x y z) (hsok_all (by decide +kernel)) (fun T => tm_grant T x y z)
  unfold f_L_does f_L_does_c220
  simp only [if_neg (show ¬ Int32.ofNat 4 = 0 by decide), if_neg (show ¬ Int32.ofNat 4 = 1 by decide), if_neg (show ¬ Int32.ofNat 4 = 2 by decide), if_neg (show ¬ Int32.ofNat 4 = 3 by decide), if_pos (show Int32.ofNat 4 = 4 by decide)]
  exact U
theorem ud_passOn (x y z u : Int32) : UA 1000 m (fun h o => f_L_does h (some o) (Int32.ofNat 5) x y z u) := by
  have U := UA.mk (m := m) (L := hs_L_does) (hs := hs_W_passOn) (f := fun h o => f_X11_passOn h o x y z) (hsok_all (by decide +kernel)) (fun T => tm_passOn T x y z)
  unfold f_L_does f_L_does_c220
  simp only [if_neg (show ¬ Int32.ofNat 5 = 0 by decide), if_neg (show ¬ Int32.ofNat 5 = 1 by decide), if_neg (show ¬ Int32.ofNat 5 = 2 by decide), if_neg (show ¬ Int32.ofNat 5 = 3 by decide), if_neg (show ¬ Int32.ofNat 5 = 4 by decide), if_pos (show Int32.ofNat 5 = 5 by decide)]
  exact U
theorem ud_revoke (x y z u : Int32) : UA 1000 m (fun h o => f_L_does h (some o) (Int32.ofNat 6) x y z u) := by
  have U := UA.mk (m := m) (L := hs_L_does) (hs := hs_W_revoke) (f := fun h o => f_X11_revoke h o x y z) (hsok_all (by decide +kernel)) (fun T => tm_revoke T x y z)
  unfold f_L_does f_L_does_c220
  simp only [if_neg (show ¬ Int32.ofNat 6 = 0 by decide), if_neg (show ¬ Int32.ofNat 6 = 1 by decide), if_neg (show ¬ Int32.ofNat 6 = 2 by decide), if_neg (show ¬ Int32.ofNat 6 = 3 by decide), if_neg (show ¬ Int32.ofNat 6 = 4 by decide), if_neg (show ¬ Int32.ofNat 6 = 5 by decide), if_pos (show Int32.ofNat 6 = 6 by decide)]
  exact U
theorem ud_depute (x y z u : Int32) : UA 1000 m (fun h o => f_L_does h (some o) (Int32.ofNat 7) x y z u) := by
  have U := UA.mk (m := m) (L := hs_L_does) (hs := hs_W_depute) (f := fun h o => f_X11_depute h o x y z) (hsok_all (by decide +kernel)) (fun T => tm_depute T x y z)
  unfold f_L_does f_L_does_c220
  simp only [if_neg (show ¬ Int32.ofNat 7 = 0 by decide), if_neg (show ¬ Int32.ofNat 7 = 1 by decide), if_neg (show ¬ Int32.ofNat 7 = 2 by decide), if_neg (show ¬ Int32.ofNat 7 = 3 by decide), if_neg (show ¬ Int32.ofNat 7 = 4 by decide), if_neg (show ¬ Int32.ofNat 7 = 5 by decide), if_neg (show ¬ Int32.ofNat 7 = 6 by decide), if_pos (show Int32.ofNat 7 = 7 by decide)]
  exact U
theorem ud_act (x y z u : Int32) : UA 1000 m (fun h o => f_L_does h (some o) (Int32.ofNat 8) x y z u) := by
  have U := UA.mk (m := m) (L := hs_L_does) (hs := hs_W_act) (f := fun h o => f_X11_act h o x y z u) (hsok_all (by decide +kernel)) (fun T => tm_act T x y z u)
  unfold f_L_does f_L_does_c220
  simp only [if_neg (show ¬ Int32.ofNat 8 = 0 by decide), if_neg (show ¬ Int32.ofNat 8 = 1 by decide), if_neg (show ¬ Int32.ofNat 8 = 2 by decide), if_neg (show ¬ Int32.ofNat 8 = 3 by decide), if_neg (show ¬ Int32.ofNat 8 = 4 by decide), if_neg (show ¬ Int32.ofNat 8 = 5 by decide), if_neg (show ¬ Int32.ofNat 8 = 6 by decide), if_neg (show ¬ Int32.ofNat 8 = 7 by decide), if_pos (show Int32.ofNat 8 = 8 by decide)]
  exact U
theorem ud_tamper (x y z u : Int32) : UA 1000 m (fun h o => f_L_does h (some o) (Int32.ofNat 9) x y z u) := by
  have U := UA.mk (m := m) (L := hs_L_does) (hs := hs_W_tamper) (f := fun h o => f_X11_tamper h o x y z) (hsok_all (by decide +kernel)) (fun T => tm_tamper T x y z)
  unfold f_L_does f_L_does_c220
  simp only [if_neg (show ¬ Int32.ofNat 9 = 0 by decide), if_neg (show ¬ Int32.ofNat 9 = 1 by decide), if_neg (show ¬ Int32.ofNat 9 = 2 by decide), if_neg (show ¬ Int32.ofNat 9 = 3 by decide), if_neg (show ¬ Int32.ofNat 9 = 4 by decide), if_neg (show ¬ Int32.ofNat 9 = 5 by decide), if_neg (show ¬ Int32.ofNat 9 = 6 by decide), if_neg (show ¬ Int32.ofNat 9 = 7 by decide), if_neg (show ¬ Int32.ofNat 9 = 8 by decide), if_pos (show Int32.ofNat 9 = 9 by decide)]
  exact U
theorem ud_copy (x y z u : Int32) : UA 1000 m (fun h o => f_L_does h (some o) (Int32.ofNat 10) x y z u) := by
  have U := UA.mk (m := m) (L := hs_L_does) (hs := hs_W_copy) (f := fun h o => f_X11_copy h o x y z u) (hsok_all (by decide +kernel)) (fun T => tm_copy T x y z u)
  unfold f_L_does f_L_does_c220
  simp only [if_neg (show ¬ Int32.ofNat 10 = 0 by decide), if_neg (show ¬ Int32.ofNat 10 = 1 by decide), if_neg (show ¬ Int32.ofNat 10 = 2 by decide), if_neg (show ¬ Int32.ofNat 10 = 3 by decide), if_neg (show ¬ Int32.ofNat 10 = 4 by decide), if_neg (show ¬ Int32.ofNat 10 = 5 by decide), if_neg (show ¬ Int32.ofNat 10 = 6 by decide), if_neg (show ¬ Int32.ofNat 10 = 7 by decide), if_neg (show ¬ Int32.ofNat 10 = 8 by decide), if_neg (show ¬ Int32.ofNat 10 = 9 by decide), if_pos (show Int32.ofNat 10 = 10 by decide)]
  exact U
theorem ud_forge (x y z u : Int32) : UA 1000 m (fun h o => f_L_does h (some o) (Int32.ofNat 11) x y z u) := by
  have U := UA.mk (m := m) (L := hs_L_does) (hs := hs_W_forge) (f := fun h o => f_X11_forge h o x y z u) (hsok_all (by decide +kernel)) (fun T => tm_forge T x y z u)
  unfold f_L_does f_L_does_c220
  simp only [if_neg (show ¬ Int32.ofNat 11 = 0 by decide), if_neg (show ¬ Int32.ofNat 11 = 1 by decide), if_neg (show ¬ Int32.ofNat 11 = 2 by decide), if_neg (show ¬ Int32.ofNat 11 = 3 by decide), if_neg (show ¬ Int32.ofNat 11 = 4 by decide), if_neg (show ¬ Int32.ofNat 11 = 5 by decide), if_neg (show ¬ Int32.ofNat 11 = 6 by decide), if_neg (show ¬ Int32.ofNat 11 = 7 by decide), if_neg (show ¬ Int32.ofNat 11 = 8 by decide), if_neg (show ¬ Int32.ofNat 11 = 9 by decide), if_neg (show ¬ Int32.ofNat 11 = 10 by decide), if_pos (show Int32.ofNat 11 = 11 by decide)]
  exact U
theorem UA.does {v : Int32} (hv : ∃ k, k < 12 ∧ v = Int32.ofNat k) (x y z u : Int32) : UA 1000 m (fun h o => f_L_does h (some o) v x y z u) := by
  obtain ⟨k, hk, rfl⟩ := hv
  match k, hk with
  | 0, _ => exact ud_join x y z u
  | 1, _ => exact ud_cut x y z u
  | 2, _ => exact ud_pass x y z u
  | 3, _ => exact ud_read x y z u
  | 4, _ => exact ud_grant x y z u
  | 5, _ => exact ud_passOn x y z u
  | 6, _ => exact ud_revoke x y z u
  | 7, _ => exact ud_depute x y z u
  | 8, _ => exact ud_act x y z u
  | 9, _ => exact ud_tamper x y z u
  | 10, _ => exact ud_copy x y z u
  | 11, _ => exact ud_forge x y z u
  | k + 12, hk => omega
theorem UA.tell (d x y z u v : Int32) : UA 1000 m (fun h o => f_L_tell h (some o) d x y z u v) := by
  unfold f_L_tell f_L_tells f_L_tells_c25
  by_cases hd : d = 0
  · have U := UA.mkV (m := m) (L := hs_L_tell) (hs := hs_W_prepare) (f := fun h o => f_X11_prepare h o x y) (hsok_all (by decide +kernel)) (fun T => tm_prepare T x y)
    simp only [if_pos hd]
    exact U
  · have U := UA.mkV (m := m) (L := hs_L_tell) (hs := hs_W_draft) (f := fun h o => f_X11_draft h o x y z u v) (hsok_all (by decide +kernel)) (fun T => tm_draft T x y z u v)
    simp only [if_neg hd]
    exact U
theorem ua_act_c148 (I : Inv m n w a c hr) (s0 : Int32) (s1 : Int32) (s2 : Int32) (s3 : Int32) (L_s0 : ∃ k, (0 < k ∧ k < 2147483648) ∧ s0 = Int32.ofNat k) (H_s3 : ∃ k, k < 12 ∧ s3 = Int32.ofNat k) : UA 1000 m (fun h o => f_L_act_c148 h s0 s1 s2 s3 (some o)) := by
  have hw := I.1.2.2.2.1
  unfold f_L_act_c148
  refine UA.low (L_s0.choose_spec.2) L_s0.choose_spec.1.1 L_s0.choose_spec.1.2 (fun j1 hj1 => ?_)
  exact (UA.ret (UA.does H_s3 _ _ _ _)).up (by decide)
theorem ua_act_c132 (I : Inv m n w a c hr) (v1 : Int32) (v2 : Int32) (v4 : Int32) (s0 : Int32) (H_s0 : ∃ k, k < 12 ∧ s0 = Int32.ofNat k) : UA 1000 m (fun h o => f_L_act_c132 h v1 v2 v4 s0 (some o)) := by
  have hw := I.1.2.2.2.1
  unfold f_L_act_c132
  refine UA.ite (fun c1 => ?_) (fun c1 => ?_)
  · exact (ua_act_c148 I _ _ _ _ ⟨4, ⟨by decide, by decide⟩, rfl⟩ H_s0).up (by decide)
  · exact (ua_act_c148 I _ _ _ _ ⟨8, ⟨by decide, by decide⟩, rfl⟩ H_s0).up (by decide)
theorem ua_act_c197 (I : Inv m n w a c hr) (s0 : Int32) (s1 : Int32) (H_s1 : ∃ k, k < 12 ∧ s1 = Int32.ofNat k) : UA 1000 m (fun h o => f_L_act_c197 h s0 s1 (some o)) := by
  have hw := I.1.2.2.2.1
  unfold f_L_act_c197 f_L_act_c216
  exact (UA.ret (UA.does H_s1 _ _ _ _)).up (by decide)
theorem ua_act_c288 (I : Inv m n w a c hr) (s0 : Int32) (s1 : Int32) (s2 : Int32) : UA 1000 m (fun h o => f_L_act_c288 h s0 s1 s2 (some o)) := by
  have hw := I.1.2.2.2.1
  unfold f_L_act_c288 f_L_act_c414
  exact (UA.ret (UA.tell _ _ _ _ _ _)).up (by decide)
theorem ua_act_c262 (I : Inv m n w a c hr) (v1 : Int32) (v2 : Int32) (s0 : Int32) (s1 : Int32) : UA 1000 m (fun h o => f_L_act_c262 h v1 v2 s0 s1 (some o)) := by
  have hw := I.1.2.2.2.1
  unfold f_L_act_c262
  refine UA.ite (fun c1 => ?_) (fun c1 => ?_)
  · refine UA.low rfl (k := 3) (by decide) (by decide) (fun j1 hj1 => ?_)
    exact (ua_act_c288 I _ _ _).up (by decide)
  · refine UA.low rfl (k := 9) (by decide) (by decide) (fun j2 hj2 => ?_)
    exact (ua_act_c288 I _ _ _).up (by decide)
theorem ua_act_c411 (I : Inv m n w a c hr) (s0 : Int32) (s1 : Int32) (s2 : Int32) (s3 : Int32) (s4 : Int32) (s5 : Int32) : UA 1000 m (fun h o => f_L_act_c411 h s0 s1 s2 s3 s4 s5 (some o)) := by
  have hw := I.1.2.2.2.1
  unfold f_L_act_c411 f_L_act_c414
  exact (UA.ret (UA.tell _ _ _ _ _ _)).up (by decide)
theorem ua_act_c384 (I : Inv m n w a c hr) (v1 : Int32) (v2 : Int32) (s0 : Int32) (s1 : Int32) (s2 : Int32) (s3 : Int32) (s4 : Int32) (s5 : Int32) (L_s0 : ∃ k, (0 < k ∧ k < 2147483648) ∧ s0 = Int32.ofNat k) : UA 1000 m (fun h o => f_L_act_c384 h v1 v2 s0 s1 s2 s3 s4 s5 (some o)) := by
  have hw := I.1.2.2.2.1
  unfold f_L_act_c384
  refine UA.low (L_s0.choose_spec.2) L_s0.choose_spec.1.1 L_s0.choose_spec.1.2 (fun j1 hj1 => ?_)
  refine UA.ite (fun c1 => ?_) (fun c1 => ?_)
  · exact (ua_act_c411 I _ _ _ _ _ _).up (by decide)
  · refine UA.low rfl (k := 7) (by decide) (by decide) (fun j2 hj2 => ?_)
    exact (ua_act_c411 I _ _ _ _ _ _).up (by decide)
theorem ua_act_c364 (I : Inv m n w a c hr) (v1 : Int32) (v2 : Int32) (s0 : Int32) (s1 : Int32) (s2 : Int32) (s3 : Int32) (s4 : Int32) (s5 : Int32) (L_s0 : ∃ k, (0 < k ∧ k < 2147483648) ∧ s0 = Int32.ofNat k) : UA 1000 m (fun h o => f_L_act_c364 h v1 v2 s0 s1 s2 s3 s4 s5 (some o)) := by
  have hw := I.1.2.2.2.1
  unfold f_L_act_c364
  refine UA.low (L_s0.choose_spec.2) L_s0.choose_spec.1.1 L_s0.choose_spec.1.2 (fun j1 hj1 => ?_)
  refine UA.ite (fun c1 => ?_) (fun c1 => ?_)
  · exact (ua_act_c384 I _ _ _ _ _ _ _ _ ⟨30, ⟨by decide, by decide⟩, rfl⟩).up (by decide)
  · exact (ua_act_c384 I _ _ _ _ _ _ _ _ ⟨420, ⟨by decide, by decide⟩, rfl⟩).up (by decide)
theorem ua_act_c343 (I : Inv m n w a c hr) (v1 : Int32) (v2 : Int32) (s0 : Int32) (s1 : Int32) (s2 : Int32) (s3 : Int32) (s4 : Int32) (L_s0 : ∃ k, (0 < k ∧ k < 2147483648) ∧ s0 = Int32.ofNat k) : UA 1000 m (fun h o => f_L_act_c343 h v1 v2 s0 s1 s2 s3 s4 (some o)) := by
  have hw := I.1.2.2.2.1
  unfold f_L_act_c343
  refine UA.low (L_s0.choose_spec.2) L_s0.choose_spec.1.1 L_s0.choose_spec.1.2 (fun j1 hj1 => ?_)
  refine UA.ite (fun c1 => ?_) (fun c1 => ?_)
  · exact (ua_act_c364 I _ _ _ _ _ _ _ _ ⟨20000, ⟨by decide, by decide⟩, rfl⟩).up (by decide)
  · exact (ua_act_c364 I _ _ _ _ _ _ _ _ ⟨110000, ⟨by decide, by decide⟩, rfl⟩).up (by decide)
theorem ua_act_c325 (I : Inv m n w a c hr) (v1 : Int32) (v2 : Int32) (s0 : Int32) (s1 : Int32) : UA 1000 m (fun h o => f_L_act_c325 h v1 v2 s0 s1 (some o)) := by
  have hw := I.1.2.2.2.1
  unfold f_L_act_c325
  refine UA.ite (fun c1 => ?_) (fun c1 => ?_)
  · exact (ua_act_c343 I _ _ _ _ _ _ _ ⟨5000, ⟨by decide, by decide⟩, rfl⟩).up (by decide)
  · exact (ua_act_c343 I _ _ _ _ _ _ _ ⟨11000, ⟨by decide, by decide⟩, rfl⟩).up (by decide)
theorem ua_act_c557 (I : Inv m n w a c hr) (v4 : Int32) (v7 : Int32) (v8 : Int32) (s0 : Int32) (H_v7 : ∃ k, k < 12 ∧ v7 = Int32.ofNat k) : UA 1000 m (fun h o => f_L_act_c557 h (some o) v4 v7 v8 s0) := by
  have hw := I.1.2.2.2.1
  unfold f_L_act_c557
  exact (UA.ret (UA.does H_v7 _ _ _ _)).up (by decide)
theorem ua_act_c533 (I : Inv m n w a c hr) (v4 : Int32) (v7 : Int32) (v8 : Int32) (s0 : Int32) (s1 : Int32) (H_v7 : ∃ k, k < 12 ∧ v7 = Int32.ofNat k) (L_s0 : ∃ k, (0 < k ∧ k < 2147483648) ∧ s0 = Int32.ofNat k) : UA 1000 m (fun h o => f_L_act_c533 h (some o) v4 v7 v8 s0 s1) := by
  have hw := I.1.2.2.2.1
  unfold f_L_act_c533
  refine UA.low (L_s0.choose_spec.2) L_s0.choose_spec.1.1 L_s0.choose_spec.1.2 (fun j1 hj1 => ?_)
  exact (ua_act_c557 I _ _ _ _ H_v7).up (by decide)
theorem ua_act_c554 (I : Inv m n w a c hr) (v4 : Int32) (v7 : Int32) (v8 : Int32) (s0 : Int32) (s1 : Int32) (H_v7 : ∃ k, k < 12 ∧ v7 = Int32.ofNat k) (L_s0 : ∃ k, (0 < k ∧ k < 2147483648) ∧ s0 = Int32.ofNat k) : UA 1000 m (fun h o => f_L_act_c554 h (some o) v4 v7 v8 s0 s1) := by
  have hw := I.1.2.2.2.1
  unfold f_L_act_c554
  refine UA.low (L_s0.choose_spec.2) L_s0.choose_spec.1.1 L_s0.choose_spec.1.2 (fun j1 hj1 => ?_)
  exact (ua_act_c557 I _ _ _ _ H_v7).up (by decide)
theorem ua_act_c497 (I : Inv m n w a c hr) (v1 : Int32) (v2 : Int32) (v4 : Int32) (v6 : Int32) (v7 : Int32) (s0 : Int32) (H_v7 : ∃ k, k < 12 ∧ v7 = Int32.ofNat k) : UA 1000 m (fun h o => f_L_act_c497 h (some o) v1 v2 v4 v6 v7 s0) := by
  have hw := I.1.2.2.2.1
  unfold f_L_act_c497
  refine UA.ite (fun c1 => ?_) (fun c1 => ?_)
  · exact (ua_act_c557 I _ _ _ _ H_v7).up (by decide)
  · refine UA.ite (fun c2 => ?_) (fun c2 => ?_)
    · refine UA.ite (fun c3 => ?_) (fun c3 => ?_)
      · exact (ua_act_c533 I _ _ _ _ _ H_v7 ⟨8, ⟨by decide, by decide⟩, rfl⟩).up (by decide)
      · exact (ua_act_c533 I _ _ _ _ _ H_v7 ⟨110, ⟨by decide, by decide⟩, rfl⟩).up (by decide)
    · refine UA.ite (fun c4 => ?_) (fun c4 => ?_)
      · exact (ua_act_c554 I _ _ _ _ _ H_v7 ⟨6, ⟨by decide, by decide⟩, rfl⟩).up (by decide)
      · exact (ua_act_c554 I _ _ _ _ _ H_v7 ⟨12, ⟨by decide, by decide⟩, rfl⟩).up (by decide)
theorem ua_act_c489 (I : Inv m n w a c hr) (v1 : Int32) (v2 : Int32) (v4 : Int32) (v6 : Int32) (v7 : Int32) (s0 : Int32) (s1 : Int32) (H_v7 : ∃ k, k < 12 ∧ v7 = Int32.ofNat k) (L_s0 : ∃ k, (0 < k ∧ k < 2147483648) ∧ s0 = Int32.ofNat k) : UA 1000 m (fun h o => f_L_act_c489 h (some o) v1 v2 v4 v6 v7 s0 s1) := by
  have hw := I.1.2.2.2.1
  unfold f_L_act_c489
  refine UA.low (L_s0.choose_spec.2) L_s0.choose_spec.1.1 L_s0.choose_spec.1.2 (fun j1 hj1 => ?_)
  exact (ua_act_c497 I _ _ _ _ _ _ H_v7).up (by decide)
theorem ua_act_c454 (I : Inv m n w a c hr) (v1 : Int32) (v2 : Int32) (v4 : Int32) (v5 : Int32) (v6 : Int32) (s0 : Int32) (H_s0 : ∃ k, k < 12 ∧ s0 = Int32.ofNat k) : UA 1000 m (fun h o => f_L_act_c454 h (some o) v1 v2 v4 v5 v6 s0) := by
  have hw := I.1.2.2.2.1
  unfold f_L_act_c454
  refine UA.ite (fun c1 => ?_) (fun c1 => ?_)
  · exact (ua_act_c497 I _ _ _ _ _ _ H_s0).up (by decide)
  · refine UA.ite (fun c2 => ?_) (fun c2 => ?_)
    · refine UA.ite (fun c3 => ?_) (fun c3 => ?_)
      · exact (ua_act_c489 I _ _ _ _ _ _ _ H_s0 ⟨6, ⟨by decide, by decide⟩, rfl⟩).up (by decide)
      · exact (ua_act_c489 I _ _ _ _ _ _ _ H_s0 ⟨110, ⟨by decide, by decide⟩, rfl⟩).up (by decide)
    · exact (ua_act_c497 I _ _ _ _ _ _ H_s0).up (by decide)
theorem ua_act_c652 (I : Inv m n w a c hr) (s0 : Int32) (s1 : Int32) (s2 : Int32) (s3 : Int32) (s4 : Int32) (H_s4 : ∃ k, k < 12 ∧ s4 = Int32.ofNat k) : UA 1000 m (fun h o => f_L_act_c652 h s0 s1 s2 s3 s4 (some o)) := by
  have hw := I.1.2.2.2.1
  unfold f_L_act_c652
  exact (UA.ret (UA.does H_s4 _ _ _ _)).up (by decide)
theorem ua_act_c612 (I : Inv m n w a c hr) (v1 : Int32) (v2 : Int32) (v4 : Int32) (v6 : Int32) (s0 : Int32) : UA 1000 m (fun h o => f_L_act_c612 h (some o) v1 v2 v4 v6 s0) := by
  have hw := I.1.2.2.2.1
  unfold f_L_act_c612
  refine UA.ite (fun c1 => ?_) (fun c1 => ?_)
  · refine UA.low rfl (k := 3000) (by decide) (by decide) (fun j1 hj1 => ?_)
    exact (ua_act_c652 I _ _ _ _ _ ⟨8, by decide, rfl⟩).up (by decide)
  · refine UA.low rfl (k := 11000) (by decide) (by decide) (fun j2 hj2 => ?_)
    exact (ua_act_c652 I _ _ _ _ _ ⟨8, by decide, rfl⟩).up (by decide)
theorem ua_act_c610 (I : Inv m n w a c hr) (v1 : Int32) (v2 : Int32) (v4 : Int32) (v5 : Int32) (v6 : Int32) : UA 1000 m (fun h o => f_L_act_c610 h (some o) v1 v2 v4 v5 v6) := by
  have hw := I.1.2.2.2.1
  unfold f_L_act_c610
  exact (ua_act_c612 I _ _ _ _ _).up (by decide)
theorem ua_act_c704 (I : Inv m n w a c hr) (s0 : Int32) (s1 : Int32) (s2 : Int32) (s3 : Int32) (H_s3 : ∃ k, k < 12 ∧ s3 = Int32.ofNat k) : UA 1000 m (fun h o => f_L_act_c704 h s0 s1 s2 s3 (some o)) := by
  have hw := I.1.2.2.2.1
  unfold f_L_act_c704 f_L_act_c848
  exact (UA.ret (UA.does H_s3 _ _ _ _)).up (by decide)
theorem ua_act_c766 (I : Inv m n w a c hr) (s0 : Int32) (s1 : Int32) (s2 : Int32) (s3 : Int32) (s4 : Int32) (H_s4 : ∃ k, k < 12 ∧ s4 = Int32.ofNat k) : UA 1000 m (fun h o => f_L_act_c766 h s0 s1 s2 s3 s4 (some o)) := by
  have hw := I.1.2.2.2.1
  unfold f_L_act_c766 f_L_act_c848
  exact (UA.ret (UA.does H_s4 _ _ _ _)).up (by decide)
theorem ua_act_c845 (I : Inv m n w a c hr) (s0 : Int32) (s1 : Int32) (s2 : Int32) (s3 : Int32) (s4 : Int32) (H_s4 : ∃ k, k < 12 ∧ s4 = Int32.ofNat k) : UA 1000 m (fun h o => f_L_act_c845 h s0 s1 s2 s3 s4 (some o)) := by
  have hw := I.1.2.2.2.1
  unfold f_L_act_c845 f_L_act_c848
  exact (UA.ret (UA.does H_s4 _ _ _ _)).up (by decide)
theorem ua_act_c815 (I : Inv m n w a c hr) (v1 : Int32) (v2 : Int32) (s0 : Int32) (s1 : Int32) (s2 : Int32) (s3 : Int32) (s4 : Int32) (L_s0 : ∃ k, (0 < k ∧ k < 2147483648) ∧ s0 = Int32.ofNat k) (H_s4 : ∃ k, k < 12 ∧ s4 = Int32.ofNat k) : UA 1000 m (fun h o => f_L_act_c815 h v1 v2 s0 s1 s2 s3 s4 (some o)) := by
  have hw := I.1.2.2.2.1
  unfold f_L_act_c815
  refine UA.low (L_s0.choose_spec.2) L_s0.choose_spec.1.1 L_s0.choose_spec.1.2 (fun j1 hj1 => ?_)
  refine UA.ite (fun c1 => ?_) (fun c1 => ?_)
  · refine UA.low rfl (k := 10001) (by decide) (by decide) (fun j2 hj2 => ?_)
    exact (ua_act_c845 I _ _ _ _ _ H_s4).up (by decide)
  · refine UA.low rfl (k := 11000) (by decide) (by decide) (fun j3 hj3 => ?_)
    exact (ua_act_c845 I _ _ _ _ _ H_s4).up (by decide)
theorem ua_act_c789 (I : Inv m n w a c hr) (v1 : Int32) (v2 : Int32) (s0 : Int32) (s1 : Int32) (s2 : Int32) (L_s0 : ∃ k, (0 < k ∧ k < 2147483648) ∧ s0 = Int32.ofNat k) (H_s2 : ∃ k, k < 12 ∧ s2 = Int32.ofNat k) : UA 1000 m (fun h o => f_L_act_c789 h v1 v2 s0 s1 s2 (some o)) := by
  have hw := I.1.2.2.2.1
  unfold f_L_act_c789
  refine UA.low (L_s0.choose_spec.2) L_s0.choose_spec.1.1 L_s0.choose_spec.1.2 (fun j1 hj1 => ?_)
  refine UA.low rfl (k := 3) (by decide) (by decide) (fun j2 hj2 => ?_)
  refine UA.ite (fun c1 => ?_) (fun c1 => ?_)
  · exact (ua_act_c815 I _ _ _ _ _ _ _ ⟨6, ⟨by decide, by decide⟩, rfl⟩ H_s2).up (by decide)
  · exact (ua_act_c815 I _ _ _ _ _ _ _ ⟨8, ⟨by decide, by decide⟩, rfl⟩ H_s2).up (by decide)
theorem ua_act_c112 (I : Inv m n w a c hr) (v1 : Int32) (v2 : Int32) (v3 : Int32) (v4 : Int32) (v5 : Int32) (s0 : Int32) (hs : v2 = 0 → ¬ s0 < 0) : UA 1010 m (fun h o => f_L_act_c112 h (some o) v1 v2 v3 v4 v5 s0) := by
  have hw := I.1.2.2.2.1
  unfold f_L_act_c112 f_L_act_c216
  refine UA.ite (fun c1 => ?_) (fun c1 => ?_)
  · refine UA.ite (fun c2 => ?_) (fun c2 => ?_)
    · refine UA.ite (fun c3 => ?_) (fun c3 => ?_)
      · refine UA.ite (fun c4 => ?_) (fun c4 => ?_)
        · refine UA.ite (fun c5 => ?_) (fun c5 => ?_)
          · refine UA.ite (fun c6 => ?_) (fun c6 => ?_)
            · refine UA.low rfl (k := 4) (by decide) (by decide) (fun j1 hj1 => ?_)
              refine UA.ite (fun c7 => ?_) (fun c7 => ?_)
              · refine UA.low rfl (k := 10000) (by decide) (by decide) (fun j2 hj2 => ?_)
                exact (ua_act_c704 I _ _ _ _ ⟨9, by decide, rfl⟩).up (by decide)
              · refine UA.low rfl (k := 11000) (by decide) (by decide) (fun j3 hj3 => ?_)
                exact (ua_act_c704 I _ _ _ _ ⟨9, by decide, rfl⟩).up (by decide)
            · refine UA.ite (fun c8 => ?_) (fun c8 => ?_)
              · refine UA.ite (fun c9 => ?_) (fun c9 => ?_)
                · exact (ua_act_c789 I _ _ _ _ _ ⟨4, ⟨by decide, by decide⟩, rfl⟩ ⟨11, by decide, rfl⟩).up (by decide)
                · exact (ua_act_c789 I _ _ _ _ _ ⟨14, ⟨by decide, by decide⟩, rfl⟩ ⟨11, by decide, rfl⟩).up (by decide)
              · refine UA.low rfl (k := 4) (by decide) (by decide) (fun j4 hj4 => ?_)
                refine UA.low rfl (k := 5) (by decide) (by decide) (fun j5 hj5 => ?_)
                refine UA.ite (fun c10 => ?_) (fun c10 => ?_)
                · refine UA.low rfl (k := 64) (by decide) (by decide) (fun j6 hj6 => ?_)
                  exact (ua_act_c766 I _ _ _ _ _ ⟨10, by decide, rfl⟩).up (by decide)
                · refine UA.low rfl (k := 80) (by decide) (by decide) (fun j7 hj7 => ?_)
                  exact (ua_act_c766 I _ _ _ _ _ ⟨10, by decide, rfl⟩).up (by decide)
          · refine UA.ite (fun c11 => ?_) (fun c11 => ?_)
            · refine UA.powers I ?_ (Nat.le_refl _) (b := 1005)
              refine UA.ite (fun c12 => ?_) (fun c12 => ?_)
              · exact (ua_act_c610 I _ _ _ _ _).up (by decide)
              · refine UA.ite (fun c13 => ?_) (fun c13 => ?_)
                · exact (ua_act_c610 I _ _ _ _ _).up (by decide)
                · obtain ⟨q, rfl, hq⟩ : ∃ q, s0 = Int32.ofNat q ∧ q < w := ia_ex (by omega) (hs c11) (Int32.not_le.mp c12)
                  refine UA.holder I hq ?_ (Nat.le_refl _) (b := 1000)
                  exact (ua_act_c612 I _ _ _ _ _).up (by decide)
            · exact (ua_act_c610 I _ _ _ _ _).up (by decide)
        · refine UA.ite (fun c14 => ?_) (fun c14 => ?_)
          · refine UA.ite (fun c15 => ?_) (fun c15 => ?_)
            · refine UA.ite (fun c16 => ?_) (fun c16 => ?_)
              · exact (ua_act_c454 I _ _ _ _ _ _ ⟨7, by decide, rfl⟩).up (by decide)
              · exact (ua_act_c454 I _ _ _ _ _ _ ⟨6, by decide, rfl⟩).up (by decide)
            · exact (ua_act_c454 I _ _ _ _ _ _ ⟨5, by decide, rfl⟩).up (by decide)
          · exact (ua_act_c454 I _ _ _ _ _ _ ⟨4, by decide, rfl⟩).up (by decide)
      · refine UA.ite (fun c17 => ?_) (fun c17 => ?_)
        · refine UA.ite (fun c18 => ?_) (fun c18 => ?_)
          · refine UA.ite (fun c19 => ?_) (fun c19 => ?_)
            · exact (ua_act_c262 I _ _ _ _).up (by decide)
            · exact (ua_act_c262 I _ _ _ _).up (by decide)
          · refine UA.low rfl (k := 4) (by decide) (by decide) (fun j8 hj8 => ?_)
            exact (ua_act_c262 I _ _ _ _).up (by decide)
        · refine UA.ite (fun c20 => ?_) (fun c20 => ?_)
          · refine UA.low rfl (k := 32) (by decide) (by decide) (fun j9 hj9 => ?_)
            exact (ua_act_c325 I _ _ _ _).up (by decide)
          · refine UA.low rfl (k := 70) (by decide) (by decide) (fun j10 hj10 => ?_)
            exact (ua_act_c325 I _ _ _ _).up (by decide)
    · refine UA.ite (fun c21 => ?_) (fun c21 => ?_)
      · exact (UA.ret (UA.does ⟨3, by decide, rfl⟩ _ _ _ _)).up (by decide)
      · refine UA.ite (fun c22 => ?_) (fun c22 => ?_)
        · refine UA.low rfl (k := 3) (by decide) (by decide) (fun j11 hj11 => ?_)
          exact (ua_act_c197 I _ _ ⟨2, by decide, rfl⟩).up (by decide)
        · refine UA.low rfl (k := 55) (by decide) (by decide) (fun j12 hj12 => ?_)
          exact (ua_act_c197 I _ _ ⟨2, by decide, rfl⟩).up (by decide)
  · refine UA.ite (fun c23 => ?_) (fun c23 => ?_)
    · exact (ua_act_c132 I _ _ _ _ ⟨1, by decide, rfl⟩).up (by decide)
    · exact (ua_act_c132 I _ _ _ _ ⟨0, by decide, rfl⟩).up (by decide)
theorem ua_act_c79 (I : Inv m n w a c hr) (v1 : Int32) (v2 : Int32) (v3 : Int32) (v4 : Int32) (s0 : Int32) : UA 1015 m (fun h o => f_L_act_c79 h (some o) v1 v2 v3 v4 s0) := by
  have hw := I.1.2.2.2.1
  unfold f_L_act_c79
  refine UA.ite (fun c1 => ?_) (fun c1 => ?_)
  · refine UA.powers I ?_ (Nat.le_refl _) (b := 1010)
    refine UA.low (ia_1 w) (Nat.succ_pos w) (by omega) (fun j1 hj1 => ?_)
    exact (ua_act_c112 I _ _ _ _ _ _ (fun _ => ia_n0 (by omega))).up (by decide)
  · refine UA.low rfl (k := 44) (by decide) (by decide) (fun j2 hj2 => ?_)
    exact (ua_act_c112 I _ _ _ _ _ _ (fun z => absurd z c1)).up (by decide)
theorem ua_act_c51 (I : Inv m n w a c hr) (v1 : Int32) (v2 : Int32) (v3 : Int32) (s0 : Int32) : UA 1015 m (fun h o => f_L_act_c51 h (some o) v1 v2 v3 s0) := by
  have hw := I.1.2.2.2.1
  unfold f_L_act_c51
  refine UA.ite (fun c1 => ?_) (fun c1 => ?_)
  · refine UA.low rfl (k := 4) (by decide) (by decide) (fun j1 hj1 => ?_)
    exact (ua_act_c79 I _ _ _ _ _).up (by decide)
  · refine UA.low rfl (k := 13) (by decide) (by decide) (fun j2 hj2 => ?_)
    exact (ua_act_c79 I _ _ _ _ _).up (by decide)
theorem ua_act_c17 (I : Inv m n w a c hr) (v1 : Int32) (s0 : Int32) : UA 1015 m (fun h o => f_L_act_c17 h (some o) v1 s0) := by
  have hw := I.1.2.2.2.1
  unfold f_L_act_c17
  refine UA.low rfl (k := 44) (by decide) (by decide) (fun j1 hj1 => ?_)
  refine UA.ite (fun c1 => ?_) (fun c1 => ?_)
  · refine UA.low rfl (k := 4) (by decide) (by decide) (fun j2 hj2 => ?_)
    exact (ua_act_c51 I _ _ _ _).up (by decide)
  · refine UA.low rfl (k := 9) (by decide) (by decide) (fun j3 hj3 => ?_)
    exact (ua_act_c51 I _ _ _ _).up (by decide)
theorem ua_act (I : Inv m n w a c hr) (v1 : Int32) : UA 1015 m (fun h o => f_L_act h (some o) v1) := by
  have hw := I.1.2.2.2.1
  unfold f_L_act
  refine UA.ite (fun c1 => ?_) (fun c1 => ?_)
  · exact (ua_act_c17 I _ _).up (by decide)
  · exact (ua_act_c17 I _ _).up (by decide)
end U2
