section LE
variable {G : nk_G} {r : nk_H → Option Nat → Option Nat → Option Nat → Int32 → Option (nk_H × Int32)} {h : nk_H} {X : Nat} {v4 x0 x1 x2 x3 x4 x5 : Int32}
theorem getD_all {α : Type} {P : α → Prop} {d : α} (hd : P d) : ∀ (L : List α) (j : Nat), (∀ E, E ∈ L → P E) → P (L.getD j d) := by
  intro L
  induction L with
  | nil => intro j _; exact hd
  | cons a l ih =>
    intro j hP
    cases j with
    | zero => exact hP a (by simp)
    | succ j => exact ih j (fun E hE => hP E (by simp [hE]))
theorem kw_all (H : WS h X) (e1 : nk_sx G (v4 + 1) = some x1) (e2 : nk_sx G (v4 + 2) = some x2) (e3 : nk_sx G (v4 + 3) = some x3) (e4 : nk_sx G (v4 + 4) = some x4) (e5 : nk_sx G (v4 + 5) = some x5) (x : Int32) : LPq h X r v4 (nk_sw [(f_L_law_c220 G r h (some X) (some (X + 23)) (some (X + 56)) v4), (f_L_law_c288 G r h (some X) (some (X + 23)) (some (X + 56)) v4), (f_L_law_c356 G r h (some X) (some (X + 23)) (some (X + 56)) v4), (f_L_law_c412 G r h (some X) (some (X + 23)) (some (X + 56)) v4), (f_L_law_c468 G r h (some X) (some (X + 23)) (some (X + 56)) v4), (f_L_law_c552 G r h (some X) (some (X + 23)) (some (X + 56)) v4), (f_L_law_c632 G r h (some X) (some (X + 23)) (some (X + 56)) v4), (f_L_law_c712 G r h (some X) (some (X + 23)) (some (X + 56)) v4), (f_L_law_c792 G r h (some X) (some (X + 23)) (some (X + 56)) v4), (f_L_law_c872 G r h (some X) (some (X + 23)) (some (X + 56)) v4), (f_L_law_c920 G r h (some X) (some (X + 23)) (some (X + 56)) v4), (f_L_law_c1012 G r h (some X) (some (X + 23)) (some (X + 56)) v4), (f_L_law_c1092 G r h (some X) (some (X + 23)) (some (X + 56)) v4), (f_L_law_c1184 G r h (some X) (some (X + 23)) (some (X + 56)) v4), (f_L_law_c1276 G r h (some X) (some (X + 23)) (some (X + 56)) v4), (f_L_law_c1289 G r h (some X) (some (X + 23)) (some (X + 56)) v4), (f_L_law_c1302 G r h (some X) (some (X + 23)) (some (X + 56)) v4), (f_L_law_c1315 G r h (some X) (some (X + 23)) (some (X + 56)) v4), (f_L_law_c1371 G r h (some X) (some (X + 23)) (some (X + 56)) v4), (f_L_law_c1446 G r h (some X) (some (X + 23)) (some (X + 56)) v4), (f_L_law_c1514 G r h (some X) (some (X + 23)) (some (X + 56)) v4), (f_L_law_c1582 G r h (some X) (some (X + 23)) (some (X + 56)) v4), (f_L_law_c1657 G r h (some X) (some (X + 23)) (some (X + 56)) v4), (f_L_law_c1713 G r h (some X) (some (X + 23)) (some (X + 56)) v4), (f_L_law_c1769 G r h (some X) (some (X + 23)) (some (X + 56)) v4), (f_L_law_c1825 G r h (some X) (some (X + 23)) (some (X + 56)) v4), (f_L_law_c1900 G r h (some X) (some (X + 23)) (some (X + 56)) v4), (f_L_law_c1968 G r h (some X) (some (X + 23)) (some (X + 56)) v4), (f_L_law_c2024 G r h (some X) (some (X + 23)) (some (X + 56)) v4), (f_L_law_c2116 G r h (some X) (some (X + 23)) (some (X + 56)) v4), (f_L_law_c2196 G r h (some X) (some (X + 23)) (some (X + 56)) v4), (f_L_law_c2271 G r h (some X) (some (X + 23)) (some (X + 56)) v4), (f_L_law_c2339 G r h (some X) (some (X + 23)) (some (X + 56)) v4), (f_L_law_c2352 G r h (some X) (some (X + 23)) (some (X + 56)) v4), (f_L_law_c2420 G r h (some X) (some (X + 23)) (some (X + 56)) v4), (f_L_law_c2500 G r h (some X) (some (X + 23)) (some (X + 56)) v4), (f_L_law_c2568 G r h (some X) (some (X + 23)) (some (X + 56)) v4), (f_L_law_c2624 G r h (some X) (some (X + 23)) (some (X + 56)) v4), (f_L_law_c2680 G r h (some X) (some (X + 23)) (some (X + 56)) v4), (f_L_law_c2760 G r h (some X) (some (X + 23)) (some (X + 56)) v4), (f_L_law_c2816 G r h (some X) (some (X + 23)) (some (X + 56)) v4)] (f_L_law_c2879 G r h (some X) (some (X + 23)) (some (X + 56)) v4) x) := by
  have hd : LPq h X r v4 (f_L_law_c2879 G r h (some X) (some (X + 23)) (some (X + 56)) v4) := ⟨h, rfl, H, by omega, by omega⟩
  unfold nk_sw
  by_cases z : x < 0
  · rw [if_pos z]; exact hd
  · rw [if_neg z]
    refine getD_all hd _ _ (fun E hE => ?_)
    simp only [List.mem_cons, List.not_mem_nil, or_false] at hE
    rcases hE with rfl | rfl | rfl | rfl | rfl | rfl | rfl | rfl | rfl | rfl | rfl | rfl | rfl | rfl | rfl | rfl | rfl | rfl | rfl | rfl | rfl | rfl | rfl | rfl | rfl | rfl | rfl | rfl | rfl | rfl | rfl | rfl | rfl | rfl | rfl | rfl | rfl | rfl | rfl | rfl | rfl
    · exact lp_join H e1 e2
    · exact lp_cut H e1 e2
    · exact lp_pass H e1
    · exact lp_read H e1
    · exact lp_draft H e1 e2 e3 e4 e5
    · exact lp_grant H e1 e2 e3
    · exact lp_passOn H e1 e2 e3
    · exact lp_revoke H e1 e2 e3
    · exact lp_depute H e1 e2 e3
    · exact lp_prepare H e1 e2
    · exact lp_act H e1 e2 e3 e4
    · exact lp_tamper H e1 e2 e3
    · exact lp_copy H e1 e2 e3 e4
    · exact lp_forge H e1 e2 e3 e4
    · exact lp_hour H
    · exact lp_news H
    · exact lp_powers H
    · exact lp_records H e1
    · exact lp_areJoined H e1 e2
    · exact lp_came H e1 e2
    · exact lp_cameByLinks H e1 e2
    · exact lp_isRead H e1 e2
    · exact lp_mail H e1
    · exact lp_source H e1
    · exact lp_holder H e1
    · exact lp_isGood H e1 e2
    · exact lp_done H e1 e2
    · exact lp_beyond H e1
    · exact lp_against H e1 e2 e3 e4
    · exact lp_choices H e1 e2 e3
    · exact lp_stands H e1 e2
    · exact lp_fault H e1 e2
    · exact lp_standing H
    · exact lp_pieceOf H e1 e2
    · exact lp_part H e1 e2 e3
    · exact lp_seal H e1 e2
    · exact lp_broken H e1
    · exact lp_size H e1
    · exact lp_copied H e1 e2 e3
    · exact lp_brokenCopy H e1
    · exact lp_isTrue H e1
theorem sx_at (hL : nk_gL G ≤ 3072) {i : Nat} (hi : i < nk_gL G) : nk_sx G (Int32.ofNat i) = some (nk_gX G i) := by
  unfold nk_sx
  rw [ia_nn (by omega), if_pos ⟨ia_n0 (by omega), hi⟩]
theorem kw_step (hL : nk_gL G ≤ 3072) (H : WS h X) {i : Nat} (hi : i + 6 ≤ nk_gL G) : LPq h X r (Int32.ofNat i) (f_L_law_c23 G r h (some X) (some (X + 23)) (some (X + 56)) (Int32.ofNat i)) := by
  have e : ∀ j, j < 6 → nk_sx G (Int32.ofNat i + Int32.ofNat j) = some (nk_gX G (i + j)) := fun j hj => by rw [ia_add]; exact sx_at hL (by omega)
  unfold f_L_law_c23
  rw [show Int32.ofNat (nk_gL G) - 6 = Int32.ofNat (nk_gL G - 6) from ia_sub (a := nk_gL G) (b := 6) (by omega), if_neg (fun z => by have := (ia_lt (by omega) (by omega)).mp z; omega), sx_at hL (i := i) (by omega), Option.bind_some]
  exact kw_all H (e 1 (by decide)) (e 2 (by decide)) (e 3 (by decide)) (e 4 (by decide)) (e 5 (by decide)) _
theorem kw_end (hL : nk_gL G ≤ 3072) {i : Nat} (hi : nk_gL G < i + 6) (hi2 : i ≤ nk_gL G) : f_L_law_c23 G r h (some X) (some (X + 23)) (some (X + 56)) (Int32.ofNat i) = some (h, 1) := by
  unfold f_L_law_c23
  have z : Int32.ofNat (nk_gL G) - 6 < Int32.ofNat i := by
    by_cases q : 6 ≤ nk_gL G
    · rw [show Int32.ofNat (nk_gL G) - 6 = Int32.ofNat (nk_gL G - 6) from ia_sub (a := nk_gL G) (b := 6) q]
      exact (ia_lt (by omega) (by omega)).mpr (by omega)
    · have : ∀ L, L < 6 → Int32.ofNat L - 6 < 0 := by decide
      exact Int32.lt_of_lt_of_le (this _ (by omega)) (ia_0le (by omega))
  rw [if_pos z, nk_zr_1]
theorem kw_loop (hL : nk_gL G ≤ 3072) : ∀ (kf i : Nat) (h : nk_H), WS h X → i ≤ nk_gL G → nk_gL G < i + 6 * kf → ∃ h', f_L_law_b23 G kf h (some X) (some (X + 23)) (some (X + 56)) (Int32.ofNat i) = some (h', 1) ∧ 6 * nk_N h' ≤ 6 * nk_N h + 1000 * (nk_gL G - i) ∧ 6 * nk_S h' ≤ 6 * nk_S h + 10000 * (nk_gL G - i) := by
  intro kf
  induction kf with
  | zero => intro i h _ h1 h2; omega
  | succ kf ih =>
    intro i h H h1 h2
    show ∃ h', f_L_law_c23 G (f_L_law_b23 G kf) h (some X) (some (X + 23)) (some (X + 56)) (Int32.ofNat i) = some (h', 1) ∧ _
    by_cases z : i + 6 ≤ nk_gL G
    · obtain ⟨h3, e3, H3, b3, c3⟩ := kw_step (r := f_L_law_b23 G kf) hL H z
      obtain ⟨h4, e4, b4, c4⟩ := ih (i + 6) h3 H3 z (by omega)
      have e6 : Int32.ofNat i + 6 = Int32.ofNat (i + 6) := by rw [show (6 : Int32) = Int32.ofNat 6 from rfl, ia_add]
      refine ⟨h4, ?_, by omega, by omega⟩
      rw [e3, e6]
      exact e4
    · exact ⟨h, kw_end hL (by omega) h1, by omega, by omega⟩
end LE
