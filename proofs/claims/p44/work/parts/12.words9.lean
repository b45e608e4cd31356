set_option maxRecDepth 100000 in
theorem co_L_tells : Cond.code yL_tells cL_tells 7 (some FieldType.int) ∈ nk_T := nk_in (i := 989) (by rfl) rfl
set_option maxRecDepth 100000 in
theorem co_L_low : Cond.code yL_low cL_low 2 (some FieldType.int) ∈ nk_T := nk_in (i := 191) (by rfl) rfl
set_option maxRecDepth 100000 in
theorem co_L_does : Cond.codeWith yL_does cL_does 7 (some FieldType.int) [(0, 220, 221, 56), (0, 220, 226, 59), (0, 220, 231, 61)] ∈ nk_T := nk_in (i := 206) (by rfl) rfl
set_option maxRecDepth 100000 in
theorem co_L_tell : Cond.codeWith yL_tell cL_tell 8 (some FieldType.int) [(0, 13, 14, 59)] ∈ nk_T := nk_in (i := 986) (by rfl) rfl
set_option maxRecDepth 100000 in
theorem co_L_looks : Cond.codeWith yL_looks cL_looks 5 (some FieldType.int) [(0, 65, 66, 56)] ∈ nk_T := nk_in (i := 1041) (by rfl) rfl
set_option maxRecDepth 100000 in
theorem co_L_isCopySo : Cond.code yL_isCopySo cL_isCopySo 9 (some FieldType.boolean) ∈ nk_T := nk_in (i := 1137) (by rfl) rfl
set_option maxRecDepth 100000 in
theorem co_L_isTamperedSo : Cond.code yL_isTamperedSo cL_isTamperedSo 9 (some FieldType.boolean) ∈ nk_T := nk_in (i := 1130) (by rfl) rfl
set_option maxRecDepth 100000 in
theorem co_L_isActSo : Cond.code yL_isActSo cL_isActSo 17 (some FieldType.boolean) ∈ nk_T := nk_in (i := 1103) (by rfl) rfl
set_option maxRecDepth 100000 in
theorem co_L_isNewsSo : Cond.code yL_isNewsSo cL_isNewsSo 8 (some FieldType.boolean) ∈ nk_T := nk_in (i := 1078) (by rfl) rfl
set_option maxRecDepth 100000 in
theorem co_L_areAlike : Cond.code yL_areAlike cL_areAlike 4 (some FieldType.boolean) ∈ nk_T := nk_in (i := 1005) (by rfl) rfl
set_option maxRecDepth 100000 in
theorem co_L_cell : Cond.code yL_cell cL_cell 2 (some FieldType.int) ∈ nk_T := nk_in (i := 188) (by rfl) rfl
set_option maxRecDepth 100000 in
theorem co_L_act : Cond.code yL_act cL_act 10 (some FieldType.int) ∈ nk_T := nk_in (i := 195) (by rfl) rfl
theorem my_L_tells : nk_My yL_tells cL_tells 7 (some FieldType.int) 7 := ⟨co_L_tells, in_RL, ⟨by decide, by decide⟩, by decide +kernel⟩
theorem my_L_low : nk_My yL_low cL_low 2 (some FieldType.int) 2 := ⟨co_L_low, in_RL, ⟨by decide, by decide⟩, by decide +kernel⟩
theorem my_L_does : nk_MyW yL_does cL_does 7 (some FieldType.int) [(0, 220, 221, 56), (0, 220, 226, 59), (0, 220, 231, 61)] 6 := ⟨co_L_does, in_RL, ⟨by decide, by decide⟩, by decide +kernel⟩
theorem my_L_tell : nk_MyW yL_tell cL_tell 8 (some FieldType.int) [(0, 13, 14, 59)] 7 := ⟨co_L_tell, in_RL, ⟨by decide, by decide⟩, by decide +kernel⟩
theorem my_L_looks : nk_MyW yL_looks cL_looks 5 (some FieldType.int) [(0, 65, 66, 56)] 4 := ⟨co_L_looks, in_RL, ⟨by decide, by decide⟩, by decide +kernel⟩
theorem my_L_isCopySo : nk_My yL_isCopySo cL_isCopySo 9 (some FieldType.boolean) 4 := ⟨co_L_isCopySo, in_RL, ⟨by decide, by decide⟩, by decide +kernel⟩
theorem my_L_isTamperedSo : nk_My yL_isTamperedSo cL_isTamperedSo 9 (some FieldType.boolean) 5 := ⟨co_L_isTamperedSo, in_RL, ⟨by decide, by decide⟩, by decide +kernel⟩
theorem my_L_isActSo : nk_My yL_isActSo cL_isActSo 17 (some FieldType.boolean) 5 := ⟨co_L_isActSo, in_RL, ⟨by decide, by decide⟩, by decide +kernel⟩
theorem my_L_isNewsSo : nk_My yL_isNewsSo cL_isNewsSo 8 (some FieldType.boolean) 2 := ⟨co_L_isNewsSo, in_RL, ⟨by decide, by decide⟩, by decide +kernel⟩
theorem my_L_areAlike : nk_My yL_areAlike cL_areAlike 4 (some FieldType.boolean) 2 := ⟨co_L_areAlike, in_RL, ⟨by decide, by decide⟩, by decide +kernel⟩
theorem my_L_cell : nk_My yL_cell cL_cell 2 (some FieldType.int) 2 := ⟨co_L_cell, in_RL, ⟨by decide, by decide⟩, by decide +kernel⟩
theorem my_L_act : nk_My yL_act cL_act 10 (some FieldType.int) 2 := ⟨co_L_act, in_RL, ⟨by decide, by decide⟩, by decide +kernel⟩
