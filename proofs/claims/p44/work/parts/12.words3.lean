theorem im_X2_tellsAs : Cond.instanceMethod yX2_tellsAs ∈ nk_T := nk_in (i := 1065) (by decide +kernel) rfl
theorem se_RX2_X2_tellsAs : Cond.selects RX2 yX2_tellsAs yX2_tellsAs ∈ nk_T := nk_in (i := 1066) (by decide +kernel) rfl
theorem kc_RL_7 : Cond.constant RL 7 2147483647 ∈ nk_T := nk_in (i := 192) (by decide +kernel) rfl
theorem ml_RL_8 : Cond.methodLink RL 8 yX11_join ∈ nk_T := nk_in (i := 210) (by decide +kernel) rfl
theorem co_X11_join : Cond.code yX11_join cX11_join 3 (some FieldType.int) ∈ nk_T := nk_in (i := 213) (by decide +kernel) rfl
theorem my_X11_join : nk_My yX11_join cX11_join 3 (some FieldType.int) 2 := ⟨co_X11_join, in_RX11, ⟨by decide, by decide⟩, by decide +kernel⟩
theorem im_X11_join : Cond.instanceMethod yX11_join ∈ nk_T := nk_in (i := 211) (by decide +kernel) rfl
theorem se_RX11_X11_join : Cond.selects RX11 yX11_join yX11_join ∈ nk_T := nk_in (i := 212) (by decide +kernel) rfl
theorem kc_RL_58 : Cond.constant RL 58 (-9999999) ∈ nk_T := nk_in (i := 983) (by decide +kernel) rfl
theorem cl_RL_56 : Cond.classLink RL 56 "java/lang/IndexOutOfBoundsException" ∈ nk_T := nk_in (i := 207) (by decide +kernel) rfl
theorem cl_RL_59 : Cond.classLink RL 59 "java/lang/IllegalArgumentException" ∈ nk_T := nk_in (i := 208) (by decide +kernel) rfl
theorem cl_RL_61 : Cond.classLink RL 61 "java/lang/IllegalStateException" ∈ nk_T := nk_in (i := 209) (by decide +kernel) rfl
theorem ml_RL_14 : Cond.methodLink RL 14 yX11_cut ∈ nk_T := nk_in (i := 345) (by decide +kernel) rfl
theorem co_X11_cut : Cond.code yX11_cut cX11_cut 3 (some FieldType.int) ∈ nk_T := nk_in (i := 348) (by decide +kernel) rfl
theorem my_X11_cut : nk_My yX11_cut cX11_cut 3 (some FieldType.int) 2 := ⟨co_X11_cut, in_RX11, ⟨by decide, by decide⟩, by decide +kernel⟩
theorem im_X11_cut : Cond.instanceMethod yX11_cut ∈ nk_T := nk_in (i := 346) (by decide +kernel) rfl
theorem se_RX11_X11_cut : Cond.selects RX11 yX11_cut yX11_cut ∈ nk_T := nk_in (i := 347) (by decide +kernel) rfl
theorem ml_RL_17 : Cond.methodLink RL 17 yX11_pass ∈ nk_T := nk_in (i := 350) (by decide +kernel) rfl
theorem co_X11_pass : Cond.code yX11_pass cX11_pass 4 (some FieldType.int) ∈ nk_T := nk_in (i := 353) (by decide +kernel) rfl
theorem my_X11_pass : nk_My yX11_pass cX11_pass 4 (some FieldType.int) 1 := ⟨co_X11_pass, in_RX11, ⟨by decide, by decide⟩, by decide +kernel⟩
theorem im_X11_pass : Cond.instanceMethod yX11_pass ∈ nk_T := nk_in (i := 351) (by decide +kernel) rfl
theorem se_RX11_X11_pass : Cond.selects RX11 yX11_pass yX11_pass ∈ nk_T := nk_in (i := 352) (by decide +kernel) rfl
theorem ml_RL_21 : Cond.methodLink RL 21 yX11_read ∈ nk_T := nk_in (i := 401) (by decide +kernel) rfl
theorem co_X11_read : Cond.code yX11_read cX11_read 2 (some FieldType.int) ∈ nk_T := nk_in (i := 404) (by decide +kernel) rfl
theorem my_X11_read : nk_My yX11_read cX11_read 2 (some FieldType.int) 1 := ⟨co_X11_read, in_RX11, ⟨by decide, by decide⟩, by decide +kernel⟩
theorem im_X11_read : Cond.instanceMethod yX11_read ∈ nk_T := nk_in (i := 402) (by decide +kernel) rfl
theorem se_RX11_X11_read : Cond.selects RX11 yX11_read yX11_read ∈ nk_T := nk_in (i := 403) (by decide +kernel) rfl
theorem ml_RL_24 : Cond.methodLink RL 24 yX11_grant ∈ nk_T := nk_in (i := 423) (by decide +kernel) rfl
theorem co_X11_grant : Cond.code yX11_grant cX11_grant 4 (some FieldType.int) ∈ nk_T := nk_in (i := 426) (by decide +kernel) rfl
theorem my_X11_grant : nk_My yX11_grant cX11_grant 4 (some FieldType.int) 3 := ⟨co_X11_grant, in_RX11, ⟨by decide, by decide⟩, by decide +kernel⟩
theorem im_X11_grant : Cond.instanceMethod yX11_grant ∈ nk_T := nk_in (i := 424) (by decide +kernel) rfl
theorem se_RX11_X11_grant : Cond.selects RX11 yX11_grant yX11_grant ∈ nk_T := nk_in (i := 425) (by decide +kernel) rfl
theorem ml_RL_28 : Cond.methodLink RL 28 yX11_passOn ∈ nk_T := nk_in (i := 597) (by decide +kernel) rfl
theorem co_X11_passOn : Cond.code yX11_passOn cX11_passOn 5 (some FieldType.int) ∈ nk_T := nk_in (i := 600) (by decide +kernel) rfl
theorem my_X11_passOn : nk_My yX11_passOn cX11_passOn 5 (some FieldType.int) 3 := ⟨co_X11_passOn, in_RX11, ⟨by decide, by decide⟩, by decide +kernel⟩
theorem im_X11_passOn : Cond.instanceMethod yX11_passOn ∈ nk_T := nk_in (i := 598) (by decide +kernel) rfl
theorem se_RX11_X11_passOn : Cond.selects RX11 yX11_passOn yX11_passOn ∈ nk_T := nk_in (i := 599) (by decide +kernel) rfl
theorem ml_RL_31 : Cond.methodLink RL 31 yX11_revoke ∈ nk_T := nk_in (i := 651) (by decide +kernel) rfl
theorem co_X11_revoke : Cond.code yX11_revoke cX11_revoke 5 (some FieldType.int) ∈ nk_T := nk_in (i := 654) (by decide +kernel) rfl
theorem my_X11_revoke : nk_My yX11_revoke cX11_revoke 5 (some FieldType.int) 3 := ⟨co_X11_revoke, in_RX11, ⟨by decide, by decide⟩, by decide +kernel⟩
theorem im_X11_revoke : Cond.instanceMethod yX11_revoke ∈ nk_T := nk_in (i := 652) (by decide +kernel) rfl
theorem se_RX11_X11_revoke : Cond.selects RX11 yX11_revoke yX11_revoke ∈ nk_T := nk_in (i := 653) (by decide +kernel) rfl
theorem ml_RL_34 : Cond.methodLink RL 34 yX11_depute ∈ nk_T := nk_in (i := 677) (by decide +kernel) rfl
theorem co_X11_depute : Cond.code yX11_depute cX11_depute 6 (some FieldType.int) ∈ nk_T := nk_in (i := 680) (by decide +kernel) rfl
theorem my_X11_depute : nk_My yX11_depute cX11_depute 6 (some FieldType.int) 3 := ⟨co_X11_depute, in_RX11, ⟨by decide, by decide⟩, by decide +kernel⟩
theorem im_X11_depute : Cond.instanceMethod yX11_depute ∈ nk_T := nk_in (i := 678) (by decide +kernel) rfl
theorem se_RX11_X11_depute : Cond.selects RX11 yX11_depute yX11_depute ∈ nk_T := nk_in (i := 679) (by decide +kernel) rfl
theorem ml_RL_37 : Cond.methodLink RL 37 yX11_act ∈ nk_T := nk_in (i := 722) (by decide +kernel) rfl
theorem co_X11_act : Cond.code yX11_act cX11_act 8 (some FieldType.int) ∈ nk_T := nk_in (i := 725) (by decide +kernel) rfl
theorem my_X11_act : nk_My yX11_act cX11_act 8 (some FieldType.int) 4 := ⟨co_X11_act, in_RX11, ⟨by decide, by decide⟩, by decide +kernel⟩
theorem im_X11_act : Cond.instanceMethod yX11_act ∈ nk_T := nk_in (i := 723) (by decide +kernel) rfl
theorem se_RX11_X11_act : Cond.selects RX11 yX11_act yX11_act ∈ nk_T := nk_in (i := 724) (by decide +kernel) rfl
theorem ml_RL_41 : Cond.methodLink RL 41 yX11_tamper ∈ nk_T := nk_in (i := 887) (by decide +kernel) rfl
theorem co_X11_tamper : Cond.code yX11_tamper cX11_tamper 6 (some FieldType.int) ∈ nk_T := nk_in (i := 890) (by decide +kernel) rfl
theorem my_X11_tamper : nk_My yX11_tamper cX11_tamper 6 (some FieldType.int) 3 := ⟨co_X11_tamper, in_RX11, ⟨by decide, by decide⟩, by decide +kernel⟩
theorem im_X11_tamper : Cond.instanceMethod yX11_tamper ∈ nk_T := nk_in (i := 888) (by decide +kernel) rfl
theorem se_RX11_X11_tamper : Cond.selects RX11 yX11_tamper yX11_tamper ∈ nk_T := nk_in (i := 889) (by decide +kernel) rfl
theorem ml_RL_44 : Cond.methodLink RL 44 yX11_copy ∈ nk_T := nk_in (i := 904) (by decide +kernel) rfl
theorem co_X11_copy : Cond.code yX11_copy cX11_copy 6 (some FieldType.int) ∈ nk_T := nk_in (i := 907) (by decide +kernel) rfl
theorem my_X11_copy : nk_My yX11_copy cX11_copy 6 (some FieldType.int) 4 := ⟨co_X11_copy, in_RX11, ⟨by decide, by decide⟩, by decide +kernel⟩
theorem im_X11_copy : Cond.instanceMethod yX11_copy ∈ nk_T := nk_in (i := 905) (by decide +kernel) rfl
theorem se_RX11_X11_copy : Cond.selects RX11 yX11_copy yX11_copy ∈ nk_T := nk_in (i := 906) (by decide +kernel) rfl
theorem ml_RL_47 : Cond.methodLink RL 47 yX11_forge ∈ nk_T := nk_in (i := 955) (by decide +kernel) rfl
theorem co_X11_forge : Cond.code yX11_forge cX11_forge 7 (some FieldType.int) ∈ nk_T := nk_in (i := 958) (by decide +kernel) rfl
theorem my_X11_forge : nk_My yX11_forge cX11_forge 7 (some FieldType.int) 4 := ⟨co_X11_forge, in_RX11, ⟨by decide, by decide⟩, by decide +kernel⟩
theorem im_X11_forge : Cond.instanceMethod yX11_forge ∈ nk_T := nk_in (i := 956) (by decide +kernel) rfl
theorem se_RX11_X11_forge : Cond.selects RX11 yX11_forge yX11_forge ∈ nk_T := nk_in (i := 957) (by decide +kernel) rfl
theorem ml_RL_50 : Cond.methodLink RL 50 yX11_against ∈ nk_T := nk_in (i := 975) (by decide +kernel) rfl
theorem co_X11_against : Cond.code yX11_against cX11_against 5 (some FieldType.int) ∈ nk_T := nk_in (i := 978) (by decide +kernel) rfl
theorem my_X11_against : nk_My yX11_against cX11_against 5 (some FieldType.int) 4 := ⟨co_X11_against, in_RX11, ⟨by decide, by decide⟩, by decide +kernel⟩
theorem im_X11_against : Cond.instanceMethod yX11_against ∈ nk_T := nk_in (i := 976) (by decide +kernel) rfl
theorem se_RX11_X11_against : Cond.selects RX11 yX11_against yX11_against ∈ nk_T := nk_in (i := 977) (by decide +kernel) rfl
theorem ml_RL_53 : Cond.methodLink RL 53 yX11_choices ∈ nk_T := nk_in (i := 979) (by decide +kernel) rfl
theorem co_X11_choices : Cond.code yX11_choices cX11_choices 7 (some FieldType.int) ∈ nk_T := nk_in (i := 982) (by decide +kernel) rfl
theorem my_X11_choices : nk_My yX11_choices cX11_choices 7 (some FieldType.int) 3 := ⟨co_X11_choices, in_RX11, ⟨by decide, by decide⟩, by decide +kernel⟩
theorem im_X11_choices : Cond.instanceMethod yX11_choices ∈ nk_T := nk_in (i := 980) (by decide +kernel) rfl
theorem se_RX11_X11_choices : Cond.selects RX11 yX11_choices yX11_choices ∈ nk_T := nk_in (i := 981) (by decide +kernel) rfl
theorem ml_RL_73 : Cond.methodLink RL 73 yX11_prepare ∈ nk_T := nk_in (i := 994) (by decide +kernel) rfl
theorem co_X11_prepare : Cond.code yX11_prepare cX11_prepare 3 (none : Option FieldType) ∈ nk_T := nk_in (i := 997) (by decide +kernel) rfl
theorem my_X11_prepare : nk_My yX11_prepare cX11_prepare 3 (none : Option FieldType) 2 := ⟨co_X11_prepare, in_RX11, ⟨by decide, by decide⟩, by decide +kernel⟩
theorem im_X11_prepare : Cond.instanceMethod yX11_prepare ∈ nk_T := nk_in (i := 995) (by decide +kernel) rfl
theorem se_RX11_X11_prepare : Cond.selects RX11 yX11_prepare yX11_prepare ∈ nk_T := nk_in (i := 996) (by decide +kernel) rfl
theorem ml_RL_69 : Cond.methodLink RL 69 yX11_draft ∈ nk_T := nk_in (i := 990) (by decide +kernel) rfl
theorem co_X11_draft : Cond.code yX11_draft cX11_draft 6 (none : Option FieldType) ∈ nk_T := nk_in (i := 993) (by decide +kernel) rfl
theorem my_X11_draft : nk_My yX11_draft cX11_draft 6 (none : Option FieldType) 5 := ⟨co_X11_draft, in_RX11, ⟨by decide, by decide⟩, by decide +kernel⟩
theorem im_X11_draft : Cond.instanceMethod yX11_draft ∈ nk_T := nk_in (i := 991) (by decide +kernel) rfl
theorem se_RX11_X11_draft : Cond.selects RX11 yX11_draft yX11_draft ∈ nk_T := nk_in (i := 992) (by decide +kernel) rfl
theorem in_RL : Cond.initialized RL ∈ nk_T := nk_in (i := 21) (by decide +kernel) rfl
theorem st_L_tells : Cond.static yL_tells ∈ nk_T := nk_in (i := 988) (by decide +kernel) rfl
theorem ml_RL_63 : Cond.methodLink RL 63 yL_tells ∈ nk_T := nk_in (i := 987) (by decide +kernel) rfl
theorem ml_RL_77 : Cond.methodLink RL 77 yX11_broken ∈ nk_T := nk_in (i := 1031) (by decide +kernel) rfl
theorem co_X11_broken : Cond.code yX11_broken cX11_broken 2 (some FieldType.int) ∈ nk_T := nk_in (i := 1034) (by decide +kernel) rfl
theorem my_X11_broken : nk_My yX11_broken cX11_broken 2 (some FieldType.int) 1 := ⟨co_X11_broken, in_RX11, ⟨by decide, by decide⟩, by decide +kernel⟩
theorem im_X11_broken : Cond.instanceMethod yX11_broken ∈ nk_T := nk_in (i := 1032) (by decide +kernel) rfl
theorem se_RX11_X11_broken : Cond.selects RX11 yX11_broken yX11_broken ∈ nk_T := nk_in (i := 1033) (by decide +kernel) rfl
theorem ml_RL_80 : Cond.methodLink RL 80 yX11_done ∈ nk_T := nk_in (i := 1042) (by decide +kernel) rfl
theorem co_X11_done : Cond.code yX11_done cX11_done 3 (some FieldType.int) ∈ nk_T := nk_in (i := 1045) (by decide +kernel) rfl
theorem my_X11_done : nk_My yX11_done cX11_done 3 (some FieldType.int) 2 := ⟨co_X11_done, in_RX11, ⟨by decide, by decide⟩, by decide +kernel⟩
theorem im_X11_done : Cond.instanceMethod yX11_done ∈ nk_T := nk_in (i := 1043) (by decide +kernel) rfl
theorem se_RX11_X11_done : Cond.selects RX11 yX11_done yX11_done ∈ nk_T := nk_in (i := 1044) (by decide +kernel) rfl
theorem ml_RL_83 : Cond.methodLink RL 83 yX11_size ∈ nk_T := nk_in (i := 1047) (by decide +kernel) rfl
theorem co_X11_size : Cond.code yX11_size cX11_size 2 (some FieldType.int) ∈ nk_T := nk_in (i := 1050) (by decide +kernel) rfl
theorem my_X11_size : nk_My yX11_size cX11_size 2 (some FieldType.int) 1 := ⟨co_X11_size, in_RX11, ⟨by decide, by decide⟩, by decide +kernel⟩
theorem im_X11_size : Cond.instanceMethod yX11_size ∈ nk_T := nk_in (i := 1048) (by decide +kernel) rfl
theorem se_RX11_X11_size : Cond.selects RX11 yX11_size yX11_size ∈ nk_T := nk_in (i := 1049) (by decide +kernel) rfl
theorem ml_RL_86 : Cond.methodLink RL 86 yX11_brokenCopy ∈ nk_T := nk_in (i := 1051) (by decide +kernel) rfl
theorem co_X11_brokenCopy : Cond.code yX11_brokenCopy cX11_brokenCopy 2 (some FieldType.int) ∈ nk_T := nk_in (i := 1054) (by decide +kernel) rfl
theorem my_X11_brokenCopy : nk_My yX11_brokenCopy cX11_brokenCopy 2 (some FieldType.int) 1 := ⟨co_X11_brokenCopy, in_RX11, ⟨by decide, by decide⟩, by decide +kernel⟩
theorem im_X11_brokenCopy : Cond.instanceMethod yX11_brokenCopy ∈ nk_T := nk_in (i := 1052) (by decide +kernel) rfl
theorem se_RX11_X11_brokenCopy : Cond.selects RX11 yX11_brokenCopy yX11_brokenCopy ∈ nk_T := nk_in (i := 1053) (by decide +kernel) rfl
theorem ml_RL_89 : Cond.methodLink RL 89 yX11_isTrue ∈ nk_T := nk_in (i := 1060) (by decide +kernel) rfl
theorem co_X11_isTrue : Cond.code yX11_isTrue cX11_isTrue 3 (some FieldType.boolean) ∈ nk_T := nk_in (i := 1063) (by decide +kernel) rfl
theorem my_X11_isTrue : nk_My yX11_isTrue cX11_isTrue 3 (some FieldType.boolean) 1 := ⟨co_X11_isTrue, in_RX11, ⟨by decide, by decide⟩, by decide +kernel⟩
theorem im_X11_isTrue : Cond.instanceMethod yX11_isTrue ∈ nk_T := nk_in (i := 1061) (by decide +kernel) rfl
theorem se_RX11_X11_isTrue : Cond.selects RX11 yX11_isTrue yX11_isTrue ∈ nk_T := nk_in (i := 1062) (by decide +kernel) rfl
theorem st_L_low : Cond.static yL_low ∈ nk_T := nk_in (i := 190) (by decide +kernel) rfl
theorem ml_RL_93 : Cond.methodLink RL 93 yL_low ∈ nk_T := nk_in (i := 189) (by decide +kernel) rfl
theorem st_L_does : Cond.static yL_does ∈ nk_T := nk_in (i := 205) (by decide +kernel) rfl
theorem ml_RL_100 : Cond.methodLink RL 100 yL_does ∈ nk_T := nk_in (i := 204) (by decide +kernel) rfl
theorem st_L_tell : Cond.static yL_tell ∈ nk_T := nk_in (i := 985) (by decide +kernel) rfl
theorem ml_RL_104 : Cond.methodLink RL 104 yL_tell ∈ nk_T := nk_in (i := 984) (by decide +kernel) rfl
theorem kc_RL_107 : Cond.constant RL 107 110000 ∈ nk_T := nk_in (i := 998) (by decide +kernel) rfl
theorem ml_RL_108 : Cond.methodLink RL 108 yX11_holder ∈ nk_T := nk_in (i := 999) (by decide +kernel) rfl
theorem co_X11_holder : Cond.code yX11_holder cX11_holder 2 (some FieldType.int) ∈ nk_T := nk_in (i := 1002) (by decide +kernel) rfl
theorem my_X11_holder : nk_My yX11_holder cX11_holder 2 (some FieldType.int) 1 := ⟨co_X11_holder, in_RX11, ⟨by decide, by decide⟩, by decide +kernel⟩
theorem im_X11_holder : Cond.instanceMethod yX11_holder ∈ nk_T := nk_in (i := 1000) (by decide +kernel) rfl
theorem se_RX11_X11_holder : Cond.selects RX11 yX11_holder yX11_holder ∈ nk_T := nk_in (i := 1001) (by decide +kernel) rfl
theorem ml_RL_96 : Cond.methodLink RL 96 yX11_powers ∈ nk_T := nk_in (i := 196) (by decide +kernel) rfl
theorem co_X11_powers : Cond.code yX11_powers cX11_powers 1 (some FieldType.int) ∈ nk_T := nk_in (i := 199) (by decide +kernel) rfl
theorem my_X11_powers : nk_My yX11_powers cX11_powers 1 (some FieldType.int) 0 := ⟨co_X11_powers, in_RX11, ⟨by decide, by decide⟩, by decide +kernel⟩
theorem im_X11_powers : Cond.instanceMethod yX11_powers ∈ nk_T := nk_in (i := 197) (by decide +kernel) rfl
theorem se_RX11_X11_powers : Cond.selects RX11 yX11_powers yX11_powers ∈ nk_T := nk_in (i := 198) (by decide +kernel) rfl
theorem st_L_looks : Cond.static yL_looks ∈ nk_T := nk_in (i := 1040) (by decide +kernel) rfl
theorem ml_RL_126 : Cond.methodLink RL 126 yL_looks ∈ nk_T := nk_in (i := 1039) (by decide +kernel) rfl
theorem ml_RL_130 : Cond.methodLink RL 130 yX11_areJoined ∈ nk_T := nk_in (i := 1072) (by decide +kernel) rfl
theorem co_X11_areJoined : Cond.code yX11_areJoined cX11_areJoined 3 (some FieldType.boolean) ∈ nk_T := nk_in (i := 1075) (by decide +kernel) rfl
theorem my_X11_areJoined : nk_My yX11_areJoined cX11_areJoined 3 (some FieldType.boolean) 2 := ⟨co_X11_areJoined, in_RX11, ⟨by decide, by decide⟩, by decide +kernel⟩
theorem im_X11_areJoined : Cond.instanceMethod yX11_areJoined ∈ nk_T := nk_in (i := 1073) (by decide +kernel) rfl
theorem se_RX11_X11_areJoined : Cond.selects RX11 yX11_areJoined yX11_areJoined ∈ nk_T := nk_in (i := 1074) (by decide +kernel) rfl
theorem ml_RL_123 : Cond.methodLink RL 123 yX11_mail ∈ nk_T := nk_in (i := 1026) (by decide +kernel) rfl
theorem co_X11_mail : Cond.code yX11_mail cX11_mail 2 (some FieldType.int) ∈ nk_T := nk_in (i := 1029) (by decide +kernel) rfl
theorem my_X11_mail : nk_My yX11_mail cX11_mail 2 (some FieldType.int) 1 := ⟨co_X11_mail, in_RX11, ⟨by decide, by decide⟩, by decide +kernel⟩
theorem im_X11_mail : Cond.instanceMethod yX11_mail ∈ nk_T := nk_in (i := 1027) (by decide +kernel) rfl
theorem se_RX11_X11_mail : Cond.selects RX11 yX11_mail yX11_mail ∈ nk_T := nk_in (i := 1028) (by decide +kernel) rfl
theorem ml_RL_120 : Cond.methodLink RL 120 yX11_records ∈ nk_T := nk_in (i := 1022) (by decide +kernel) rfl
theorem co_X11_records : Cond.code yX11_records cX11_records 2 (some FieldType.int) ∈ nk_T := nk_in (i := 1025) (by decide +kernel) rfl
theorem my_X11_records : nk_My yX11_records cX11_records 2 (some FieldType.int) 1 := ⟨co_X11_records, in_RX11, ⟨by decide, by decide⟩, by decide +kernel⟩
theorem im_X11_records : Cond.instanceMethod yX11_records ∈ nk_T := nk_in (i := 1023) (by decide +kernel) rfl
theorem se_RX11_X11_records : Cond.selects RX11 yX11_records yX11_records ∈ nk_T := nk_in (i := 1024) (by decide +kernel) rfl
theorem ml_RL_117 : Cond.methodLink RL 117 yX11_standing ∈ nk_T := nk_in (i := 1014) (by decide +kernel) rfl
theorem co_X11_standing : Cond.code yX11_standing cX11_standing 3 (some FieldType.int) ∈ nk_T := nk_in (i := 1017) (by decide +kernel) rfl
theorem my_X11_standing : nk_My yX11_standing cX11_standing 3 (some FieldType.int) 0 := ⟨co_X11_standing, in_RX11, ⟨by decide, by decide⟩, by decide +kernel⟩
theorem im_X11_standing : Cond.instanceMethod yX11_standing ∈ nk_T := nk_in (i := 1015) (by decide +kernel) rfl
theorem se_RX11_X11_standing : Cond.selects RX11 yX11_standing yX11_standing ∈ nk_T := nk_in (i := 1016) (by decide +kernel) rfl
theorem ml_RL_114 : Cond.methodLink RL 114 yX11_news ∈ nk_T := nk_in (i := 1010) (by decide +kernel) rfl
theorem co_X11_news : Cond.code yX11_news cX11_news 1 (some FieldType.int) ∈ nk_T := nk_in (i := 1013) (by decide +kernel) rfl
theorem my_X11_news : nk_My yX11_news cX11_news 1 (some FieldType.int) 0 := ⟨co_X11_news, in_RX11, ⟨by decide, by decide⟩, by decide +kernel⟩
theorem im_X11_news : Cond.instanceMethod yX11_news ∈ nk_T := nk_in (i := 1011) (by decide +kernel) rfl
theorem se_RX11_X11_news : Cond.selects RX11 yX11_news yX11_news ∈ nk_T := nk_in (i := 1012) (by decide +kernel) rfl
theorem ml_RL_111 : Cond.methodLink RL 111 yX11_hour ∈ nk_T := nk_in (i := 1006) (by decide +kernel) rfl
theorem co_X11_hour : Cond.code yX11_hour cX11_hour 1 (some FieldType.int) ∈ nk_T := nk_in (i := 1009) (by decide +kernel) rfl
theorem my_X11_hour : nk_My yX11_hour cX11_hour 1 (some FieldType.int) 0 := ⟨co_X11_hour, in_RX11, ⟨by decide, by decide⟩, by decide +kernel⟩
theorem im_X11_hour : Cond.instanceMethod yX11_hour ∈ nk_T := nk_in (i := 1007) (by decide +kernel) rfl
theorem se_RX11_X11_hour : Cond.selects RX11 yX11_hour yX11_hour ∈ nk_T := nk_in (i := 1008) (by decide +kernel) rfl
theorem ml_RL_137 : Cond.methodLink RL 137 yX11_isRead ∈ nk_T := nk_in (i := 1092) (by decide +kernel) rfl
theorem co_X11_isRead : Cond.code yX11_isRead cX11_isRead 3 (some FieldType.boolean) ∈ nk_T := nk_in (i := 1095) (by decide +kernel) rfl
theorem my_X11_isRead : nk_My yX11_isRead cX11_isRead 3 (some FieldType.boolean) 2 := ⟨co_X11_isRead, in_RX11, ⟨by decide, by decide⟩, by decide +kernel⟩
theorem im_X11_isRead : Cond.instanceMethod yX11_isRead ∈ nk_T := nk_in (i := 1093) (by decide +kernel) rfl
theorem se_RX11_X11_isRead : Cond.selects RX11 yX11_isRead yX11_isRead ∈ nk_T := nk_in (i := 1094) (by decide +kernel) rfl
theorem ml_RL_134 : Cond.methodLink RL 134 yX11_came ∈ nk_T := nk_in (i := 1079) (by decide +kernel) rfl
theorem co_X11_came : Cond.code yX11_came cX11_came 3 (some FieldType.int) ∈ nk_T := nk_in (i := 1082) (by decide +kernel) rfl
theorem my_X11_came : nk_My yX11_came cX11_came 3 (some FieldType.int) 2 := ⟨co_X11_came, in_RX11, ⟨by decide, by decide⟩, by decide +kernel⟩
theorem im_X11_came : Cond.instanceMethod yX11_came ∈ nk_T := nk_in (i := 1080) (by decide +kernel) rfl
theorem se_RX11_X11_came : Cond.selects RX11 yX11_came yX11_came ∈ nk_T := nk_in (i := 1081) (by decide +kernel) rfl
theorem ml_RL_140 : Cond.methodLink RL 140 yX11_cameByLinks ∈ nk_T := nk_in (i := 1096) (by decide +kernel) rfl
theorem co_X11_cameByLinks : Cond.code yX11_cameByLinks cX11_cameByLinks 6 (some FieldType.int) ∈ nk_T := nk_in (i := 1099) (by decide +kernel) rfl
theorem my_X11_cameByLinks : nk_My yX11_cameByLinks cX11_cameByLinks 6 (some FieldType.int) 2 := ⟨co_X11_cameByLinks, in_RX11, ⟨by decide, by decide⟩, by decide +kernel⟩
theorem im_X11_cameByLinks : Cond.instanceMethod yX11_cameByLinks ∈ nk_T := nk_in (i := 1097) (by decide +kernel) rfl
theorem se_RX11_X11_cameByLinks : Cond.selects RX11 yX11_cameByLinks yX11_cameByLinks ∈ nk_T := nk_in (i := 1098) (by decide +kernel) rfl
theorem ml_RL_155 : Cond.methodLink RL 155 yX11_stands ∈ nk_T := nk_in (i := 1120) (by decide +kernel) rfl
theorem co_X11_stands : Cond.code yX11_stands cX11_stands 3 (some FieldType.boolean) ∈ nk_T := nk_in (i := 1123) (by decide +kernel) rfl
theorem my_X11_stands : nk_My yX11_stands cX11_stands 3 (some FieldType.boolean) 2 := ⟨co_X11_stands, in_RX11, ⟨by decide, by decide⟩, by decide +kernel⟩
theorem im_X11_stands : Cond.instanceMethod yX11_stands ∈ nk_T := nk_in (i := 1121) (by decide +kernel) rfl
theorem se_RX11_X11_stands : Cond.selects RX11 yX11_stands yX11_stands ∈ nk_T := nk_in (i := 1122) (by decide +kernel) rfl
theorem ml_RL_158 : Cond.methodLink RL 158 yX11_fault ∈ nk_T := nk_in (i := 1124) (by decide +kernel) rfl
theorem co_X11_fault : Cond.code yX11_fault cX11_fault 3 (some FieldType.int) ∈ nk_T := nk_in (i := 1127) (by decide +kernel) rfl
theorem my_X11_fault : nk_My yX11_fault cX11_fault 3 (some FieldType.int) 2 := ⟨co_X11_fault, in_RX11, ⟨by decide, by decide⟩, by decide +kernel⟩
theorem im_X11_fault : Cond.instanceMethod yX11_fault ∈ nk_T := nk_in (i := 1125) (by decide +kernel) rfl
theorem se_RX11_X11_fault : Cond.selects RX11 yX11_fault yX11_fault ∈ nk_T := nk_in (i := 1126) (by decide +kernel) rfl
theorem ml_RL_152 : Cond.methodLink RL 152 yX11_part ∈ nk_T := nk_in (i := 1116) (by decide +kernel) rfl
theorem co_X11_part : Cond.code yX11_part cX11_part 4 (some FieldType.int) ∈ nk_T := nk_in (i := 1119) (by decide +kernel) rfl
theorem my_X11_part : nk_My yX11_part cX11_part 4 (some FieldType.int) 3 := ⟨co_X11_part, in_RX11, ⟨by decide, by decide⟩, by decide +kernel⟩
theorem im_X11_part : Cond.instanceMethod yX11_part ∈ nk_T := nk_in (i := 1117) (by decide +kernel) rfl
theorem se_RX11_X11_part : Cond.selects RX11 yX11_part yX11_part ∈ nk_T := nk_in (i := 1118) (by decide +kernel) rfl
theorem ml_RL_149 : Cond.methodLink RL 149 yX11_isGood ∈ nk_T := nk_in (i := 1112) (by decide +kernel) rfl
theorem co_X11_isGood : Cond.code yX11_isGood cX11_isGood 3 (some FieldType.boolean) ∈ nk_T := nk_in (i := 1115) (by decide +kernel) rfl
theorem my_X11_isGood : nk_My yX11_isGood cX11_isGood 3 (some FieldType.boolean) 2 := ⟨co_X11_isGood, in_RX11, ⟨by decide, by decide⟩, by decide +kernel⟩
theorem im_X11_isGood : Cond.instanceMethod yX11_isGood ∈ nk_T := nk_in (i := 1113) (by decide +kernel) rfl
theorem se_RX11_X11_isGood : Cond.selects RX11 yX11_isGood yX11_isGood ∈ nk_T := nk_in (i := 1114) (by decide +kernel) rfl
theorem ml_RL_146 : Cond.methodLink RL 146 yX11_pieceOf ∈ nk_T := nk_in (i := 1108) (by decide +kernel) rfl
theorem co_X11_pieceOf : Cond.code yX11_pieceOf cX11_pieceOf 3 (some FieldType.int) ∈ nk_T := nk_in (i := 1111) (by decide +kernel) rfl
theorem my_X11_pieceOf : nk_My yX11_pieceOf cX11_pieceOf 3 (some FieldType.int) 2 := ⟨co_X11_pieceOf, in_RX11, ⟨by decide, by decide⟩, by decide +kernel⟩
theorem im_X11_pieceOf : Cond.instanceMethod yX11_pieceOf ∈ nk_T := nk_in (i := 1109) (by decide +kernel) rfl
theorem se_RX11_X11_pieceOf : Cond.selects RX11 yX11_pieceOf yX11_pieceOf ∈ nk_T := nk_in (i := 1110) (by decide +kernel) rfl
theorem ml_RL_143 : Cond.methodLink RL 143 yX11_source ∈ nk_T := nk_in (i := 1104) (by decide +kernel) rfl
theorem co_X11_source : Cond.code yX11_source cX11_source 3 (some FieldType.int) ∈ nk_T := nk_in (i := 1107) (by decide +kernel) rfl
theorem my_X11_source : nk_My yX11_source cX11_source 3 (some FieldType.int) 1 := ⟨co_X11_source, in_RX11, ⟨by decide, by decide⟩, by decide +kernel⟩
theorem im_X11_source : Cond.instanceMethod yX11_source ∈ nk_T := nk_in (i := 1105) (by decide +kernel) rfl
theorem se_RX11_X11_source : Cond.selects RX11 yX11_source yX11_source ∈ nk_T := nk_in (i := 1106) (by decide +kernel) rfl
theorem ml_RL_161 : Cond.methodLink RL 161 yX11_seal ∈ nk_T := nk_in (i := 1131) (by decide +kernel) rfl
theorem co_X11_seal : Cond.code yX11_seal cX11_seal 3 (some FieldType.int) ∈ nk_T := nk_in (i := 1134) (by decide +kernel) rfl
theorem my_X11_seal : nk_My yX11_seal cX11_seal 3 (some FieldType.int) 2 := ⟨co_X11_seal, in_RX11, ⟨by decide, by decide⟩, by decide +kernel⟩
theorem im_X11_seal : Cond.instanceMethod yX11_seal ∈ nk_T := nk_in (i := 1132) (by decide +kernel) rfl
theorem se_RX11_X11_seal : Cond.selects RX11 yX11_seal yX11_seal ∈ nk_T := nk_in (i := 1133) (by decide +kernel) rfl
theorem ml_RL_164 : Cond.methodLink RL 164 yX11_copied ∈ nk_T := nk_in (i := 1138) (by decide +kernel) rfl
theorem co_X11_copied : Cond.code yX11_copied cX11_copied 5 (some FieldType.int) ∈ nk_T := nk_in (i := 1141) (by decide +kernel) rfl
theorem my_X11_copied : nk_My yX11_copied cX11_copied 5 (some FieldType.int) 3 := ⟨co_X11_copied, in_RX11, ⟨by decide, by decide⟩, by decide +kernel⟩
theorem im_X11_copied : Cond.instanceMethod yX11_copied ∈ nk_T := nk_in (i := 1139) (by decide +kernel) rfl
theorem se_RX11_X11_copied : Cond.selects RX11 yX11_copied yX11_copied ∈ nk_T := nk_in (i := 1140) (by decide +kernel) rfl
theorem st_L_isCopySo : Cond.static yL_isCopySo ∈ nk_T := nk_in (i := 1136) (by decide +kernel) rfl
theorem ml_RL_190 : Cond.methodLink RL 190 yL_isCopySo ∈ nk_T := nk_in (i := 1135) (by decide +kernel) rfl
theorem st_L_isTamperedSo : Cond.static yL_isTamperedSo ∈ nk_T := nk_in (i := 1129) (by decide +kernel) rfl
theorem ml_RL_187 : Cond.methodLink RL 187 yL_isTamperedSo ∈ nk_T := nk_in (i := 1128) (by decide +kernel) rfl
theorem st_L_isActSo : Cond.static yL_isActSo ∈ nk_T := nk_in (i := 1102) (by decide +kernel) rfl
theorem ml_RL_183 : Cond.methodLink RL 183 yL_isActSo ∈ nk_T := nk_in (i := 1101) (by decide +kernel) rfl
theorem st_L_isNewsSo : Cond.static yL_isNewsSo ∈ nk_T := nk_in (i := 1077) (by decide +kernel) rfl
theorem ml_RL_179 : Cond.methodLink RL 179 yL_isNewsSo ∈ nk_T := nk_in (i := 1076) (by decide +kernel) rfl
theorem st_L_areAlike : Cond.static yL_areAlike ∈ nk_T := nk_in (i := 1004) (by decide +kernel) rfl
theorem ml_RL_175 : Cond.methodLink RL 175 yL_areAlike ∈ nk_T := nk_in (i := 1003) (by decide +kernel) rfl
theorem st_L_cell : Cond.static yL_cell ∈ nk_T := nk_in (i := 187) (by decide +kernel) rfl
theorem ml_RL_168 : Cond.methodLink RL 168 yL_cell ∈ nk_T := nk_in (i := 186) (by decide +kernel) rfl
theorem st_L_act : Cond.static yL_act ∈ nk_T := nk_in (i := 194) (by decide +kernel) rfl
theorem ml_RL_172 : Cond.methodLink RL 172 yL_act ∈ nk_T := nk_in (i := 193) (by decide +kernel) rfl
theorem co_X11_init : Cond.code yX11_init cX11_init 2 (none : Option FieldType) ∈ nk_T := nk_in (i := 54) (by decide +kernel) rfl
theorem my_X11_init : nk_My yX11_init cX11_init 2 (none : Option FieldType) 0 := ⟨co_X11_init, in_RX11, ⟨by decide, by decide⟩, by decide +kernel⟩
theorem im_X11_init : Cond.instanceMethod yX11_init ∈ nk_T := nk_in (i := 53) (by decide +kernel) rfl
theorem ml_RL_167 : Cond.methodLink RL 167 yX11_init ∈ nk_T := nk_in (i := 52) (by decide +kernel) rfl
theorem cl_RL_9 : Cond.classLink RL 9 "NotaryKiosk" ∈ nk_T := nk_in (i := 50) (by decide +kernel) rfl
theorem ins_RX11 : Cond.instantiable RX11 9 ∈ nk_T := nk_in (i := 51) (by decide +kernel) rfl
