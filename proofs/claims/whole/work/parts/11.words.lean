theorem fk_RX12_31 : nk_Fk RX12 31 10 true [19] := ⟨⟨12, rfl, ⟨(RX12, TX12, 45), "NotaryKioskModel", rfl, by decide, nk_in (i := 1279) (by decide +kernel) rfl, Or.inl rfl⟩, rfl⟩, trivial⟩
theorem fk_RX12_7 : nk_Fk RX12 7 2 true [19] := ⟨⟨12, rfl, ⟨(RX12, TX12, 45), "NotaryKioskModel", rfl, by decide, nk_in (i := 1271) (by decide +kernel) rfl, Or.inl rfl⟩, rfl⟩, trivial⟩
theorem fw_RX12_7_i : nk_Fw RX12 true 2 [19] := ⟨fun ci q e h => by
    have e2 : ci = 12 := by omega
    subst e2
    cases h
    exact ⟨Or.inr ⟨rfl, rfl, rfl⟩, Or.inr ⟨rfl, Or.inr ⟨.int, by decide +kernel⟩⟩⟩, trivial⟩
theorem fk_RX12_13 : nk_Fk RX12 13 4 true [19] := ⟨⟨12, rfl, ⟨(RX12, TX12, 45), "NotaryKioskModel", rfl, by decide, nk_in (i := 1273) (by decide +kernel) rfl, Or.inl rfl⟩, rfl⟩, trivial⟩
theorem fw_RX12_13_i : nk_Fw RX12 true 4 [19] := ⟨fun ci q e h => by
    have e2 : ci = 12 := by omega
    subst e2
    cases h
    exact ⟨Or.inr ⟨rfl, rfl, rfl⟩, Or.inr ⟨rfl, Or.inr ⟨.int, by decide +kernel⟩⟩⟩, trivial⟩
theorem fk_RX12_16 : nk_Fk RX12 16 5 true [19] := ⟨⟨12, rfl, ⟨(RX12, TX12, 45), "NotaryKioskModel", rfl, by decide, nk_in (i := 1274) (by decide +kernel) rfl, Or.inl rfl⟩, rfl⟩, trivial⟩
theorem fw_RX12_16_i : nk_Fw RX12 true 5 [19] := ⟨fun ci q e h => by
    have e2 : ci = 12 := by omega
    subst e2
    cases h
    exact ⟨Or.inr ⟨rfl, rfl, rfl⟩, Or.inr ⟨rfl, Or.inr ⟨.int, by decide +kernel⟩⟩⟩, trivial⟩
theorem fk_RX12_19 : nk_Fk RX12 19 6 true [19] := ⟨⟨12, rfl, ⟨(RX12, TX12, 45), "NotaryKioskModel", rfl, by decide, nk_in (i := 1275) (by decide +kernel) rfl, Or.inl rfl⟩, rfl⟩, trivial⟩
theorem fw_RX12_19_i : nk_Fw RX12 true 6 [19] := ⟨fun ci q e h => by
    have e2 : ci = 12 := by omega
    subst e2
    cases h
    exact ⟨Or.inr ⟨rfl, rfl, rfl⟩, Or.inr ⟨rfl, Or.inr ⟨.int, by decide +kernel⟩⟩⟩, trivial⟩
theorem fk_RX12_22 : nk_Fk RX12 22 7 true [19] := ⟨⟨12, rfl, ⟨(RX12, TX12, 45), "NotaryKioskModel", rfl, by decide, nk_in (i := 1276) (by decide +kernel) rfl, Or.inl rfl⟩, rfl⟩, trivial⟩
theorem fw_RX12_22_i : nk_Fw RX12 true 7 [19] := ⟨fun ci q e h => by
    have e2 : ci = 12 := by omega
    subst e2
    cases h
    exact ⟨Or.inr ⟨rfl, rfl, rfl⟩, Or.inr ⟨rfl, Or.inr ⟨.int, by decide +kernel⟩⟩⟩, trivial⟩
theorem fk_RX12_25 : nk_Fk RX12 25 8 true [19] := ⟨⟨12, rfl, ⟨(RX12, TX12, 45), "NotaryKioskModel", rfl, by decide, nk_in (i := 1277) (by decide +kernel) rfl, Or.inl rfl⟩, rfl⟩, trivial⟩
theorem fw_RX12_25_i : nk_Fw RX12 true 8 [19] := ⟨fun ci q e h => by
    have e2 : ci = 12 := by omega
    subst e2
    cases h
    exact ⟨Or.inr ⟨rfl, rfl, rfl⟩, Or.inr ⟨rfl, Or.inr ⟨.int, by decide +kernel⟩⟩⟩, trivial⟩
theorem fk_RX12_28 : nk_Fk RX12 28 9 true [19] := ⟨⟨12, rfl, ⟨(RX12, TX12, 45), "NotaryKioskModel", rfl, by decide, nk_in (i := 1278) (by decide +kernel) rfl, Or.inl rfl⟩, rfl⟩, trivial⟩
theorem fw_RX12_28_i : nk_Fw RX12 true 9 [19] := ⟨fun ci q e h => by
    have e2 : ci = 12 := by omega
    subst e2
    cases h
    exact ⟨Or.inr ⟨rfl, rfl, rfl⟩, Or.inr ⟨rfl, Or.inr ⟨.int, by decide +kernel⟩⟩⟩, trivial⟩
theorem fw_RX12_31_i : nk_Fw RX12 true 10 [19] := ⟨fun ci q e h => by
    have e2 : ci = 12 := by omega
    subst e2
    cases h
    exact ⟨Or.inr ⟨rfl, rfl, rfl⟩, Or.inr ⟨rfl, Or.inr ⟨.int, by decide +kernel⟩⟩⟩, trivial⟩
theorem fk_RX12_34 : nk_Fk RX12 34 11 true [19] := ⟨⟨12, rfl, ⟨(RX12, TX12, 45), "NotaryKioskModel", rfl, by decide, nk_in (i := 1280) (by decide +kernel) rfl, Or.inl rfl⟩, rfl⟩, trivial⟩
theorem fw_RX12_34_i : nk_Fw RX12 true 11 [19] := ⟨fun ci q e h => by
    have e2 : ci = 12 := by omega
    subst e2
    cases h
    exact ⟨Or.inr ⟨rfl, rfl, rfl⟩, Or.inr ⟨rfl, Or.inr ⟨.boolean, by decide +kernel⟩⟩⟩, trivial⟩
theorem fk_RX12_38 : nk_Fk RX12 38 13 true [19] := ⟨⟨12, rfl, ⟨(RX12, TX12, 45), "NotaryKioskModel", rfl, by decide, nk_in (i := 1282) (by decide +kernel) rfl, Or.inl rfl⟩, rfl⟩, trivial⟩
theorem fw_RX12_38_i : nk_Fw RX12 true 13 [19] := ⟨fun ci q e h => by
    have e2 : ci = 12 := by omega
    subst e2
    cases h
    exact ⟨Or.inr ⟨rfl, rfl, rfl⟩, Or.inr ⟨rfl, Or.inr ⟨.int, by decide +kernel⟩⟩⟩, trivial⟩
theorem fk_RX12_41 : nk_Fk RX12 41 14 true [19] := ⟨⟨12, rfl, ⟨(RX12, TX12, 45), "NotaryKioskModel", rfl, by decide, nk_in (i := 1283) (by decide +kernel) rfl, Or.inl rfl⟩, rfl⟩, trivial⟩
theorem fw_RX12_41_i : nk_Fw RX12 true 14 [19] := ⟨fun ci q e h => by
    have e2 : ci = 12 := by omega
    subst e2
    cases h
    exact ⟨Or.inr ⟨rfl, rfl, rfl⟩, Or.inr ⟨rfl, Or.inr ⟨.int, by decide +kernel⟩⟩⟩, trivial⟩
theorem fk_RX12_44 : nk_Fk RX12 44 15 true [19] := ⟨⟨12, rfl, ⟨(RX12, TX12, 45), "NotaryKioskModel", rfl, by decide, nk_in (i := 1284) (by decide +kernel) rfl, Or.inl rfl⟩, rfl⟩, trivial⟩
theorem fw_RX12_44_i : nk_Fw RX12 true 15 [19] := ⟨fun ci q e h => by
    have e2 : ci = 12 := by omega
    subst e2
    cases h
    exact ⟨Or.inr ⟨rfl, rfl, rfl⟩, Or.inr ⟨rfl, Or.inr ⟨.int, by decide +kernel⟩⟩⟩, trivial⟩
theorem fk_RX12_47 : nk_Fk RX12 47 16 true [19] := ⟨⟨12, rfl, ⟨(RX12, TX12, 45), "NotaryKioskModel", rfl, by decide, nk_in (i := 1285) (by decide +kernel) rfl, Or.inl rfl⟩, rfl⟩, trivial⟩
theorem fw_RX12_47_i : nk_Fw RX12 true 16 [19] := ⟨fun ci q e h => by
    have e2 : ci = 12 := by omega
    subst e2
    cases h
    exact ⟨Or.inr ⟨rfl, rfl, rfl⟩, Or.inr ⟨rfl, Or.inr ⟨.int, by decide +kernel⟩⟩⟩, trivial⟩
theorem fk_RX12_50 : nk_Fk RX12 50 17 true [19] := ⟨⟨12, rfl, ⟨(RX12, TX12, 45), "NotaryKioskModel", rfl, by decide, nk_in (i := 1286) (by decide +kernel) rfl, Or.inl rfl⟩, rfl⟩, trivial⟩
theorem fw_RX12_50_i : nk_Fw RX12 true 17 [19] := ⟨fun ci q e h => by
    have e2 : ci = 12 := by omega
    subst e2
    cases h
    exact ⟨Or.inr ⟨rfl, rfl, rfl⟩, Or.inr ⟨rfl, Or.inr ⟨.int, by decide +kernel⟩⟩⟩, trivial⟩
theorem fk_RX12_53 : nk_Fk RX12 53 18 true [19] := ⟨⟨12, rfl, ⟨(RX12, TX12, 45), "NotaryKioskModel", rfl, by decide, nk_in (i := 1287) (by decide +kernel) rfl, Or.inl rfl⟩, rfl⟩, trivial⟩
theorem fw_RX12_53_i : nk_Fw RX12 true 18 [19] := ⟨fun ci q e h => by
    have e2 : ci = 12 := by omega
    subst e2
    cases h
    exact ⟨Or.inr ⟨rfl, rfl, rfl⟩, Or.inr ⟨rfl, Or.inr ⟨.int, by decide +kernel⟩⟩⟩, trivial⟩
theorem fk_RX12_56 : nk_Fk RX12 56 19 true [19] := ⟨⟨12, rfl, ⟨(RX12, TX12, 45), "NotaryKioskModel", rfl, by decide, nk_in (i := 1288) (by decide +kernel) rfl, Or.inl rfl⟩, rfl⟩, trivial⟩
theorem fw_RX12_56_i : nk_Fw RX12 true 19 [19] := ⟨fun ci q e h => by
    have e2 : ci = 12 := by omega
    subst e2
    cases h
    exact ⟨Or.inr ⟨rfl, rfl, rfl⟩, Or.inr ⟨rfl, Or.inr ⟨.int, by decide +kernel⟩⟩⟩, trivial⟩
theorem fk_RX12_59 : nk_Fk RX12 59 20 true [19] := ⟨⟨12, rfl, ⟨(RX12, TX12, 45), "NotaryKioskModel", rfl, by decide, nk_in (i := 1289) (by decide +kernel) rfl, Or.inl rfl⟩, rfl⟩, trivial⟩
theorem fw_RX12_59_i : nk_Fw RX12 true 20 [19] := ⟨fun ci q e h => by
    have e2 : ci = 12 := by omega
    subst e2
    cases h
    exact ⟨Or.inr ⟨rfl, rfl, rfl⟩, Or.inr ⟨rfl, Or.inr ⟨.int, by decide +kernel⟩⟩⟩, trivial⟩
theorem fk_RX12_62 : nk_Fk RX12 62 21 true [19] := ⟨⟨12, rfl, ⟨(RX12, TX12, 45), "NotaryKioskModel", rfl, by decide, nk_in (i := 1290) (by decide +kernel) rfl, Or.inl rfl⟩, rfl⟩, trivial⟩
theorem fw_RX12_62_i : nk_Fw RX12 true 21 [19] := ⟨fun ci q e h => by
    have e2 : ci = 12 := by omega
    subst e2
    cases h
    exact ⟨Or.inr ⟨rfl, rfl, rfl⟩, Or.inr ⟨rfl, Or.inr ⟨.int, by decide +kernel⟩⟩⟩, trivial⟩
theorem fk_RX12_65 : nk_Fk RX12 65 22 false [19] := ⟨⟨12, rfl, ⟨(RX12, TX12, 45), "NotaryKioskModel", rfl, by decide, nk_in (i := 1291) (by decide +kernel) rfl, Or.inl rfl⟩, rfl⟩, trivial⟩
theorem fw_RX12_65_i : nk_Fw RX12 true 22 [19] := ⟨fun ci q e h => by
    have e2 : ci = 12 := by omega
    subst e2
    cases h
    exact ⟨Or.inl rfl, Or.inl ⟨by decide +kernel, rfl⟩⟩, trivial⟩
theorem fk_RX12_69 : nk_Fk RX12 69 23 false [19] := ⟨⟨12, rfl, ⟨(RX12, TX12, 45), "NotaryKioskModel", rfl, by decide, nk_in (i := 1292) (by decide +kernel) rfl, Or.inl rfl⟩, rfl⟩, trivial⟩
theorem fw_RX12_69_i : nk_Fw RX12 true 23 [19] := ⟨fun ci q e h => by
    have e2 : ci = 12 := by omega
    subst e2
    cases h
    exact ⟨Or.inl rfl, Or.inl ⟨by decide +kernel, rfl⟩⟩, trivial⟩
theorem kc_RX12_72 : Cond.constant RX12 72 100000 ∈ nk_T := nk_in (i := 1268) (by decide +kernel) rfl
theorem fk_RX12_73 : nk_Fk RX12 73 24 false [19] := ⟨⟨12, rfl, ⟨(RX12, TX12, 45), "NotaryKioskModel", rfl, by decide, nk_in (i := 1293) (by decide +kernel) rfl, Or.inl rfl⟩, rfl⟩, trivial⟩
theorem fw_RX12_73_i : nk_Fw RX12 true 24 [19] := ⟨fun ci q e h => by
    have e2 : ci = 12 := by omega
    subst e2
    cases h
    exact ⟨Or.inl rfl, Or.inl ⟨by decide +kernel, rfl⟩⟩, trivial⟩
theorem fk_RX12_76 : nk_Fk RX12 76 25 false [19] := ⟨⟨12, rfl, ⟨(RX12, TX12, 45), "NotaryKioskModel", rfl, by decide, nk_in (i := 1294) (by decide +kernel) rfl, Or.inl rfl⟩, rfl⟩, trivial⟩
theorem fw_RX12_76_i : nk_Fw RX12 true 25 [19] := ⟨fun ci q e h => by
    have e2 : ci = 12 := by omega
    subst e2
    cases h
    exact ⟨Or.inl rfl, Or.inl ⟨by decide +kernel, rfl⟩⟩, trivial⟩
theorem fk_RX12_79 : nk_Fk RX12 79 30 true [19] := ⟨⟨12, rfl, ⟨(RX12, TX12, 45), "NotaryKioskModel", rfl, by decide, nk_in (i := 1299) (by decide +kernel) rfl, Or.inl rfl⟩, rfl⟩, trivial⟩
theorem fw_RX12_79_i : nk_Fw RX12 true 30 [19] := ⟨fun ci q e h => by
    have e2 : ci = 12 := by omega
    subst e2
    cases h
    exact ⟨Or.inr ⟨rfl, rfl, rfl⟩, Or.inr ⟨rfl, Or.inr ⟨.int, by decide +kernel⟩⟩⟩, trivial⟩
theorem fk_RX12_82 : nk_Fk RX12 82 31 true [19] := ⟨⟨12, rfl, ⟨(RX12, TX12, 45), "NotaryKioskModel", rfl, by decide, nk_in (i := 1300) (by decide +kernel) rfl, Or.inl rfl⟩, rfl⟩, trivial⟩
theorem fw_RX12_82_i : nk_Fw RX12 true 31 [19] := ⟨fun ci q e h => by
    have e2 : ci = 12 := by omega
    subst e2
    cases h
    exact ⟨Or.inr ⟨rfl, rfl, rfl⟩, Or.inr ⟨rfl, Or.inr ⟨.int, by decide +kernel⟩⟩⟩, trivial⟩
theorem fk_RX12_85 : nk_Fk RX12 85 32 true [19] := ⟨⟨12, rfl, ⟨(RX12, TX12, 45), "NotaryKioskModel", rfl, by decide, nk_in (i := 1301) (by decide +kernel) rfl, Or.inl rfl⟩, rfl⟩, trivial⟩
theorem fw_RX12_85_i : nk_Fw RX12 true 32 [19] := ⟨fun ci q e h => by
    have e2 : ci = 12 := by omega
    subst e2
    cases h
    exact ⟨Or.inr ⟨rfl, rfl, rfl⟩, Or.inr ⟨rfl, Or.inr ⟨.int, by decide +kernel⟩⟩⟩, trivial⟩
theorem fk_RX12_88 : nk_Fk RX12 88 33 true [19] := ⟨⟨12, rfl, ⟨(RX12, TX12, 45), "NotaryKioskModel", rfl, by decide, nk_in (i := 1302) (by decide +kernel) rfl, Or.inl rfl⟩, rfl⟩, trivial⟩
theorem fw_RX12_88_i : nk_Fw RX12 true 33 [19] := ⟨fun ci q e h => by
    have e2 : ci = 12 := by omega
    subst e2
    cases h
    exact ⟨Or.inr ⟨rfl, rfl, rfl⟩, Or.inr ⟨rfl, Or.inr ⟨.int, by decide +kernel⟩⟩⟩, trivial⟩
theorem fk_RX12_91 : nk_Fk RX12 91 34 true [19] := ⟨⟨12, rfl, ⟨(RX12, TX12, 45), "NotaryKioskModel", rfl, by decide, nk_in (i := 1303) (by decide +kernel) rfl, Or.inl rfl⟩, rfl⟩, trivial⟩
theorem fw_RX12_91_i : nk_Fw RX12 true 34 [19] := ⟨fun ci q e h => by
    have e2 : ci = 12 := by omega
    subst e2
    cases h
    exact ⟨Or.inr ⟨rfl, rfl, rfl⟩, Or.inr ⟨rfl, Or.inr ⟨.int, by decide +kernel⟩⟩⟩, trivial⟩
theorem fk_RX12_94 : nk_Fk RX12 94 35 true [19] := ⟨⟨12, rfl, ⟨(RX12, TX12, 45), "NotaryKioskModel", rfl, by decide, nk_in (i := 1304) (by decide +kernel) rfl, Or.inl rfl⟩, rfl⟩, trivial⟩
theorem fw_RX12_94_i : nk_Fw RX12 true 35 [19] := ⟨fun ci q e h => by
    have e2 : ci = 12 := by omega
    subst e2
    cases h
    exact ⟨Or.inr ⟨rfl, rfl, rfl⟩, Or.inr ⟨rfl, Or.inr ⟨.int, by decide +kernel⟩⟩⟩, trivial⟩
theorem fk_RX12_97 : nk_Fk RX12 97 36 true [19] := ⟨⟨12, rfl, ⟨(RX12, TX12, 45), "NotaryKioskModel", rfl, by decide, nk_in (i := 1305) (by decide +kernel) rfl, Or.inl rfl⟩, rfl⟩, trivial⟩
theorem fw_RX12_97_i : nk_Fw RX12 true 36 [19] := ⟨fun ci q e h => by
    have e2 : ci = 12 := by omega
    subst e2
    cases h
    exact ⟨Or.inr ⟨rfl, rfl, rfl⟩, Or.inr ⟨rfl, Or.inr ⟨.boolean, by decide +kernel⟩⟩⟩, trivial⟩
theorem fk_RX12_100 : nk_Fk RX12 100 38 true [19] := ⟨⟨12, rfl, ⟨(RX12, TX12, 45), "NotaryKioskModel", rfl, by decide, nk_in (i := 1307) (by decide +kernel) rfl, Or.inl rfl⟩, rfl⟩, trivial⟩
theorem fw_RX12_100_i : nk_Fw RX12 true 38 [19] := ⟨fun ci q e h => by
    have e2 : ci = 12 := by omega
    subst e2
    cases h
    exact ⟨Or.inr ⟨rfl, rfl, rfl⟩, Or.inr ⟨rfl, Or.inr ⟨.int, by decide +kernel⟩⟩⟩, trivial⟩
theorem fk_RX12_103 : nk_Fk RX12 103 39 true [19] := ⟨⟨12, rfl, ⟨(RX12, TX12, 45), "NotaryKioskModel", rfl, by decide, nk_in (i := 1308) (by decide +kernel) rfl, Or.inl rfl⟩, rfl⟩, trivial⟩
theorem fw_RX12_103_i : nk_Fw RX12 true 39 [19] := ⟨fun ci q e h => by
    have e2 : ci = 12 := by omega
    subst e2
    cases h
    exact ⟨Or.inr ⟨rfl, rfl, rfl⟩, Or.inr ⟨rfl, Or.inr ⟨.int, by decide +kernel⟩⟩⟩, trivial⟩
theorem fk_RX12_106 : nk_Fk RX12 106 40 true [19] := ⟨⟨12, rfl, ⟨(RX12, TX12, 45), "NotaryKioskModel", rfl, by decide, nk_in (i := 1309) (by decide +kernel) rfl, Or.inl rfl⟩, rfl⟩, trivial⟩
theorem fw_RX12_106_i : nk_Fw RX12 true 40 [19] := ⟨fun ci q e h => by
    have e2 : ci = 12 := by omega
    subst e2
    cases h
    exact ⟨Or.inr ⟨rfl, rfl, rfl⟩, Or.inr ⟨rfl, Or.inr ⟨.int, by decide +kernel⟩⟩⟩, trivial⟩
theorem fk_RX12_109 : nk_Fk RX12 109 41 true [19] := ⟨⟨12, rfl, ⟨(RX12, TX12, 45), "NotaryKioskModel", rfl, by decide, nk_in (i := 1310) (by decide +kernel) rfl, Or.inl rfl⟩, rfl⟩, trivial⟩
theorem fw_RX12_109_i : nk_Fw RX12 true 41 [19] := ⟨fun ci q e h => by
    have e2 : ci = 12 := by omega
    subst e2
    cases h
    exact ⟨Or.inr ⟨rfl, rfl, rfl⟩, Or.inr ⟨rfl, Or.inr ⟨.int, by decide +kernel⟩⟩⟩, trivial⟩
theorem fk_RX12_112 : nk_Fk RX12 112 42 true [19] := ⟨⟨12, rfl, ⟨(RX12, TX12, 45), "NotaryKioskModel", rfl, by decide, nk_in (i := 1311) (by decide +kernel) rfl, Or.inl rfl⟩, rfl⟩, trivial⟩
theorem fw_RX12_112_i : nk_Fw RX12 true 42 [19] := ⟨fun ci q e h => by
    have e2 : ci = 12 := by omega
    subst e2
    cases h
    exact ⟨Or.inr ⟨rfl, rfl, rfl⟩, Or.inr ⟨rfl, Or.inr ⟨.int, by decide +kernel⟩⟩⟩, trivial⟩
theorem fk_RX12_115 : nk_Fk RX12 115 43 true [19] := ⟨⟨12, rfl, ⟨(RX12, TX12, 45), "NotaryKioskModel", rfl, by decide, nk_in (i := 1312) (by decide +kernel) rfl, Or.inl rfl⟩, rfl⟩, trivial⟩
theorem fw_RX12_115_i : nk_Fw RX12 true 43 [19] := ⟨fun ci q e h => by
    have e2 : ci = 12 := by omega
    subst e2
    cases h
    exact ⟨Or.inr ⟨rfl, rfl, rfl⟩, Or.inr ⟨rfl, Or.inr ⟨.int, by decide +kernel⟩⟩⟩, trivial⟩
theorem fk_RX12_118 : nk_Fk RX12 118 44 true [19] := ⟨⟨12, rfl, ⟨(RX12, TX12, 45), "NotaryKioskModel", rfl, by decide, nk_in (i := 1313) (by decide +kernel) rfl, Or.inl rfl⟩, rfl⟩, trivial⟩
theorem fw_RX12_118_i : nk_Fw RX12 true 44 [19] := ⟨fun ci q e h => by
    have e2 : ci = 12 := by omega
    subst e2
    cases h
    exact ⟨Or.inr ⟨rfl, rfl, rfl⟩, Or.inr ⟨rfl, Or.inr ⟨.int, by decide +kernel⟩⟩⟩, trivial⟩
theorem ac_int : Cond.arrayClass (newarray.typeOf .int) ∈ nk_T := nk_in (i := 112) (by decide +kernel) rfl
theorem ac_boolean : Cond.arrayClass (newarray.typeOf .boolean) ∈ nk_T := nk_in (i := 152) (by decide +kernel) rfl
theorem ml_RX12_1 : Cond.methodLink RX12 1 ⟨"java/lang/Object", "<init>", "()V"⟩ ∈ nk_T := nk_in (i := 1267) (by decide +kernel) rfl
theorem oi_i : Cond.instanceMethod objectInit ∈ nk_T := nk_in (i := 97) (by decide +kernel) rfl
theorem oi_c : Cond.code objectInit ⟨#[0xb1]⟩ 1 none ∈ nk_T := nk_in (i := 98) (by decide +kernel) rfl
theorem fk_RX12_121 : nk_Fk RX12 121 0 false [19] := ⟨⟨12, rfl, ⟨(RX12, TX12, 45), "NotaryKioskModel", rfl, by decide, nk_in (i := 1269) (by decide +kernel) rfl, Or.inl rfl⟩, rfl⟩, trivial⟩
theorem fw_RX12_121_n : nk_Fw RX12 false 0 [19] := ⟨fun ci q e h => by
    have e2 : ci = 12 := by omega
    subst e2
    cases h
    exact ⟨Or.inl rfl, Or.inl ⟨by decide +kernel, rfl⟩⟩, trivial⟩
theorem co_X12_in : Cond.code yX12_in cX12_in 3 (some FieldType.boolean) ∈ nk_T := nk_in (i := 1422) (by decide +kernel) rfl
theorem in_RX12 : Cond.initialized RX12 ∈ nk_T := nk_in (i := 70) (by decide +kernel) rfl
theorem my_X12_in : nk_My yX12_in cX12_in 3 (some FieldType.boolean) 3 := ⟨co_X12_in, in_RX12, ⟨by decide, by decide⟩, by decide +kernel⟩
theorem st_X12_in : Cond.static yX12_in ∈ nk_T := nk_in (i := 1421) (by decide +kernel) rfl
theorem ml_RX12_124 : Cond.methodLink RX12 124 yX12_in ∈ nk_T := nk_in (i := 1420) (by decide +kernel) rfl
theorem fk_RX12_128 : nk_Fk RX12 128 12 false [19] := ⟨⟨12, rfl, ⟨(RX12, TX12, 45), "NotaryKioskModel", rfl, by decide, nk_in (i := 1281) (by decide +kernel) rfl, Or.inl rfl⟩, rfl⟩, trivial⟩
theorem co_X12_isKiosk : Cond.code yX12_isKiosk cX12_isKiosk 1 (some FieldType.boolean) ∈ nk_T := nk_in (i := 1419) (by decide +kernel) rfl
theorem my_X12_isKiosk : nk_My yX12_isKiosk cX12_isKiosk 1 (some FieldType.boolean) 1 := ⟨co_X12_isKiosk, in_RX12, ⟨by decide, by decide⟩, by decide +kernel⟩
theorem st_X12_isKiosk : Cond.static yX12_isKiosk ∈ nk_T := nk_in (i := 1418) (by decide +kernel) rfl
theorem ml_RX12_131 : Cond.methodLink RX12 131 yX12_isKiosk ∈ nk_T := nk_in (i := 1417) (by decide +kernel) rfl
theorem co_X12_many : Cond.code yX12_many cX12_many 3 (some FieldType.int) ∈ nk_T := nk_in (i := 1433) (by decide +kernel) rfl
theorem my_X12_many : nk_My yX12_many cX12_many 3 (some FieldType.int) 1 := ⟨co_X12_many, in_RX12, ⟨by decide, by decide⟩, by decide +kernel⟩
theorem st_X12_many : Cond.static yX12_many ∈ nk_T := nk_in (i := 1432) (by decide +kernel) rfl
theorem ml_RX12_135 : Cond.methodLink RX12 135 yX12_many ∈ nk_T := nk_in (i := 1431) (by decide +kernel) rfl
theorem ml_RX12_146 : Cond.methodLink RX12 146 yX12_turns ∈ nk_T := nk_in (i := 1427) (by decide +kernel) rfl
theorem co_X12_turns : Cond.code yX12_turns cX12_turns 3 (some FieldType.int) ∈ nk_T := nk_in (i := 1430) (by decide +kernel) rfl
theorem my_X12_turns : nk_My yX12_turns cX12_turns 3 (some FieldType.int) 2 := ⟨co_X12_turns, in_RX12, ⟨by decide, by decide⟩, by decide +kernel⟩
theorem im_X12_turns : Cond.instanceMethod yX12_turns ∈ nk_T := nk_in (i := 1429) (by decide +kernel) rfl
theorem se_RX12_X12_turns : Cond.selects RX12 yX12_turns yX12_turns ∈ nk_T := nk_in (i := 23) (by decide +kernel) rfl
theorem ml_RX12_143 : Cond.methodLink RX12 143 yX12_holds ∈ nk_T := nk_in (i := 1423) (by decide +kernel) rfl
theorem co_X12_holds : Cond.code yX12_holds cX12_holds 2 (some FieldType.boolean) ∈ nk_T := nk_in (i := 1426) (by decide +kernel) rfl
theorem my_X12_holds : nk_My yX12_holds cX12_holds 2 (some FieldType.boolean) 1 := ⟨co_X12_holds, in_RX12, ⟨by decide, by decide⟩, by decide +kernel⟩
theorem im_X12_holds : Cond.instanceMethod yX12_holds ∈ nk_T := nk_in (i := 1425) (by decide +kernel) rfl
theorem se_RX12_X12_holds : Cond.selects RX12 yX12_holds yX12_holds ∈ nk_T := nk_in (i := 22) (by decide +kernel) rfl
theorem ml_RX12_139 : Cond.methodLink RX12 139 yX12_errorOfLink ∈ nk_T := nk_in (i := 1413) (by decide +kernel) rfl
theorem co_X12_errorOfLink : Cond.code yX12_errorOfLink cX12_errorOfLink 4 (some FieldType.int) ∈ nk_T := nk_in (i := 1416) (by decide +kernel) rfl
theorem my_X12_errorOfLink : nk_My yX12_errorOfLink cX12_errorOfLink 4 (some FieldType.int) 3 := ⟨co_X12_errorOfLink, in_RX12, ⟨by decide, by decide⟩, by decide +kernel⟩
theorem im_X12_errorOfLink : Cond.instanceMethod yX12_errorOfLink ∈ nk_T := nk_in (i := 1415) (by decide +kernel) rfl
theorem se_RX12_X12_errorOfLink : Cond.selects RX12 yX12_errorOfLink yX12_errorOfLink ∈ nk_T := nk_in (i := 21) (by decide +kernel) rfl
theorem fk_RX12_150 : nk_Fk RX12 150 1 false [19] := ⟨⟨12, rfl, ⟨(RX12, TX12, 45), "NotaryKioskModel", rfl, by decide, nk_in (i := 1270) (by decide +kernel) rfl, Or.inl rfl⟩, rfl⟩, trivial⟩
theorem fk_RX12_153 : nk_Fk RX12 153 3 false [19] := ⟨⟨12, rfl, ⟨(RX12, TX12, 45), "NotaryKioskModel", rfl, by decide, nk_in (i := 1272) (by decide +kernel) rfl, Or.inl rfl⟩, rfl⟩, trivial⟩
theorem ml_RX12_156 : Cond.methodLink RX12 156 yX12_goesOn ∈ nk_T := nk_in (i := 1442) (by decide +kernel) rfl
theorem co_X12_goesOn : Cond.code yX12_goesOn cX12_goesOn 7 (some FieldType.int) ∈ nk_T := nk_in (i := 1445) (by decide +kernel) rfl
theorem my_X12_goesOn : nk_My yX12_goesOn cX12_goesOn 7 (some FieldType.int) 1 := ⟨co_X12_goesOn, in_RX12, ⟨by decide, by decide⟩, by decide +kernel⟩
theorem im_X12_goesOn : Cond.instanceMethod yX12_goesOn ∈ nk_T := nk_in (i := 1444) (by decide +kernel) rfl
theorem se_RX12_X12_goesOn : Cond.selects RX12 yX12_goesOn yX12_goesOn ∈ nk_T := nk_in (i := 24) (by decide +kernel) rfl
theorem fw_RX12_150_n : nk_Fw RX12 false 1 [19] := ⟨fun ci q e h => by
    have e2 : ci = 12 := by omega
    subst e2
    cases h
    exact ⟨Or.inl rfl, Or.inl ⟨by decide +kernel, rfl⟩⟩, trivial⟩
theorem ml_RX12_159 : Cond.methodLink RX12 159 yX12_unread ∈ nk_T := nk_in (i := 1450) (by decide +kernel) rfl
theorem co_X12_unread : Cond.code yX12_unread cX12_unread 4 (some FieldType.int) ∈ nk_T := nk_in (i := 1453) (by decide +kernel) rfl
theorem my_X12_unread : nk_My yX12_unread cX12_unread 4 (some FieldType.int) 1 := ⟨co_X12_unread, in_RX12, ⟨by decide, by decide⟩, by decide +kernel⟩
theorem im_X12_unread : Cond.instanceMethod yX12_unread ∈ nk_T := nk_in (i := 1452) (by decide +kernel) rfl
theorem se_RX12_X12_unread : Cond.selects RX12 yX12_unread yX12_unread ∈ nk_T := nk_in (i := 25) (by decide +kernel) rfl
theorem fw_RX12_153_n : nk_Fw RX12 false 3 [19] := ⟨fun ci q e h => by
    have e2 : ci = 12 := by omega
    subst e2
    cases h
    exact ⟨Or.inl rfl, Or.inl ⟨by decide +kernel, rfl⟩⟩, trivial⟩
theorem ml_RX12_162 : Cond.methodLink RX12 162 yX12_has ∈ nk_T := nk_in (i := 1501) (by decide +kernel) rfl
theorem co_X12_has : Cond.code yX12_has cX12_has 5 (some FieldType.boolean) ∈ nk_T := nk_in (i := 1504) (by decide +kernel) rfl
theorem my_X12_has : nk_My yX12_has cX12_has 5 (some FieldType.boolean) 2 := ⟨co_X12_has, in_RX12, ⟨by decide, by decide⟩, by decide +kernel⟩
theorem im_X12_has : Cond.instanceMethod yX12_has ∈ nk_T := nk_in (i := 1503) (by decide +kernel) rfl
theorem se_RX12_X12_has : Cond.selects RX12 yX12_has yX12_has ∈ nk_T := nk_in (i := 34) (by decide +kernel) rfl
theorem ml_RX12_166 : Cond.methodLink RX12 166 yX12_isInLine ∈ nk_T := nk_in (i := 1509) (by decide +kernel) rfl
theorem co_X12_isInLine : Cond.code yX12_isInLine cX12_isInLine 4 (some FieldType.boolean) ∈ nk_T := nk_in (i := 1512) (by decide +kernel) rfl
theorem my_X12_isInLine : nk_My yX12_isInLine cX12_isInLine 4 (some FieldType.boolean) 2 := ⟨co_X12_isInLine, in_RX12, ⟨by decide, by decide⟩, by decide +kernel⟩
theorem im_X12_isInLine : Cond.instanceMethod yX12_isInLine ∈ nk_T := nk_in (i := 1511) (by decide +kernel) rfl
theorem se_RX12_X12_isInLine : Cond.selects RX12 yX12_isInLine yX12_isInLine ∈ nk_T := nk_in (i := 36) (by decide +kernel) rfl
theorem ml_RX12_169 : Cond.methodLink RX12 169 yX12_doneWith ∈ nk_T := nk_in (i := 1573) (by decide +kernel) rfl
theorem co_X12_doneWith : Cond.code yX12_doneWith cX12_doneWith 5 (some FieldType.int) ∈ nk_T := nk_in (i := 1576) (by decide +kernel) rfl
theorem my_X12_doneWith : nk_My yX12_doneWith cX12_doneWith 5 (some FieldType.int) 2 := ⟨co_X12_doneWith, in_RX12, ⟨by decide, by decide⟩, by decide +kernel⟩
theorem im_X12_doneWith : Cond.instanceMethod yX12_doneWith ∈ nk_T := nk_in (i := 1575) (by decide +kernel) rfl
theorem se_RX12_X12_doneWith : Cond.selects RX12 yX12_doneWith yX12_doneWith ∈ nk_T := nk_in (i := 48) (by decide +kernel) rfl
theorem ml_RX12_187 : Cond.methodLink RX12 187 yX12_isDeputy ∈ nk_T := nk_in (i := 1577) (by decide +kernel) rfl
theorem co_X12_isDeputy : Cond.code yX12_isDeputy cX12_isDeputy 5 (some FieldType.boolean) ∈ nk_T := nk_in (i := 1580) (by decide +kernel) rfl
theorem my_X12_isDeputy : nk_My yX12_isDeputy cX12_isDeputy 5 (some FieldType.boolean) 3 := ⟨co_X12_isDeputy, in_RX12, ⟨by decide, by decide⟩, by decide +kernel⟩
theorem im_X12_isDeputy : Cond.instanceMethod yX12_isDeputy ∈ nk_T := nk_in (i := 1579) (by decide +kernel) rfl
theorem se_RX12_X12_isDeputy : Cond.selects RX12 yX12_isDeputy yX12_isDeputy ∈ nk_T := nk_in (i := 49) (by decide +kernel) rfl
theorem ml_RX12_184 : Cond.methodLink RX12 184 yX12_isAboveTotals ∈ nk_T := nk_in (i := 1569) (by decide +kernel) rfl
theorem co_X12_isAboveTotals : Cond.code yX12_isAboveTotals cX12_isAboveTotals 5 (some FieldType.boolean) ∈ nk_T := nk_in (i := 1572) (by decide +kernel) rfl
theorem my_X12_isAboveTotals : nk_My yX12_isAboveTotals cX12_isAboveTotals 5 (some FieldType.boolean) 3 := ⟨co_X12_isAboveTotals, in_RX12, ⟨by decide, by decide⟩, by decide +kernel⟩
theorem im_X12_isAboveTotals : Cond.instanceMethod yX12_isAboveTotals ∈ nk_T := nk_in (i := 1571) (by decide +kernel) rfl
theorem se_RX12_X12_isAboveTotals : Cond.selects RX12 yX12_isAboveTotals yX12_isAboveTotals ∈ nk_T := nk_in (i := 47) (by decide +kernel) rfl
theorem ml_RX12_181 : Cond.methodLink RX12 181 yX12_isAboveLimits ∈ nk_T := nk_in (i := 1565) (by decide +kernel) rfl
theorem co_X12_isAboveLimits : Cond.code yX12_isAboveLimits cX12_isAboveLimits 4 (some FieldType.boolean) ∈ nk_T := nk_in (i := 1568) (by decide +kernel) rfl
theorem my_X12_isAboveLimits : nk_My yX12_isAboveLimits cX12_isAboveLimits 4 (some FieldType.boolean) 2 := ⟨co_X12_isAboveLimits, in_RX12, ⟨by decide, by decide⟩, by decide +kernel⟩
theorem im_X12_isAboveLimits : Cond.instanceMethod yX12_isAboveLimits ∈ nk_T := nk_in (i := 1567) (by decide +kernel) rfl
theorem se_RX12_X12_isAboveLimits : Cond.selects RX12 yX12_isAboveLimits yX12_isAboveLimits ∈ nk_T := nk_in (i := 46) (by decide +kernel) rfl
theorem ml_RX12_178 : Cond.methodLink RX12 178 yX12_isOver ∈ nk_T := nk_in (i := 1513) (by decide +kernel) rfl
theorem co_X12_isOver : Cond.code yX12_isOver cX12_isOver 4 (some FieldType.boolean) ∈ nk_T := nk_in (i := 1516) (by decide +kernel) rfl
theorem my_X12_isOver : nk_My yX12_isOver cX12_isOver 4 (some FieldType.boolean) 2 := ⟨co_X12_isOver, in_RX12, ⟨by decide, by decide⟩, by decide +kernel⟩
theorem im_X12_isOver : Cond.instanceMethod yX12_isOver ∈ nk_T := nk_in (i := 1515) (by decide +kernel) rfl
theorem se_RX12_X12_isOver : Cond.selects RX12 yX12_isOver yX12_isOver ∈ nk_T := nk_in (i := 37) (by decide +kernel) rfl
theorem ml_RX12_175 : Cond.methodLink RX12 175 yX12_isRevoked ∈ nk_T := nk_in (i := 1505) (by decide +kernel) rfl
theorem co_X12_isRevoked : Cond.code yX12_isRevoked cX12_isRevoked 4 (some FieldType.boolean) ∈ nk_T := nk_in (i := 1508) (by decide +kernel) rfl
theorem my_X12_isRevoked : nk_My yX12_isRevoked cX12_isRevoked 4 (some FieldType.boolean) 2 := ⟨co_X12_isRevoked, in_RX12, ⟨by decide, by decide⟩, by decide +kernel⟩
theorem im_X12_isRevoked : Cond.instanceMethod yX12_isRevoked ∈ nk_T := nk_in (i := 1507) (by decide +kernel) rfl
theorem se_RX12_X12_isRevoked : Cond.selects RX12 yX12_isRevoked yX12_isRevoked ∈ nk_T := nk_in (i := 35) (by decide +kernel) rfl
theorem ml_RX12_172 : Cond.methodLink RX12 172 yX12_isKnown ∈ nk_T := nk_in (i := 1497) (by decide +kernel) rfl
theorem co_X12_isKnown : Cond.code yX12_isKnown cX12_isKnown 4 (some FieldType.boolean) ∈ nk_T := nk_in (i := 1500) (by decide +kernel) rfl
theorem my_X12_isKnown : nk_My yX12_isKnown cX12_isKnown 4 (some FieldType.boolean) 2 := ⟨co_X12_isKnown, in_RX12, ⟨by decide, by decide⟩, by decide +kernel⟩
theorem im_X12_isKnown : Cond.instanceMethod yX12_isKnown ∈ nk_T := nk_in (i := 1499) (by decide +kernel) rfl
theorem se_RX12_X12_isKnown : Cond.selects RX12 yX12_isKnown yX12_isKnown ∈ nk_T := nk_in (i := 33) (by decide +kernel) rfl
theorem fk_RX12_190 : nk_Fk RX12 190 28 false [19] := ⟨⟨12, rfl, ⟨(RX12, TX12, 45), "NotaryKioskModel", rfl, by decide, nk_in (i := 1297) (by decide +kernel) rfl, Or.inl rfl⟩, rfl⟩, trivial⟩
theorem fk_RX12_193 : nk_Fk RX12 193 27 false [19] := ⟨⟨12, rfl, ⟨(RX12, TX12, 45), "NotaryKioskModel", rfl, by decide, nk_in (i := 1296) (by decide +kernel) rfl, Or.inl rfl⟩, rfl⟩, trivial⟩
theorem ml_RX12_196 : Cond.methodLink RX12 196 yX12_reason ∈ nk_T := nk_in (i := 1561) (by decide +kernel) rfl
theorem co_X12_reason : Cond.code yX12_reason cX12_reason 9 (some FieldType.int) ∈ nk_T := nk_in (i := 1564) (by decide +kernel) rfl
theorem my_X12_reason : nk_My yX12_reason cX12_reason 9 (some FieldType.int) 8 := ⟨co_X12_reason, in_RX12, ⟨by decide, by decide⟩, by decide +kernel⟩
theorem im_X12_reason : Cond.instanceMethod yX12_reason ∈ nk_T := nk_in (i := 1563) (by decide +kernel) rfl
theorem se_RX12_X12_reason : Cond.selects RX12 yX12_reason yX12_reason ∈ nk_T := nk_in (i := 45) (by decide +kernel) rfl
theorem fw_RX12_65_n : nk_Fw RX12 false 22 [19] := ⟨fun ci q e h => by
    have e2 : ci = 12 := by omega
    subst e2
    cases h
    exact ⟨Or.inl rfl, Or.inl ⟨by decide +kernel, rfl⟩⟩, trivial⟩
theorem fw_RX12_69_n : nk_Fw RX12 false 23 [19] := ⟨fun ci q e h => by
    have e2 : ci = 12 := by omega
    subst e2
    cases h
    exact ⟨Or.inl rfl, Or.inl ⟨by decide +kernel, rfl⟩⟩, trivial⟩
theorem fw_RX12_73_n : nk_Fw RX12 false 24 [19] := ⟨fun ci q e h => by
    have e2 : ci = 12 := by omega
    subst e2
    cases h
    exact ⟨Or.inl rfl, Or.inl ⟨by decide +kernel, rfl⟩⟩, trivial⟩
theorem fw_RX12_76_n : nk_Fw RX12 false 25 [19] := ⟨fun ci q e h => by
    have e2 : ci = 12 := by omega
    subst e2
    cases h
    exact ⟨Or.inl rfl, Or.inl ⟨by decide +kernel, rfl⟩⟩, trivial⟩
theorem fk_RX12_200 : nk_Fk RX12 200 26 false [19] := ⟨⟨12, rfl, ⟨(RX12, TX12, 45), "NotaryKioskModel", rfl, by decide, nk_in (i := 1295) (by decide +kernel) rfl, Or.inl rfl⟩, rfl⟩, trivial⟩
theorem fw_RX12_200_n : nk_Fw RX12 false 26 [19] := ⟨fun ci q e h => by
    have e2 : ci = 12 := by omega
    subst e2
    cases h
    exact ⟨Or.inl rfl, Or.inl ⟨by decide +kernel, rfl⟩⟩, trivial⟩
theorem fw_RX12_128_n : nk_Fw RX12 false 12 [19] := ⟨fun ci q e h => by
    have e2 : ci = 12 := by omega
    subst e2
    cases h
    exact ⟨Or.inl rfl, Or.inl ⟨by decide +kernel, rfl⟩⟩, trivial⟩
theorem ml_RX12_203 : Cond.methodLink RX12 203 yX12_makes ∈ nk_T := nk_in (i := 1473) (by decide +kernel) rfl
theorem co_X12_makes : Cond.code yX12_makes cX12_makes 4 (some FieldType.int) ∈ nk_T := nk_in (i := 1476) (by decide +kernel) rfl
theorem my_X12_makes : nk_My yX12_makes cX12_makes 4 (some FieldType.int) 3 := ⟨co_X12_makes, in_RX12, ⟨by decide, by decide⟩, by decide +kernel⟩
theorem im_X12_makes : Cond.instanceMethod yX12_makes ∈ nk_T := nk_in (i := 1475) (by decide +kernel) rfl
theorem se_RX12_X12_makes : Cond.selects RX12 yX12_makes yX12_makes ∈ nk_T := nk_in (i := 28) (by decide +kernel) rfl
theorem ml_RX12_213 : Cond.methodLink RX12 213 yX12_adds ∈ nk_T := nk_in (i := 1469) (by decide +kernel) rfl
theorem co_X12_adds : Cond.code yX12_adds cX12_adds 5 (some FieldType.int) ∈ nk_T := nk_in (i := 1472) (by decide +kernel) rfl
theorem my_X12_adds : nk_My yX12_adds cX12_adds 5 (some FieldType.int) 4 := ⟨co_X12_adds, in_RX12, ⟨by decide, by decide⟩, by decide +kernel⟩
theorem im_X12_adds : Cond.instanceMethod yX12_adds ∈ nk_T := nk_in (i := 1471) (by decide +kernel) rfl
theorem se_RX12_X12_adds : Cond.selects RX12 yX12_adds yX12_adds ∈ nk_T := nk_in (i := 27) (by decide +kernel) rfl
theorem ml_RX12_209 : Cond.methodLink RX12 209 yX12_isFull ∈ nk_T := nk_in (i := 1465) (by decide +kernel) rfl
theorem co_X12_isFull : Cond.code yX12_isFull cX12_isFull 1 (some FieldType.boolean) ∈ nk_T := nk_in (i := 1468) (by decide +kernel) rfl
theorem my_X12_isFull : nk_My yX12_isFull cX12_isFull 1 (some FieldType.boolean) 0 := ⟨co_X12_isFull, in_RX12, ⟨by decide, by decide⟩, by decide +kernel⟩
theorem im_X12_isFull : Cond.instanceMethod yX12_isFull ∈ nk_T := nk_in (i := 1467) (by decide +kernel) rfl
theorem se_RX12_X12_isFull : Cond.selects RX12 yX12_isFull yX12_isFull ∈ nk_T := nk_in (i := 26) (by decide +kernel) rfl
theorem co_X12_isPerson : Cond.code yX12_isPerson cX12_isPerson 1 (some FieldType.boolean) ∈ nk_T := nk_in (i := 1464) (by decide +kernel) rfl
theorem my_X12_isPerson : nk_My yX12_isPerson cX12_isPerson 1 (some FieldType.boolean) 1 := ⟨co_X12_isPerson, in_RX12, ⟨by decide, by decide⟩, by decide +kernel⟩
theorem st_X12_isPerson : Cond.static yX12_isPerson ∈ nk_T := nk_in (i := 1463) (by decide +kernel) rfl
theorem ml_RX12_206 : Cond.methodLink RX12 206 yX12_isPerson ∈ nk_T := nk_in (i := 1462) (by decide +kernel) rfl
theorem ml_RX12_223 : Cond.methodLink RX12 223 yX12_isGoodAt ∈ nk_T := nk_in (i := 1493) (by decide +kernel) rfl
theorem co_X12_isGoodAt : Cond.code yX12_isGoodAt cX12_isGoodAt 3 (some FieldType.boolean) ∈ nk_T := nk_in (i := 1496) (by decide +kernel) rfl
theorem my_X12_isGoodAt : nk_My yX12_isGoodAt cX12_isGoodAt 3 (some FieldType.boolean) 2 := ⟨co_X12_isGoodAt, in_RX12, ⟨by decide, by decide⟩, by decide +kernel⟩
theorem im_X12_isGoodAt : Cond.instanceMethod yX12_isGoodAt ∈ nk_T := nk_in (i := 1495) (by decide +kernel) rfl
theorem se_RX12_X12_isGoodAt : Cond.selects RX12 yX12_isGoodAt yX12_isGoodAt ∈ nk_T := nk_in (i := 32) (by decide +kernel) rfl
theorem ml_RX12_220 : Cond.methodLink RX12 220 yX12_isWithin ∈ nk_T := nk_in (i := 1489) (by decide +kernel) rfl
theorem co_X12_isWithin : Cond.code yX12_isWithin cX12_isWithin 3 (some FieldType.boolean) ∈ nk_T := nk_in (i := 1492) (by decide +kernel) rfl
theorem my_X12_isWithin : nk_My yX12_isWithin cX12_isWithin 3 (some FieldType.boolean) 1 := ⟨co_X12_isWithin, in_RX12, ⟨by decide, by decide⟩, by decide +kernel⟩
theorem im_X12_isWithin : Cond.instanceMethod yX12_isWithin ∈ nk_T := nk_in (i := 1491) (by decide +kernel) rfl
theorem se_RX12_X12_isWithin : Cond.selects RX12 yX12_isWithin yX12_isWithin ∈ nk_T := nk_in (i := 31) (by decide +kernel) rfl
theorem ml_RX12_217 : Cond.methodLink RX12 217 yX12_isPower ∈ nk_T := nk_in (i := 1485) (by decide +kernel) rfl
theorem co_X12_isPower : Cond.code yX12_isPower cX12_isPower 2 (some FieldType.boolean) ∈ nk_T := nk_in (i := 1488) (by decide +kernel) rfl
theorem my_X12_isPower : nk_My yX12_isPower cX12_isPower 2 (some FieldType.boolean) 1 := ⟨co_X12_isPower, in_RX12, ⟨by decide, by decide⟩, by decide +kernel⟩
theorem im_X12_isPower : Cond.instanceMethod yX12_isPower ∈ nk_T := nk_in (i := 1487) (by decide +kernel) rfl
theorem se_RX12_X12_isPower : Cond.selects RX12 yX12_isPower yX12_isPower ∈ nk_T := nk_in (i := 30) (by decide +kernel) rfl
theorem ml_RX12_226 : Cond.methodLink RX12 226 yX12_errorOfPassOn ∈ nk_T := nk_in (i := 1481) (by decide +kernel) rfl
theorem co_X12_errorOfPassOn : Cond.code yX12_errorOfPassOn cX12_errorOfPassOn 4 (some FieldType.int) ∈ nk_T := nk_in (i := 1484) (by decide +kernel) rfl
theorem my_X12_errorOfPassOn : nk_My yX12_errorOfPassOn cX12_errorOfPassOn 4 (some FieldType.int) 3 := ⟨co_X12_errorOfPassOn, in_RX12, ⟨by decide, by decide⟩, by decide +kernel⟩
theorem im_X12_errorOfPassOn : Cond.instanceMethod yX12_errorOfPassOn ∈ nk_T := nk_in (i := 1483) (by decide +kernel) rfl
theorem se_RX12_X12_errorOfPassOn : Cond.selects RX12 yX12_errorOfPassOn yX12_errorOfPassOn ∈ nk_T := nk_in (i := 29) (by decide +kernel) rfl
theorem ml_RX12_229 : Cond.methodLink RX12 229 yX12_isGiver ∈ nk_T := nk_in (i := 1525) (by decide +kernel) rfl
theorem co_X12_isGiver : Cond.code yX12_isGiver cX12_isGiver 4 (some FieldType.boolean) ∈ nk_T := nk_in (i := 1528) (by decide +kernel) rfl
theorem my_X12_isGiver : nk_My yX12_isGiver cX12_isGiver 4 (some FieldType.boolean) 2 := ⟨co_X12_isGiver, in_RX12, ⟨by decide, by decide⟩, by decide +kernel⟩
theorem im_X12_isGiver : Cond.instanceMethod yX12_isGiver ∈ nk_T := nk_in (i := 1527) (by decide +kernel) rfl
theorem se_RX12_X12_isGiver : Cond.selects RX12 yX12_isGiver yX12_isGiver ∈ nk_T := nk_in (i := 39) (by decide +kernel) rfl
theorem ml_RX12_232 : Cond.methodLink RX12 232 yX12_errorOfRevoke ∈ nk_T := nk_in (i := 1521) (by decide +kernel) rfl
theorem co_X12_errorOfRevoke : Cond.code yX12_errorOfRevoke cX12_errorOfRevoke 4 (some FieldType.int) ∈ nk_T := nk_in (i := 1524) (by decide +kernel) rfl
theorem my_X12_errorOfRevoke : nk_My yX12_errorOfRevoke cX12_errorOfRevoke 4 (some FieldType.int) 3 := ⟨co_X12_errorOfRevoke, in_RX12, ⟨by decide, by decide⟩, by decide +kernel⟩
theorem im_X12_errorOfRevoke : Cond.instanceMethod yX12_errorOfRevoke ∈ nk_T := nk_in (i := 1523) (by decide +kernel) rfl
theorem se_RX12_X12_errorOfRevoke : Cond.selects RX12 yX12_errorOfRevoke yX12_errorOfRevoke ∈ nk_T := nk_in (i := 38) (by decide +kernel) rfl
theorem ml_RX12_235 : Cond.methodLink RX12 235 yX12_isDeputed ∈ nk_T := nk_in (i := 1537) (by decide +kernel) rfl
theorem co_X12_isDeputed : Cond.code yX12_isDeputed cX12_isDeputed 5 (some FieldType.boolean) ∈ nk_T := nk_in (i := 1540) (by decide +kernel) rfl
theorem my_X12_isDeputed : nk_My yX12_isDeputed cX12_isDeputed 5 (some FieldType.boolean) 3 := ⟨co_X12_isDeputed, in_RX12, ⟨by decide, by decide⟩, by decide +kernel⟩
theorem im_X12_isDeputed : Cond.instanceMethod yX12_isDeputed ∈ nk_T := nk_in (i := 1539) (by decide +kernel) rfl
theorem se_RX12_X12_isDeputed : Cond.selects RX12 yX12_isDeputed yX12_isDeputed ∈ nk_T := nk_in (i := 41) (by decide +kernel) rfl
theorem ml_RX12_238 : Cond.methodLink RX12 238 yX12_errorOfDepute ∈ nk_T := nk_in (i := 1533) (by decide +kernel) rfl
theorem co_X12_errorOfDepute : Cond.code yX12_errorOfDepute cX12_errorOfDepute 5 (some FieldType.int) ∈ nk_T := nk_in (i := 1536) (by decide +kernel) rfl
theorem my_X12_errorOfDepute : nk_My yX12_errorOfDepute cX12_errorOfDepute 5 (some FieldType.int) 3 := ⟨co_X12_errorOfDepute, in_RX12, ⟨by decide, by decide⟩, by decide +kernel⟩
theorem im_X12_errorOfDepute : Cond.instanceMethod yX12_errorOfDepute ∈ nk_T := nk_in (i := 1535) (by decide +kernel) rfl
theorem se_RX12_X12_errorOfDepute : Cond.selects RX12 yX12_errorOfDepute yX12_errorOfDepute ∈ nk_T := nk_in (i := 40) (by decide +kernel) rfl
theorem kc_RX12_241 : Cond.constant RX12 241 1000003 ∈ nk_T := nk_in (i := 1591) (by decide +kernel) rfl
theorem co_X12_sealed : Cond.code yX12_sealed cX12_sealed 2 (some FieldType.int) ∈ nk_T := nk_in (i := 1590) (by decide +kernel) rfl
theorem my_X12_sealed : nk_My yX12_sealed cX12_sealed 2 (some FieldType.int) 2 := ⟨co_X12_sealed, in_RX12, ⟨by decide, by decide⟩, by decide +kernel⟩
theorem st_X12_sealed : Cond.static yX12_sealed ∈ nk_T := nk_in (i := 1589) (by decide +kernel) rfl
theorem ml_RX12_242 : Cond.methodLink RX12 242 yX12_sealed ∈ nk_T := nk_in (i := 1588) (by decide +kernel) rfl
theorem ml_RX12_248 : Cond.methodLink RX12 248 yX12_sealAhead ∈ nk_T := nk_in (i := 1592) (by decide +kernel) rfl
theorem co_X12_sealAhead : Cond.code yX12_sealAhead cX12_sealAhead 3 (some FieldType.int) ∈ nk_T := nk_in (i := 1595) (by decide +kernel) rfl
theorem my_X12_sealAhead : nk_My yX12_sealAhead cX12_sealAhead 3 (some FieldType.int) 2 := ⟨co_X12_sealAhead, in_RX12, ⟨by decide, by decide⟩, by decide +kernel⟩
theorem im_X12_sealAhead : Cond.instanceMethod yX12_sealAhead ∈ nk_T := nk_in (i := 1594) (by decide +kernel) rfl
theorem se_RX12_X12_sealAhead : Cond.selects RX12 yX12_sealAhead yX12_sealAhead ∈ nk_T := nk_in (i := 51) (by decide +kernel) rfl
theorem co_X12_markOf : Cond.code yX12_markOf cX12_markOf 4 (some FieldType.int) ∈ nk_T := nk_in (i := 1587) (by decide +kernel) rfl
theorem my_X12_markOf : nk_My yX12_markOf cX12_markOf 4 (some FieldType.int) 4 := ⟨co_X12_markOf, in_RX12, ⟨by decide, by decide⟩, by decide +kernel⟩
theorem st_X12_markOf : Cond.static yX12_markOf ∈ nk_T := nk_in (i := 1586) (by decide +kernel) rfl
theorem ml_RX12_245 : Cond.methodLink RX12 245 yX12_markOf ∈ nk_T := nk_in (i := 1585) (by decide +kernel) rfl
theorem fw_RX12_193_n : nk_Fw RX12 false 27 [19] := ⟨fun ci q e h => by
    have e2 : ci = 12 := by omega
    subst e2
    cases h
    exact ⟨Or.inl rfl, Or.inl ⟨by decide +kernel, rfl⟩⟩, trivial⟩
theorem fw_RX12_190_n : nk_Fw RX12 false 28 [19] := ⟨fun ci q e h => by
    have e2 : ci = 12 := by omega
    subst e2
    cases h
    exact ⟨Or.inl rfl, Or.inl ⟨by decide +kernel, rfl⟩⟩, trivial⟩
theorem ml_RX12_254 : Cond.methodLink RX12 254 yX12_reasonNow ∈ nk_T := nk_in (i := 1557) (by decide +kernel) rfl
theorem co_X12_reasonNow : Cond.code yX12_reasonNow cX12_reasonNow 5 (some FieldType.int) ∈ nk_T := nk_in (i := 1560) (by decide +kernel) rfl
theorem my_X12_reasonNow : nk_My yX12_reasonNow cX12_reasonNow 5 (some FieldType.int) 4 := ⟨co_X12_reasonNow, in_RX12, ⟨by decide, by decide⟩, by decide +kernel⟩
theorem im_X12_reasonNow : Cond.instanceMethod yX12_reasonNow ∈ nk_T := nk_in (i := 1559) (by decide +kernel) rfl
theorem se_RX12_X12_reasonNow : Cond.selects RX12 yX12_reasonNow yX12_reasonNow ∈ nk_T := nk_in (i := 44) (by decide +kernel) rfl
theorem ml_RX12_251 : Cond.methodLink RX12 251 yX12_areThere ∈ nk_T := nk_in (i := 1553) (by decide +kernel) rfl
theorem co_X12_areThere : Cond.code yX12_areThere cX12_areThere 4 (some FieldType.boolean) ∈ nk_T := nk_in (i := 1556) (by decide +kernel) rfl
theorem my_X12_areThere : nk_My yX12_areThere cX12_areThere 4 (some FieldType.boolean) 3 := ⟨co_X12_areThere, in_RX12, ⟨by decide, by decide⟩, by decide +kernel⟩
theorem im_X12_areThere : Cond.instanceMethod yX12_areThere ∈ nk_T := nk_in (i := 1555) (by decide +kernel) rfl
theorem se_RX12_X12_areThere : Cond.selects RX12 yX12_areThere yX12_areThere ∈ nk_T := nk_in (i := 43) (by decide +kernel) rfl
theorem fk_RX12_260 : nk_Fk RX12 260 29 false [19] := ⟨⟨12, rfl, ⟨(RX12, TX12, 45), "NotaryKioskModel", rfl, by decide, nk_in (i := 1298) (by decide +kernel) rfl, Or.inl rfl⟩, rfl⟩, trivial⟩
theorem fw_RX12_260_n : nk_Fw RX12 false 29 [19] := ⟨fun ci q e h => by
    have e2 : ci = 12 := by omega
    subst e2
    cases h
    exact ⟨Or.inl rfl, Or.inl ⟨by decide +kernel, rfl⟩⟩, trivial⟩
theorem ml_RX12_266 : Cond.methodLink RX12 266 yX12_faultOf ∈ nk_T := nk_in (i := 1596) (by decide +kernel) rfl
theorem co_X12_faultOf : Cond.code yX12_faultOf cX12_faultOf 4 (some FieldType.int) ∈ nk_T := nk_in (i := 1599) (by decide +kernel) rfl
theorem my_X12_faultOf : nk_My yX12_faultOf cX12_faultOf 4 (some FieldType.int) 1 := ⟨co_X12_faultOf, in_RX12, ⟨by decide, by decide⟩, by decide +kernel⟩
theorem im_X12_faultOf : Cond.instanceMethod yX12_faultOf ∈ nk_T := nk_in (i := 1598) (by decide +kernel) rfl
theorem se_RX12_X12_faultOf : Cond.selects RX12 yX12_faultOf yX12_faultOf ∈ nk_T := nk_in (i := 52) (by decide +kernel) rfl
theorem ml_RX12_263 : Cond.methodLink RX12 263 yX12_sealNow ∈ nk_T := nk_in (i := 1581) (by decide +kernel) rfl
theorem co_X12_sealNow : Cond.code yX12_sealNow cX12_sealNow 5 (some FieldType.int) ∈ nk_T := nk_in (i := 1584) (by decide +kernel) rfl
theorem my_X12_sealNow : nk_My yX12_sealNow cX12_sealNow 5 (some FieldType.int) 2 := ⟨co_X12_sealNow, in_RX12, ⟨by decide, by decide⟩, by decide +kernel⟩
theorem im_X12_sealNow : Cond.instanceMethod yX12_sealNow ∈ nk_T := nk_in (i := 1583) (by decide +kernel) rfl
theorem se_RX12_X12_sealNow : Cond.selects RX12 yX12_sealNow yX12_sealNow ∈ nk_T := nk_in (i := 50) (by decide +kernel) rfl
theorem ml_RX12_257 : Cond.methodLink RX12 257 yX12_errorOfAct ∈ nk_T := nk_in (i := 1549) (by decide +kernel) rfl
theorem co_X12_errorOfAct : Cond.code yX12_errorOfAct cX12_errorOfAct 5 (some FieldType.int) ∈ nk_T := nk_in (i := 1552) (by decide +kernel) rfl
theorem my_X12_errorOfAct : nk_My yX12_errorOfAct cX12_errorOfAct 5 (some FieldType.int) 4 := ⟨co_X12_errorOfAct, in_RX12, ⟨by decide, by decide⟩, by decide +kernel⟩
theorem im_X12_errorOfAct : Cond.instanceMethod yX12_errorOfAct ∈ nk_T := nk_in (i := 1551) (by decide +kernel) rfl
theorem se_RX12_X12_errorOfAct : Cond.selects RX12 yX12_errorOfAct yX12_errorOfAct ∈ nk_T := nk_in (i := 42) (by decide +kernel) rfl
theorem ml_RX12_269 : Cond.methodLink RX12 269 yX12_isRecord ∈ nk_T := nk_in (i := 1604) (by decide +kernel) rfl
theorem co_X12_isRecord : Cond.code yX12_isRecord cX12_isRecord 3 (some FieldType.boolean) ∈ nk_T := nk_in (i := 1607) (by decide +kernel) rfl
theorem my_X12_isRecord : nk_My yX12_isRecord cX12_isRecord 3 (some FieldType.boolean) 2 := ⟨co_X12_isRecord, in_RX12, ⟨by decide, by decide⟩, by decide +kernel⟩
theorem im_X12_isRecord : Cond.instanceMethod yX12_isRecord ∈ nk_T := nk_in (i := 1606) (by decide +kernel) rfl
theorem se_RX12_X12_isRecord : Cond.selects RX12 yX12_isRecord yX12_isRecord ∈ nk_T := nk_in (i := 53) (by decide +kernel) rfl
theorem ml_RX12_272 : Cond.methodLink RX12 272 yX12_isLeftOut ∈ nk_T := nk_in (i := 1616) (by decide +kernel) rfl
theorem co_X12_isLeftOut : Cond.code yX12_isLeftOut cX12_isLeftOut 3 (some FieldType.boolean) ∈ nk_T := nk_in (i := 1619) (by decide +kernel) rfl
theorem my_X12_isLeftOut : nk_My yX12_isLeftOut cX12_isLeftOut 3 (some FieldType.boolean) 2 := ⟨co_X12_isLeftOut, in_RX12, ⟨by decide, by decide⟩, by decide +kernel⟩
theorem im_X12_isLeftOut : Cond.instanceMethod yX12_isLeftOut ∈ nk_T := nk_in (i := 1618) (by decide +kernel) rfl
theorem se_RX12_X12_isLeftOut : Cond.selects RX12 yX12_isLeftOut yX12_isLeftOut ∈ nk_T := nk_in (i := 55) (by decide +kernel) rfl
theorem fk_RX12_275 : nk_Fk RX12 275 37 false [19] := ⟨⟨12, rfl, ⟨(RX12, TX12, 45), "NotaryKioskModel", rfl, by decide, nk_in (i := 1306) (by decide +kernel) rfl, Or.inl rfl⟩, rfl⟩, trivial⟩
theorem fw_RX12_275_n : nk_Fw RX12 false 37 [19] := ⟨fun ci q e h => by
    have e2 : ci = 12 := by omega
    subst e2
    cases h
    exact ⟨Or.inl rfl, Or.inl ⟨by decide +kernel, rfl⟩⟩, trivial⟩
theorem ml_RX12_278 : Cond.methodLink RX12 278 yX12_copies ∈ nk_T := nk_in (i := 1612) (by decide +kernel) rfl
theorem co_X12_copies : Cond.code yX12_copies cX12_copies 8 (none : Option FieldType) ∈ nk_T := nk_in (i := 1615) (by decide +kernel) rfl
theorem my_X12_copies : nk_My yX12_copies cX12_copies 8 (none : Option FieldType) 2 := ⟨co_X12_copies, in_RX12, ⟨by decide, by decide⟩, by decide +kernel⟩
theorem im_X12_copies : Cond.instanceMethod yX12_copies ∈ nk_T := nk_in (i := 1614) (by decide +kernel) rfl
theorem se_RX12_X12_copies : Cond.selects RX12 yX12_copies yX12_copies ∈ nk_T := nk_in (i := 54) (by decide +kernel) rfl
theorem ml_RX12_281 : Cond.methodLink RX12 281 yX12_isCopy ∈ nk_T := nk_in (i := 1628) (by decide +kernel) rfl
theorem co_X12_isCopy : Cond.code yX12_isCopy cX12_isCopy 2 (some FieldType.boolean) ∈ nk_T := nk_in (i := 1631) (by decide +kernel) rfl
theorem my_X12_isCopy : nk_My yX12_isCopy cX12_isCopy 2 (some FieldType.boolean) 1 := ⟨co_X12_isCopy, in_RX12, ⟨by decide, by decide⟩, by decide +kernel⟩
theorem im_X12_isCopy : Cond.instanceMethod yX12_isCopy ∈ nk_T := nk_in (i := 1630) (by decide +kernel) rfl
theorem se_RX12_X12_isCopy : Cond.selects RX12 yX12_isCopy yX12_isCopy ∈ nk_T := nk_in (i := 57) (by decide +kernel) rfl
theorem ml_RX12_284 : Cond.methodLink RX12 284 yX12_isCopied ∈ nk_T := nk_in (i := 1624) (by decide +kernel) rfl
theorem co_X12_isCopied : Cond.code yX12_isCopied cX12_isCopied 4 (some FieldType.boolean) ∈ nk_T := nk_in (i := 1627) (by decide +kernel) rfl
theorem my_X12_isCopied : nk_My yX12_isCopied cX12_isCopied 4 (some FieldType.boolean) 3 := ⟨co_X12_isCopied, in_RX12, ⟨by decide, by decide⟩, by decide +kernel⟩
theorem im_X12_isCopied : Cond.instanceMethod yX12_isCopied ∈ nk_T := nk_in (i := 1626) (by decide +kernel) rfl
theorem se_RX12_X12_isCopied : Cond.selects RX12 yX12_isCopied yX12_isCopied ∈ nk_T := nk_in (i := 56) (by decide +kernel) rfl
theorem ml_RX12_287 : Cond.methodLink RX12 287 yX12_isPiece ∈ nk_T := nk_in (i := 1656) (by decide +kernel) rfl
theorem co_X12_isPiece : Cond.code yX12_isPiece cX12_isPiece 3 (some FieldType.boolean) ∈ nk_T := nk_in (i := 1659) (by decide +kernel) rfl
theorem my_X12_isPiece : nk_My yX12_isPiece cX12_isPiece 3 (some FieldType.boolean) 2 := ⟨co_X12_isPiece, in_RX12, ⟨by decide, by decide⟩, by decide +kernel⟩
theorem im_X12_isPiece : Cond.instanceMethod yX12_isPiece ∈ nk_T := nk_in (i := 1658) (by decide +kernel) rfl
theorem se_RX12_X12_isPiece : Cond.selects RX12 yX12_isPiece yX12_isPiece ∈ nk_T := nk_in (i := 58) (by decide +kernel) rfl
theorem ml_RX12_290 : Cond.methodLink RX12 290 yX12_isThere ∈ nk_T := nk_in (i := 1704) (by decide +kernel) rfl
theorem co_X12_isThere : Cond.code yX12_isThere cX12_isThere 3 (some FieldType.boolean) ∈ nk_T := nk_in (i := 1707) (by decide +kernel) rfl
theorem my_X12_isThere : nk_My yX12_isThere cX12_isThere 3 (some FieldType.boolean) 2 := ⟨co_X12_isThere, in_RX12, ⟨by decide, by decide⟩, by decide +kernel⟩
theorem im_X12_isThere : Cond.instanceMethod yX12_isThere ∈ nk_T := nk_in (i := 1706) (by decide +kernel) rfl
theorem se_RX12_X12_isThere : Cond.selects RX12 yX12_isThere yX12_isThere ∈ nk_T := nk_in (i := 59) (by decide +kernel) rfl
theorem ml_RX12_293 : Cond.methodLink RX12 293 yX12_isBroken ∈ nk_T := nk_in (i := 1744) (by decide +kernel) rfl
theorem co_X12_isBroken : Cond.code yX12_isBroken cX12_isBroken 6 (some FieldType.boolean) ∈ nk_T := nk_in (i := 1747) (by decide +kernel) rfl
theorem my_X12_isBroken : nk_My yX12_isBroken cX12_isBroken 6 (some FieldType.boolean) 2 := ⟨co_X12_isBroken, in_RX12, ⟨by decide, by decide⟩, by decide +kernel⟩
theorem im_X12_isBroken : Cond.instanceMethod yX12_isBroken ∈ nk_T := nk_in (i := 1746) (by decide +kernel) rfl
theorem se_RX12_X12_isBroken : Cond.selects RX12 yX12_isBroken yX12_isBroken ∈ nk_T := nk_in (i := 60) (by decide +kernel) rfl
