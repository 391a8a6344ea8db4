theorem lk_13_100 : Cond.methodLink (kRn 13) 100 yX12_hour ∈ sT := sT_in (n := 1943) (by decide +kernel) rfl
theorem lk_13_101 : Cond.methodLink (kRn 13) 101 yX11_wind ∈ sT := sT_in (n := 1130) (by decide +kernel) rfl
theorem lk_13_105 : Cond.methodLink (kRn 13) 105 yX12_wind ∈ sT := sT_in (n := 1971) (by decide +kernel) rfl
theorem lk_13_106 : Cond.methodLink (kRn 13) 106 yX11_oil ∈ sT := sT_in (n := 1146) (by decide +kernel) rfl
theorem lk_13_109 : Cond.methodLink (kRn 13) 109 yX12_oil ∈ sT := sT_in (n := 1987) (by decide +kernel) rfl
theorem lk_13_110 : Cond.methodLink (kRn 13) 110 yX11_gate ∈ sT := sT_in (n := 1150) (by decide +kernel) rfl
theorem lk_13_113 : Cond.methodLink (kRn 13) 113 yX12_gate ∈ sT := sT_in (n := 1991) (by decide +kernel) rfl
theorem lk_13_114 : Cond.methodLink (kRn 13) 114 yX11_rain ∈ sT := sT_in (n := 1154) (by decide +kernel) rfl
theorem lk_13_118 : Cond.methodLink (kRn 13) 118 yX12_rain ∈ sT := sT_in (n := 2000) (by decide +kernel) rfl
theorem lk_13_119 : Cond.methodLink (kRn 13) 119 yX11_bring ∈ sT := sT_in (n := 1158) (by decide +kernel) rfl
theorem lk_13_122 : Cond.methodLink (kRn 13) 122 yX12_bring ∈ sT := sT_in (n := 2004) (by decide +kernel) rfl
theorem lk_13_123 : Cond.methodLink (kRn 13) 123 yX11_rule ∈ sT := sT_in (n := 1163) (by decide +kernel) rfl
theorem lk_13_127 : Cond.methodLink (kRn 13) 127 yX12_rule ∈ sT := sT_in (n := 2010) (by decide +kernel) rfl
theorem lk_13_128 : Cond.methodLink (kRn 13) 128 yX11_build ∈ sT := sT_in (n := 1170) (by decide +kernel) rfl
theorem lk_13_13 : Cond.methodLink (kRn 13) 13 yX11_status ∈ sT := sT_in (n := 666) (by decide +kernel) rfl
theorem lk_13_131 : Cond.methodLink (kRn 13) 131 yX12_build ∈ sT := sT_in (n := 2016) (by decide +kernel) rfl
theorem lk_13_132 : Cond.methodLink (kRn 13) 132 yX11_train ∈ sT := sT_in (n := 1175) (by decide +kernel) rfl
theorem lk_13_135 : Cond.methodLink (kRn 13) 135 yX12_train ∈ sT := sT_in (n := 2020) (by decide +kernel) rfl
theorem lk_13_136 : Cond.methodLink (kRn 13) 136 yX11_turnsIn ∈ sT := sT_in (n := 1179) (by decide +kernel) rfl
theorem lk_13_139 : Cond.methodLink (kRn 13) 139 yX12_turnsIn ∈ sT := sT_in (n := 2025) (by decide +kernel) rfl
theorem lk_13_140 : Cond.methodLink (kRn 13) 140 yX11_storedIn ∈ sT := sT_in (n := 1196) (by decide +kernel) rfl
theorem lk_13_143 : Cond.methodLink (kRn 13) 143 yX12_storedIn ∈ sT := sT_in (n := 2045) (by decide +kernel) rfl
theorem lk_13_144 : Cond.methodLink (kRn 13) 144 yX11_groundIn ∈ sT := sT_in (n := 1200) (by decide +kernel) rfl
theorem lk_13_147 : Cond.methodLink (kRn 13) 147 yX12_groundIn ∈ sT := sT_in (n := 2049) (by decide +kernel) rfl
theorem lk_13_148 : Cond.methodLink (kRn 13) 148 yX11_seaIn ∈ sT := sT_in (n := 1204) (by decide +kernel) rfl
theorem lk_13_151 : Cond.methodLink (kRn 13) 151 yX12_seaIn ∈ sT := sT_in (n := 2053) (by decide +kernel) rfl
theorem lk_13_152 : Cond.methodLink (kRn 13) 152 yX11_dryIn ∈ sT := sT_in (n := 1208) (by decide +kernel) rfl
theorem lk_13_155 : Cond.methodLink (kRn 13) 155 yX12_dryIn ∈ sT := sT_in (n := 2057) (by decide +kernel) rfl
theorem lk_13_156 : Cond.methodLink (kRn 13) 156 yX11_floodIn ∈ sT := sT_in (n := 1221) (by decide +kernel) rfl
theorem lk_13_159 : Cond.methodLink (kRn 13) 159 yX12_floodIn ∈ sT := sT_in (n := 2061) (by decide +kernel) rfl
theorem lk_13_160 : Cond.methodLink (kRn 13) 160 yX11_stillIn ∈ sT := sT_in (n := 1229) (by decide +kernel) rfl
theorem lk_13_163 : Cond.methodLink (kRn 13) 163 yX12_stillIn ∈ sT := sT_in (n := 2065) (by decide +kernel) rfl
theorem lk_13_164 : Cond.methodLink (kRn 13) 164 yX11_lawIn ∈ sT := sT_in (n := 1237) (by decide +kernel) rfl
theorem lk_13_167 : Cond.methodLink (kRn 13) 167 yX12_lawIn ∈ sT := sT_in (n := 2069) (by decide +kernel) rfl
theorem lk_13_168 : Cond.methodLink (kRn 13) 168 yX11_enough ∈ sT := sT_in (n := 1241) (by decide +kernel) rfl
theorem lk_13_17 : Cond.methodLink (kRn 13) 17 yX12_status ∈ sT := sT_in (n := 1603) (by decide +kernel) rfl
theorem lk_13_172 : Cond.methodLink (kRn 13) 172 yX12_enough ∈ sT := sT_in (n := 2073) (by decide +kernel) rfl
theorem lk_13_173 : Cond.methodLink (kRn 13) 173 yX11_bestGate ∈ sT := sT_in (n := 1249) (by decide +kernel) rfl
theorem lk_13_176 : Cond.methodLink (kRn 13) 176 yX12_bestGate ∈ sT := sT_in (n := 2078) (by decide +kernel) rfl
theorem lk_13_177 : Cond.methodLink (kRn 13) 177 yX11_bestGround ∈ sT := sT_in (n := 1261) (by decide +kernel) rfl
theorem lk_13_18 : Cond.methodLink (kRn 13) 18 yX11_top ∈ sT := sT_in (n := 670) (by decide +kernel) rfl
theorem lk_13_180 : Cond.methodLink (kRn 13) 180 yX12_bestGround ∈ sT := sT_in (n := 2091) (by decide +kernel) rfl
theorem lk_13_181 : Cond.methodLink (kRn 13) 181 yX11_hire ∈ sT := sT_in (n := 1265) (by decide +kernel) rfl
theorem lk_13_184 : Cond.methodLink (kRn 13) 184 yX12_hire ∈ sT := sT_in (n := 2095) (by decide +kernel) rfl
theorem lk_13_185 : Cond.methodLink (kRn 13) 185 yX11_hireAt ∈ sT := sT_in (n := 1283) (by decide +kernel) rfl
theorem lk_13_188 : Cond.methodLink (kRn 13) 188 yX12_hireAt ∈ sT := sT_in (n := 2118) (by decide +kernel) rfl
theorem lk_13_189 : Cond.methodLink (kRn 13) 189 yX11_wound ∈ sT := sT_in (n := 1287) (by decide +kernel) rfl
theorem lk_13_192 : Cond.methodLink (kRn 13) 192 yX12_wound ∈ sT := sT_in (n := 2122) (by decide +kernel) rfl
theorem lk_13_193 : Cond.methodLink (kRn 13) 193 yX11_sure ∈ sT := sT_in (n := 1303) (by decide +kernel) rfl
theorem lk_13_196 : Cond.methodLink (kRn 13) 196 yX12_sure ∈ sT := sT_in (n := 2134) (by decide +kernel) rfl
theorem lk_13_197 : Cond.methodLink (kRn 13) 197 yX11_cheapest ∈ sT := sT_in (n := 1307) (by decide +kernel) rfl
theorem lk_13_200 : Cond.methodLink (kRn 13) 200 yX12_cheapest ∈ sT := sT_in (n := 2138) (by decide +kernel) rfl
theorem lk_13_201 : Cond.methodLink (kRn 13) 201 yX11_game ∈ sT := sT_in (n := 1315) (by decide +kernel) rfl
theorem lk_13_204 : Cond.methodLink (kRn 13) 204 yX12_game ∈ sT := sT_in (n := 2142) (by decide +kernel) rfl
theorem lk_13_205 : Cond.methodLink (kRn 13) 205 yX11_moveOf ∈ sT := sT_in (n := 1334) (by decide +kernel) rfl
theorem lk_13_208 : Cond.methodLink (kRn 13) 208 yX12_moveOf ∈ sT := sT_in (n := 2154) (by decide +kernel) rfl
theorem lk_13_209 : Cond.methodLink (kRn 13) 209 yX11_share ∈ sT := sT_in (n := 1338) (by decide +kernel) rfl
theorem lk_13_213 : Cond.methodLink (kRn 13) 213 yX12_share ∈ sT := sT_in (n := 2158) (by decide +kernel) rfl
theorem lk_13_214 : Cond.methodLink (kRn 13) 214 yX11_price ∈ sT := sT_in (n := 1353) (by decide +kernel) rfl
theorem lk_13_217 : Cond.methodLink (kRn 13) 217 yX12_price ∈ sT := sT_in (n := 2169) (by decide +kernel) rfl
theorem lk_13_218 : Cond.methodLink (kRn 13) 218 yX11_wet ∈ sT := sT_in (n := 1357) (by decide +kernel) rfl
theorem lk_13_22 : Cond.methodLink (kRn 13) 22 yX12_top ∈ sT := sT_in (n := 1607) (by decide +kernel) rfl
theorem lk_13_221 : Cond.methodLink (kRn 13) 221 yX12_wet ∈ sT := sT_in (n := 2173) (by decide +kernel) rfl
theorem lk_13_222 : Cond.methodLink (kRn 13) 222 yX11_live ∈ sT := sT_in (n := 1366) (by decide +kernel) rfl
theorem lk_13_225 : Cond.methodLink (kRn 13) 225 yX12_live ∈ sT := sT_in (n := 2177) (by decide +kernel) rfl
theorem lk_13_226 : Cond.methodLink (kRn 13) 226 yX11_lived ∈ sT := sT_in (n := 1424) (by decide +kernel) rfl
theorem lk_13_229 : Cond.methodLink (kRn 13) 229 yX12_lived ∈ sT := sT_in (n := 2219) (by decide +kernel) rfl
theorem lk_13_23 : Cond.methodLink (kRn 13) 23 yX11_bottom ∈ sT := sT_in (n := 674) (by decide +kernel) rfl
theorem lk_13_230 : Cond.methodLink (kRn 13) 230 yX11_mean ∈ sT := sT_in (n := 1432) (by decide +kernel) rfl
theorem lk_13_233 : Cond.methodLink (kRn 13) 233 yX12_mean ∈ sT := sT_in (n := 2223) (by decide +kernel) rfl
theorem lk_13_234 : Cond.methodLink (kRn 13) 234 yX11_mark ∈ sT := sT_in (n := 1437) (by decide +kernel) rfl
theorem lk_13_237 : Cond.methodLink (kRn 13) 237 yX12_mark ∈ sT := sT_in (n := 2227) (by decide +kernel) rfl
theorem lk_13_238 : Cond.methodLink (kRn 13) 238 yX11_back ∈ sT := sT_in (n := 1441) (by decide +kernel) rfl
theorem lk_13_241 : Cond.methodLink (kRn 13) 241 yX12_back ∈ sT := sT_in (n := 2231) (by decide +kernel) rfl
theorem lk_13_26 : Cond.methodLink (kRn 13) 26 yX12_bottom ∈ sT := sT_in (n := 1611) (by decide +kernel) rfl
theorem lk_13_27 : Cond.methodLink (kRn 13) 27 yX11_tray ∈ sT := sT_in (n := 678) (by decide +kernel) rfl
theorem lk_13_31 : Cond.methodLink (kRn 13) 31 yX12_tray ∈ sT := sT_in (n := 1615) (by decide +kernel) rfl
theorem lk_13_34 : Cond.methodLink (kRn 13) 34 yX11_write ∈ sT := sT_in (n := 697) (by decide +kernel) rfl
theorem lk_13_38 : Cond.methodLink (kRn 13) 38 yX12_write ∈ sT := sT_in (n := 1623) (by decide +kernel) rfl
theorem lk_13_39 : Cond.methodLink (kRn 13) 39 yX11_read ∈ sT := sT_in (n := 717) (by decide +kernel) rfl
theorem lk_13_43 : Cond.methodLink (kRn 13) 43 yX12_read ∈ sT := sT_in (n := 1638) (by decide +kernel) rfl
theorem lk_13_44 : Cond.methodLink (kRn 13) 44 yX11_pour ∈ sT := sT_in (n := 725) (by decide +kernel) rfl
theorem lk_13_48 : Cond.methodLink (kRn 13) 48 yX12_pour ∈ sT := sT_in (n := 1643) (by decide +kernel) rfl
theorem lk_13_49 : Cond.methodLink (kRn 13) 49 yX11_feed ∈ sT := sT_in (n := 737) (by decide +kernel) rfl
theorem lk_13_53 : Cond.methodLink (kRn 13) 53 yX12_feed ∈ sT := sT_in (n := 1647) (by decide +kernel) rfl
theorem lk_13_54 : Cond.methodLink (kRn 13) 54 yX11_river ∈ sT := sT_in (n := 745) (by decide +kernel) rfl
theorem lk_13_58 : Cond.methodLink (kRn 13) 58 yX12_river ∈ sT := sT_in (n := 1659) (by decide +kernel) rfl
theorem lk_13_59 : Cond.methodLink (kRn 13) 59 yX11_weeks ∈ sT := sT_in (n := 953) (by decide +kernel) rfl
theorem lk_13_62 : Cond.methodLink (kRn 13) 62 yX12_weeks ∈ sT := sT_in (n := 1852) (by decide +kernel) rfl
theorem lk_13_63 : Cond.methodLink (kRn 13) 63 yX11_fault ∈ sT := sT_in (n := 1015) (by decide +kernel) rfl
theorem lk_13_66 : Cond.methodLink (kRn 13) 66 yX12_fault ∈ sT := sT_in (n := 1655) (by decide +kernel) rfl
theorem lk_13_67 : Cond.methodLink (kRn 13) 67 yX11_many ∈ sT := sT_in (n := 1019) (by decide +kernel) rfl
theorem lk_13_70 : Cond.methodLink (kRn 13) 70 yX12_many ∈ sT := sT_in (n := 1868) (by decide +kernel) rfl
theorem lk_13_71 : Cond.methodLink (kRn 13) 71 yX11_turnsLeft ∈ sT := sT_in (n := 1039) (by decide +kernel) rfl
theorem lk_13_74 : Cond.methodLink (kRn 13) 74 yX12_turnsLeft ∈ sT := sT_in (n := 1889) (by decide +kernel) rfl
theorem lk_13_75 : Cond.methodLink (kRn 13) 75 yX11_water ∈ sT := sT_in (n := 1043) (by decide +kernel) rfl
theorem lk_13_79 : Cond.methodLink (kRn 13) 79 yX12_water ∈ sT := sT_in (n := 1893) (by decide +kernel) rfl
theorem lk_13_80 : Cond.methodLink (kRn 13) 80 yX11_reach ∈ sT := sT_in (n := 1047) (by decide +kernel) rfl
theorem lk_13_84 : Cond.methodLink (kRn 13) 84 yX12_reach ∈ sT := sT_in (n := 1898) (by decide +kernel) rfl
theorem lk_13_85 : Cond.methodLink (kRn 13) 85 yX11_mill ∈ sT := sT_in (n := 1060) (by decide +kernel) rfl
theorem lk_13_88 : Cond.methodLink (kRn 13) 88 yX12_mill ∈ sT := sT_in (n := 1916) (by decide +kernel) rfl
theorem lk_13_89 : Cond.methodLink (kRn 13) 89 yX11_winder ∈ sT := sT_in (n := 1068) (by decide +kernel) rfl
theorem lk_13_92 : Cond.methodLink (kRn 13) 92 yX12_winder ∈ sT := sT_in (n := 1925) (by decide +kernel) rfl
theorem lk_13_93 : Cond.methodLink (kRn 13) 93 yX11_copyStored ∈ sT := sT_in (n := 1076) (by decide +kernel) rfl
theorem lk_13_96 : Cond.methodLink (kRn 13) 96 yX12_copyStored ∈ sT := sT_in (n := 1934) (by decide +kernel) rfl
theorem lk_13_97 : Cond.methodLink (kRn 13) 97 yX11_hour ∈ sT := sT_in (n := 1080) (by decide +kernel) rfl
theorem yv_X11_back : yV yX11_back cX11_back 1 (some .int) 0 := ⟨⟨sT_in (n := 1444) (by decide +kernel) rfl, sT_in (n := 137) (by decide +kernel) rfl, by decide +kernel, by decide⟩, sT_in (n := 1442) (by decide +kernel) rfl, sT_in (n := 1443) (by decide +kernel) rfl⟩
theorem yv_X11_bestGate : yV yX11_bestGate cX11_bestGate 4 (some .int) 2 := ⟨⟨sT_in (n := 1252) (by decide +kernel) rfl, sT_in (n := 137) (by decide +kernel) rfl, by decide +kernel, by decide⟩, sT_in (n := 1250) (by decide +kernel) rfl, sT_in (n := 1251) (by decide +kernel) rfl⟩
theorem yv_X11_bestGround : yV yX11_bestGround cX11_bestGround 4 (some .int) 2 := ⟨⟨sT_in (n := 1264) (by decide +kernel) rfl, sT_in (n := 137) (by decide +kernel) rfl, by decide +kernel, by decide⟩, sT_in (n := 1262) (by decide +kernel) rfl, sT_in (n := 1263) (by decide +kernel) rfl⟩
theorem yv_X11_bottom : yV yX11_bottom cX11_bottom 1 (some .long) 0 := ⟨⟨sT_in (n := 677) (by decide +kernel) rfl, sT_in (n := 137) (by decide +kernel) rfl, by decide +kernel, by decide⟩, sT_in (n := 675) (by decide +kernel) rfl, sT_in (n := 676) (by decide +kernel) rfl⟩
theorem yv_X11_bring : yV yX11_bring cX11_bring 3 (some .int) 2 := ⟨⟨sT_in (n := 1161) (by decide +kernel) rfl, sT_in (n := 137) (by decide +kernel) rfl, by decide +kernel, by decide⟩, sT_in (n := 1159) (by decide +kernel) rfl, sT_in (n := 1160) (by decide +kernel) rfl⟩
theorem yv_X11_build : yV yX11_build cX11_build 3 (some .int) 2 := ⟨⟨sT_in (n := 1173) (by decide +kernel) rfl, sT_in (n := 137) (by decide +kernel) rfl, by decide +kernel, by decide⟩, sT_in (n := 1171) (by decide +kernel) rfl, sT_in (n := 1172) (by decide +kernel) rfl⟩
theorem yv_X11_cheapest : yV yX11_cheapest cX11_cheapest 6 (some .int) 2 := ⟨⟨sT_in (n := 1310) (by decide +kernel) rfl, sT_in (n := 137) (by decide +kernel) rfl, by decide +kernel, by decide⟩, sT_in (n := 1308) (by decide +kernel) rfl, sT_in (n := 1309) (by decide +kernel) rfl⟩
theorem yv_X11_copyStored : yV yX11_copyStored cX11_copyStored 4 (some .int) 1 := ⟨⟨sT_in (n := 1079) (by decide +kernel) rfl, sT_in (n := 137) (by decide +kernel) rfl, by decide +kernel, by decide⟩, sT_in (n := 1077) (by decide +kernel) rfl, sT_in (n := 1078) (by decide +kernel) rfl⟩
theorem yv_X11_dryIn : yV yX11_dryIn cX11_dryIn 2 (some .int) 1 := ⟨⟨sT_in (n := 1211) (by decide +kernel) rfl, sT_in (n := 137) (by decide +kernel) rfl, by decide +kernel, by decide⟩, sT_in (n := 1209) (by decide +kernel) rfl, sT_in (n := 1210) (by decide +kernel) rfl⟩
theorem yv_X11_enough : yV yX11_enough cX11_enough 4 (some .int) 3 := ⟨⟨sT_in (n := 1244) (by decide +kernel) rfl, sT_in (n := 137) (by decide +kernel) rfl, by decide +kernel, by decide⟩, sT_in (n := 1242) (by decide +kernel) rfl, sT_in (n := 1243) (by decide +kernel) rfl⟩
theorem yv_X11_fault : yV yX11_fault cX11_fault 2 (some .int) 1 := ⟨⟨sT_in (n := 1018) (by decide +kernel) rfl, sT_in (n := 137) (by decide +kernel) rfl, by decide +kernel, by decide⟩, sT_in (n := 1016) (by decide +kernel) rfl, sT_in (n := 1017) (by decide +kernel) rfl⟩
theorem yv_X11_feed : yV yX11_feed cX11_feed 6 (some .int) 5 := ⟨⟨sT_in (n := 740) (by decide +kernel) rfl, sT_in (n := 137) (by decide +kernel) rfl, by decide +kernel, by decide⟩, sT_in (n := 738) (by decide +kernel) rfl, sT_in (n := 739) (by decide +kernel) rfl⟩
theorem yv_X11_floodIn : yV yX11_floodIn cX11_floodIn 2 (some .int) 1 := ⟨⟨sT_in (n := 1224) (by decide +kernel) rfl, sT_in (n := 137) (by decide +kernel) rfl, by decide +kernel, by decide⟩, sT_in (n := 1222) (by decide +kernel) rfl, sT_in (n := 1223) (by decide +kernel) rfl⟩
theorem yv_X11_game : yV yX11_game cX11_game 4 (some .int) 3 := ⟨⟨sT_in (n := 1318) (by decide +kernel) rfl, sT_in (n := 137) (by decide +kernel) rfl, by decide +kernel, by decide⟩, sT_in (n := 1316) (by decide +kernel) rfl, sT_in (n := 1317) (by decide +kernel) rfl⟩
theorem yv_X11_gate : yV yX11_gate cX11_gate 4 (some .int) 2 := ⟨⟨sT_in (n := 1153) (by decide +kernel) rfl, sT_in (n := 137) (by decide +kernel) rfl, by decide +kernel, by decide⟩, sT_in (n := 1151) (by decide +kernel) rfl, sT_in (n := 1152) (by decide +kernel) rfl⟩
theorem yv_X11_groundIn : yV yX11_groundIn cX11_groundIn 3 (some .int) 2 := ⟨⟨sT_in (n := 1203) (by decide +kernel) rfl, sT_in (n := 137) (by decide +kernel) rfl, by decide +kernel, by decide⟩, sT_in (n := 1201) (by decide +kernel) rfl, sT_in (n := 1202) (by decide +kernel) rfl⟩
theorem yv_X11_hire : yV yX11_hire cX11_hire 3 (some .int) 2 := ⟨⟨sT_in (n := 1268) (by decide +kernel) rfl, sT_in (n := 137) (by decide +kernel) rfl, by decide +kernel, by decide⟩, sT_in (n := 1266) (by decide +kernel) rfl, sT_in (n := 1267) (by decide +kernel) rfl⟩
theorem yv_X11_hireAt : yV yX11_hireAt cX11_hireAt 4 (some .int) 3 := ⟨⟨sT_in (n := 1286) (by decide +kernel) rfl, sT_in (n := 137) (by decide +kernel) rfl, by decide +kernel, by decide⟩, sT_in (n := 1284) (by decide +kernel) rfl, sT_in (n := 1285) (by decide +kernel) rfl⟩
theorem yv_X11_hour : yV yX11_hour cX11_hour 2 (some .int) 1 := ⟨⟨sT_in (n := 1083) (by decide +kernel) rfl, sT_in (n := 137) (by decide +kernel) rfl, by decide +kernel, by decide⟩, sT_in (n := 1081) (by decide +kernel) rfl, sT_in (n := 1082) (by decide +kernel) rfl⟩
theorem yv_X11_lawIn : yV yX11_lawIn cX11_lawIn 1 (some .int) 0 := ⟨⟨sT_in (n := 1240) (by decide +kernel) rfl, sT_in (n := 137) (by decide +kernel) rfl, by decide +kernel, by decide⟩, sT_in (n := 1238) (by decide +kernel) rfl, sT_in (n := 1239) (by decide +kernel) rfl⟩
theorem yv_X11_live : yV yX11_live cX11_live 2 (some .int) 1 := ⟨⟨sT_in (n := 1369) (by decide +kernel) rfl, sT_in (n := 137) (by decide +kernel) rfl, by decide +kernel, by decide⟩, sT_in (n := 1367) (by decide +kernel) rfl, sT_in (n := 1368) (by decide +kernel) rfl⟩
theorem yv_X11_lived : yV yX11_lived cX11_lived 2 (some .int) 1 := ⟨⟨sT_in (n := 1427) (by decide +kernel) rfl, sT_in (n := 137) (by decide +kernel) rfl, by decide +kernel, by decide⟩, sT_in (n := 1425) (by decide +kernel) rfl, sT_in (n := 1426) (by decide +kernel) rfl⟩
theorem yv_X11_many : yV yX11_many cX11_many 2 (some .int) 1 := ⟨⟨sT_in (n := 1022) (by decide +kernel) rfl, sT_in (n := 137) (by decide +kernel) rfl, by decide +kernel, by decide⟩, sT_in (n := 1020) (by decide +kernel) rfl, sT_in (n := 1021) (by decide +kernel) rfl⟩
theorem yv_X11_mark : yV yX11_mark cX11_mark 1 (some .int) 0 := ⟨⟨sT_in (n := 1440) (by decide +kernel) rfl, sT_in (n := 137) (by decide +kernel) rfl, by decide +kernel, by decide⟩, sT_in (n := 1438) (by decide +kernel) rfl, sT_in (n := 1439) (by decide +kernel) rfl⟩
theorem yv_X11_mean : yV yX11_mean cX11_mean 7 (some .boolean) 2 := ⟨⟨sT_in (n := 1435) (by decide +kernel) rfl, sT_in (n := 137) (by decide +kernel) rfl, by decide +kernel, by decide⟩, sT_in (n := 1433) (by decide +kernel) rfl, sT_in (n := 1434) (by decide +kernel) rfl⟩
theorem yv_X11_mill : yV yX11_mill cX11_mill 3 (some .int) 2 := ⟨⟨sT_in (n := 1063) (by decide +kernel) rfl, sT_in (n := 137) (by decide +kernel) rfl, by decide +kernel, by decide⟩, sT_in (n := 1061) (by decide +kernel) rfl, sT_in (n := 1062) (by decide +kernel) rfl⟩
theorem yv_X11_moveOf : yV yX11_moveOf cX11_moveOf 4 (some .int) 3 := ⟨⟨sT_in (n := 1337) (by decide +kernel) rfl, sT_in (n := 137) (by decide +kernel) rfl, by decide +kernel, by decide⟩, sT_in (n := 1335) (by decide +kernel) rfl, sT_in (n := 1336) (by decide +kernel) rfl⟩
theorem yv_X11_oil : yV yX11_oil cX11_oil 1 (some .int) 0 := ⟨⟨sT_in (n := 1149) (by decide +kernel) rfl, sT_in (n := 137) (by decide +kernel) rfl, by decide +kernel, by decide⟩, sT_in (n := 1147) (by decide +kernel) rfl, sT_in (n := 1148) (by decide +kernel) rfl⟩
theorem yv_X11_pour : yV yX11_pour cX11_pour 6 (some .boolean) 5 := ⟨⟨sT_in (n := 728) (by decide +kernel) rfl, sT_in (n := 137) (by decide +kernel) rfl, by decide +kernel, by decide⟩, sT_in (n := 726) (by decide +kernel) rfl, sT_in (n := 727) (by decide +kernel) rfl⟩
theorem yv_X11_price : yV yX11_price cX11_price 2 (some .boolean) 1 := ⟨⟨sT_in (n := 1356) (by decide +kernel) rfl, sT_in (n := 137) (by decide +kernel) rfl, by decide +kernel, by decide⟩, sT_in (n := 1354) (by decide +kernel) rfl, sT_in (n := 1355) (by decide +kernel) rfl⟩
theorem yv_X11_rain : yV yX11_rain cX11_rain 2 (some .boolean) 1 := ⟨⟨sT_in (n := 1157) (by decide +kernel) rfl, sT_in (n := 137) (by decide +kernel) rfl, by decide +kernel, by decide⟩, sT_in (n := 1155) (by decide +kernel) rfl, sT_in (n := 1156) (by decide +kernel) rfl⟩
theorem yv_X11_reach : yV yX11_reach cX11_reach 3 (some .int) 2 := ⟨⟨sT_in (n := 1050) (by decide +kernel) rfl, sT_in (n := 137) (by decide +kernel) rfl, by decide +kernel, by decide⟩, sT_in (n := 1048) (by decide +kernel) rfl, sT_in (n := 1049) (by decide +kernel) rfl⟩
theorem yv_X11_read : yV yX11_read cX11_read 4 (some .long) 2 := ⟨⟨sT_in (n := 720) (by decide +kernel) rfl, sT_in (n := 137) (by decide +kernel) rfl, by decide +kernel, by decide⟩, sT_in (n := 718) (by decide +kernel) rfl, sT_in (n := 719) (by decide +kernel) rfl⟩
theorem yv_X11_river : yV yX11_river cX11_river 3 (some .int) 1 := ⟨⟨sT_in (n := 748) (by decide +kernel) rfl, sT_in (n := 137) (by decide +kernel) rfl, by decide +kernel, by decide⟩, sT_in (n := 746) (by decide +kernel) rfl, sT_in (n := 747) (by decide +kernel) rfl⟩
theorem yv_X11_rule : yV yX11_rule cX11_rule 3 (some .boolean) 2 := ⟨⟨sT_in (n := 1166) (by decide +kernel) rfl, sT_in (n := 137) (by decide +kernel) rfl, by decide +kernel, by decide⟩, sT_in (n := 1164) (by decide +kernel) rfl, sT_in (n := 1165) (by decide +kernel) rfl⟩
theorem yv_X11_seaIn : yV yX11_seaIn cX11_seaIn 2 (some .long) 1 := ⟨⟨sT_in (n := 1207) (by decide +kernel) rfl, sT_in (n := 137) (by decide +kernel) rfl, by decide +kernel, by decide⟩, sT_in (n := 1205) (by decide +kernel) rfl, sT_in (n := 1206) (by decide +kernel) rfl⟩
theorem yv_X11_share : yV yX11_share cX11_share 3 (some .boolean) 1 := ⟨⟨sT_in (n := 1341) (by decide +kernel) rfl, sT_in (n := 137) (by decide +kernel) rfl, by decide +kernel, by decide⟩, sT_in (n := 1339) (by decide +kernel) rfl, sT_in (n := 1340) (by decide +kernel) rfl⟩
theorem yv_X11_status : yV yX11_status cX11_status 1 (some .int) 0 := ⟨⟨sT_in (n := 669) (by decide +kernel) rfl, sT_in (n := 137) (by decide +kernel) rfl, by decide +kernel, by decide⟩, sT_in (n := 667) (by decide +kernel) rfl, sT_in (n := 668) (by decide +kernel) rfl⟩
theorem yv_X11_stillIn : yV yX11_stillIn cX11_stillIn 1 (some .int) 0 := ⟨⟨sT_in (n := 1232) (by decide +kernel) rfl, sT_in (n := 137) (by decide +kernel) rfl, by decide +kernel, by decide⟩, sT_in (n := 1230) (by decide +kernel) rfl, sT_in (n := 1231) (by decide +kernel) rfl⟩
theorem yv_X11_storedIn : yV yX11_storedIn cX11_storedIn 3 (some .int) 2 := ⟨⟨sT_in (n := 1199) (by decide +kernel) rfl, sT_in (n := 137) (by decide +kernel) rfl, by decide +kernel, by decide⟩, sT_in (n := 1197) (by decide +kernel) rfl, sT_in (n := 1198) (by decide +kernel) rfl⟩
theorem yv_X11_sure : yV yX11_sure cX11_sure 5 (some .int) 2 := ⟨⟨sT_in (n := 1306) (by decide +kernel) rfl, sT_in (n := 137) (by decide +kernel) rfl, by decide +kernel, by decide⟩, sT_in (n := 1304) (by decide +kernel) rfl, sT_in (n := 1305) (by decide +kernel) rfl⟩
theorem yv_X11_top : yV yX11_top cX11_top 1 (some .long) 0 := ⟨⟨sT_in (n := 673) (by decide +kernel) rfl, sT_in (n := 137) (by decide +kernel) rfl, by decide +kernel, by decide⟩, sT_in (n := 671) (by decide +kernel) rfl, sT_in (n := 672) (by decide +kernel) rfl⟩
theorem yv_X11_train : yV yX11_train cX11_train 3 (some .boolean) 2 := ⟨⟨sT_in (n := 1178) (by decide +kernel) rfl, sT_in (n := 137) (by decide +kernel) rfl, by decide +kernel, by decide⟩, sT_in (n := 1176) (by decide +kernel) rfl, sT_in (n := 1177) (by decide +kernel) rfl⟩
theorem yv_X11_tray : yV yX11_tray cX11_tray 4 (some .boolean) 3 := ⟨⟨sT_in (n := 681) (by decide +kernel) rfl, sT_in (n := 137) (by decide +kernel) rfl, by decide +kernel, by decide⟩, sT_in (n := 679) (by decide +kernel) rfl, sT_in (n := 680) (by decide +kernel) rfl⟩
theorem yv_X11_turnsIn : yV yX11_turnsIn cX11_turnsIn 2 (some .int) 1 := ⟨⟨sT_in (n := 1182) (by decide +kernel) rfl, sT_in (n := 137) (by decide +kernel) rfl, by decide +kernel, by decide⟩, sT_in (n := 1180) (by decide +kernel) rfl, sT_in (n := 1181) (by decide +kernel) rfl⟩
theorem yv_X11_turnsLeft : yV yX11_turnsLeft cX11_turnsLeft 1 (some .int) 0 := ⟨⟨sT_in (n := 1042) (by decide +kernel) rfl, sT_in (n := 137) (by decide +kernel) rfl, by decide +kernel, by decide⟩, sT_in (n := 1040) (by decide +kernel) rfl, sT_in (n := 1041) (by decide +kernel) rfl⟩
theorem yv_X11_water : yV yX11_water cX11_water 2 (some .long) 1 := ⟨⟨sT_in (n := 1046) (by decide +kernel) rfl, sT_in (n := 137) (by decide +kernel) rfl, by decide +kernel, by decide⟩, sT_in (n := 1044) (by decide +kernel) rfl, sT_in (n := 1045) (by decide +kernel) rfl⟩
theorem yv_X11_weeks : yV yX11_weeks cX11_weeks 2 (some .int) 1 := ⟨⟨sT_in (n := 956) (by decide +kernel) rfl, sT_in (n := 137) (by decide +kernel) rfl, by decide +kernel, by decide⟩, sT_in (n := 954) (by decide +kernel) rfl, sT_in (n := 955) (by decide +kernel) rfl⟩
theorem yv_X11_wet : yV yX11_wet cX11_wet 8 (some .boolean) 2 := ⟨⟨sT_in (n := 1360) (by decide +kernel) rfl, sT_in (n := 137) (by decide +kernel) rfl, by decide +kernel, by decide⟩, sT_in (n := 1358) (by decide +kernel) rfl, sT_in (n := 1359) (by decide +kernel) rfl⟩
theorem yv_X11_wind : yV yX11_wind cX11_wind 3 (some .int) 2 := ⟨⟨sT_in (n := 1133) (by decide +kernel) rfl, sT_in (n := 137) (by decide +kernel) rfl, by decide +kernel, by decide⟩, sT_in (n := 1131) (by decide +kernel) rfl, sT_in (n := 1132) (by decide +kernel) rfl⟩
theorem yv_X11_winder : yV yX11_winder cX11_winder 3 (some .int) 2 := ⟨⟨sT_in (n := 1071) (by decide +kernel) rfl, sT_in (n := 137) (by decide +kernel) rfl, by decide +kernel, by decide⟩, sT_in (n := 1069) (by decide +kernel) rfl, sT_in (n := 1070) (by decide +kernel) rfl⟩
theorem yv_X11_wound : yV yX11_wound cX11_wound 5 (some .int) 2 := ⟨⟨sT_in (n := 1290) (by decide +kernel) rfl, sT_in (n := 137) (by decide +kernel) rfl, by decide +kernel, by decide⟩, sT_in (n := 1288) (by decide +kernel) rfl, sT_in (n := 1289) (by decide +kernel) rfl⟩
theorem yv_X11_write : yV yX11_write cX11_write 6 (some .boolean) 3 := ⟨⟨sT_in (n := 700) (by decide +kernel) rfl, sT_in (n := 137) (by decide +kernel) rfl, by decide +kernel, by decide⟩, sT_in (n := 698) (by decide +kernel) rfl, sT_in (n := 699) (by decide +kernel) rfl⟩
theorem yv_X12_back : yV yX12_back cX12_back 1 (some .int) 0 := ⟨⟨sT_in (n := 2234) (by decide +kernel) rfl, sT_in (n := 149) (by decide +kernel) rfl, by decide +kernel, by decide⟩, sT_in (n := 2232) (by decide +kernel) rfl, sT_in (n := 2233) (by decide +kernel) rfl⟩
theorem yv_X12_bestGate : yV yX12_bestGate cX12_bestGate 3 (some .int) 2 := ⟨⟨sT_in (n := 2081) (by decide +kernel) rfl, sT_in (n := 149) (by decide +kernel) rfl, by decide +kernel, by decide⟩, sT_in (n := 2079) (by decide +kernel) rfl, sT_in (n := 2080) (by decide +kernel) rfl⟩
theorem yv_X12_bestGround : yV yX12_bestGround cX12_bestGround 3 (some .int) 2 := ⟨⟨sT_in (n := 2094) (by decide +kernel) rfl, sT_in (n := 149) (by decide +kernel) rfl, by decide +kernel, by decide⟩, sT_in (n := 2092) (by decide +kernel) rfl, sT_in (n := 2093) (by decide +kernel) rfl⟩
theorem yv_X12_bottom : yV yX12_bottom cX12_bottom 1 (some .long) 0 := ⟨⟨sT_in (n := 1614) (by decide +kernel) rfl, sT_in (n := 149) (by decide +kernel) rfl, by decide +kernel, by decide⟩, sT_in (n := 1612) (by decide +kernel) rfl, sT_in (n := 1613) (by decide +kernel) rfl⟩
theorem yv_X12_bring : yV yX12_bring cX12_bring 4 (some .int) 2 := ⟨⟨sT_in (n := 2007) (by decide +kernel) rfl, sT_in (n := 149) (by decide +kernel) rfl, by decide +kernel, by decide⟩, sT_in (n := 2005) (by decide +kernel) rfl, sT_in (n := 2006) (by decide +kernel) rfl⟩
theorem yv_X12_build : yV yX12_build cX12_build 4 (some .int) 2 := ⟨⟨sT_in (n := 2019) (by decide +kernel) rfl, sT_in (n := 149) (by decide +kernel) rfl, by decide +kernel, by decide⟩, sT_in (n := 2017) (by decide +kernel) rfl, sT_in (n := 2018) (by decide +kernel) rfl⟩
theorem yv_X12_cheapest : yV yX12_cheapest cX12_cheapest 3 (some .int) 2 := ⟨⟨sT_in (n := 2141) (by decide +kernel) rfl, sT_in (n := 149) (by decide +kernel) rfl, by decide +kernel, by decide⟩, sT_in (n := 2139) (by decide +kernel) rfl, sT_in (n := 2140) (by decide +kernel) rfl⟩
theorem yv_X12_copyStored : yV yX12_copyStored cX12_copyStored 3 (some .int) 1 := ⟨⟨sT_in (n := 1937) (by decide +kernel) rfl, sT_in (n := 149) (by decide +kernel) rfl, by decide +kernel, by decide⟩, sT_in (n := 1935) (by decide +kernel) rfl, sT_in (n := 1936) (by decide +kernel) rfl⟩
theorem yv_X12_dryIn : yV yX12_dryIn cX12_dryIn 4 (some .int) 1 := ⟨⟨sT_in (n := 2060) (by decide +kernel) rfl, sT_in (n := 149) (by decide +kernel) rfl, by decide +kernel, by decide⟩, sT_in (n := 2058) (by decide +kernel) rfl, sT_in (n := 2059) (by decide +kernel) rfl⟩
theorem yv_X12_enough : yV yX12_enough cX12_enough 7 (some .int) 3 := ⟨⟨sT_in (n := 2076) (by decide +kernel) rfl, sT_in (n := 149) (by decide +kernel) rfl, by decide +kernel, by decide⟩, sT_in (n := 2074) (by decide +kernel) rfl, sT_in (n := 2075) (by decide +kernel) rfl⟩
theorem yv_X12_fault : yV yX12_fault cX12_fault 2 (some .int) 1 := ⟨⟨sT_in (n := 1658) (by decide +kernel) rfl, sT_in (n := 149) (by decide +kernel) rfl, by decide +kernel, by decide⟩, sT_in (n := 1656) (by decide +kernel) rfl, sT_in (n := 1657) (by decide +kernel) rfl⟩
theorem yv_X12_feed : yV yX12_feed cX12_feed 6 (some .int) 5 := ⟨⟨sT_in (n := 1650) (by decide +kernel) rfl, sT_in (n := 149) (by decide +kernel) rfl, by decide +kernel, by decide⟩, sT_in (n := 1648) (by decide +kernel) rfl, sT_in (n := 1649) (by decide +kernel) rfl⟩
theorem yv_X12_floodIn : yV yX12_floodIn cX12_floodIn 4 (some .int) 1 := ⟨⟨sT_in (n := 2064) (by decide +kernel) rfl, sT_in (n := 149) (by decide +kernel) rfl, by decide +kernel, by decide⟩, sT_in (n := 2062) (by decide +kernel) rfl, sT_in (n := 2063) (by decide +kernel) rfl⟩
theorem yv_X12_game : yV yX12_game cX12_game 5 (some .int) 3 := ⟨⟨sT_in (n := 2145) (by decide +kernel) rfl, sT_in (n := 149) (by decide +kernel) rfl, by decide +kernel, by decide⟩, sT_in (n := 2143) (by decide +kernel) rfl, sT_in (n := 2144) (by decide +kernel) rfl⟩
theorem yv_X12_gate : yV yX12_gate cX12_gate 4 (some .int) 2 := ⟨⟨sT_in (n := 1994) (by decide +kernel) rfl, sT_in (n := 149) (by decide +kernel) rfl, by decide +kernel, by decide⟩, sT_in (n := 1992) (by decide +kernel) rfl, sT_in (n := 1993) (by decide +kernel) rfl⟩
theorem yv_X12_groundIn : yV yX12_groundIn cX12_groundIn 3 (some .int) 2 := ⟨⟨sT_in (n := 2052) (by decide +kernel) rfl, sT_in (n := 149) (by decide +kernel) rfl, by decide +kernel, by decide⟩, sT_in (n := 2050) (by decide +kernel) rfl, sT_in (n := 2051) (by decide +kernel) rfl⟩
theorem yv_X12_hire : yV yX12_hire cX12_hire 3 (some .int) 2 := ⟨⟨sT_in (n := 2098) (by decide +kernel) rfl, sT_in (n := 149) (by decide +kernel) rfl, by decide +kernel, by decide⟩, sT_in (n := 2096) (by decide +kernel) rfl, sT_in (n := 2097) (by decide +kernel) rfl⟩
theorem yv_X12_hireAt : yV yX12_hireAt cX12_hireAt 4 (some .int) 3 := ⟨⟨sT_in (n := 2121) (by decide +kernel) rfl, sT_in (n := 149) (by decide +kernel) rfl, by decide +kernel, by decide⟩, sT_in (n := 2119) (by decide +kernel) rfl, sT_in (n := 2120) (by decide +kernel) rfl⟩
theorem yv_X12_hour : yV yX12_hour cX12_hour 4 (some .int) 1 := ⟨⟨sT_in (n := 1946) (by decide +kernel) rfl, sT_in (n := 149) (by decide +kernel) rfl, by decide +kernel, by decide⟩, sT_in (n := 1944) (by decide +kernel) rfl, sT_in (n := 1945) (by decide +kernel) rfl⟩
theorem yv_X12_lawIn : yV yX12_lawIn cX12_lawIn 1 (some .int) 0 := ⟨⟨sT_in (n := 2072) (by decide +kernel) rfl, sT_in (n := 149) (by decide +kernel) rfl, by decide +kernel, by decide⟩, sT_in (n := 2070) (by decide +kernel) rfl, sT_in (n := 2071) (by decide +kernel) rfl⟩
theorem yv_X12_live : yV yX12_live cX12_live 2 (some .int) 1 := ⟨⟨sT_in (n := 2180) (by decide +kernel) rfl, sT_in (n := 149) (by decide +kernel) rfl, by decide +kernel, by decide⟩, sT_in (n := 2178) (by decide +kernel) rfl, sT_in (n := 2179) (by decide +kernel) rfl⟩
theorem yv_X12_lived : yV yX12_lived cX12_lived 2 (some .int) 1 := ⟨⟨sT_in (n := 2222) (by decide +kernel) rfl, sT_in (n := 149) (by decide +kernel) rfl, by decide +kernel, by decide⟩, sT_in (n := 2220) (by decide +kernel) rfl, sT_in (n := 2221) (by decide +kernel) rfl⟩
theorem yv_X12_many : yV yX12_many cX12_many 2 (some .int) 1 := ⟨⟨sT_in (n := 1871) (by decide +kernel) rfl, sT_in (n := 149) (by decide +kernel) rfl, by decide +kernel, by decide⟩, sT_in (n := 1869) (by decide +kernel) rfl, sT_in (n := 1870) (by decide +kernel) rfl⟩
theorem yv_X12_mark : yV yX12_mark cX12_mark 1 (some .int) 0 := ⟨⟨sT_in (n := 2230) (by decide +kernel) rfl, sT_in (n := 149) (by decide +kernel) rfl, by decide +kernel, by decide⟩, sT_in (n := 2228) (by decide +kernel) rfl, sT_in (n := 2229) (by decide +kernel) rfl⟩
theorem yv_X12_mean : yV yX12_mean cX12_mean 7 (some .boolean) 2 := ⟨⟨sT_in (n := 2226) (by decide +kernel) rfl, sT_in (n := 149) (by decide +kernel) rfl, by decide +kernel, by decide⟩, sT_in (n := 2224) (by decide +kernel) rfl, sT_in (n := 2225) (by decide +kernel) rfl⟩
theorem yv_X12_mill : yV yX12_mill cX12_mill 3 (some .int) 2 := ⟨⟨sT_in (n := 1919) (by decide +kernel) rfl, sT_in (n := 149) (by decide +kernel) rfl, by decide +kernel, by decide⟩, sT_in (n := 1917) (by decide +kernel) rfl, sT_in (n := 1918) (by decide +kernel) rfl⟩
theorem yv_X12_moveOf : yV yX12_moveOf cX12_moveOf 4 (some .int) 3 := ⟨⟨sT_in (n := 2157) (by decide +kernel) rfl, sT_in (n := 149) (by decide +kernel) rfl, by decide +kernel, by decide⟩, sT_in (n := 2155) (by decide +kernel) rfl, sT_in (n := 2156) (by decide +kernel) rfl⟩
theorem yv_X12_oil : yV yX12_oil cX12_oil 1 (some .int) 0 := ⟨⟨sT_in (n := 1990) (by decide +kernel) rfl, sT_in (n := 149) (by decide +kernel) rfl, by decide +kernel, by decide⟩, sT_in (n := 1988) (by decide +kernel) rfl, sT_in (n := 1989) (by decide +kernel) rfl⟩
theorem yv_X12_pour : yV yX12_pour cX12_pour 9 (some .boolean) 5 := ⟨⟨sT_in (n := 1646) (by decide +kernel) rfl, sT_in (n := 149) (by decide +kernel) rfl, by decide +kernel, by decide⟩, sT_in (n := 1644) (by decide +kernel) rfl, sT_in (n := 1645) (by decide +kernel) rfl⟩
theorem yv_X12_price : yV yX12_price cX12_price 2 (some .boolean) 1 := ⟨⟨sT_in (n := 2172) (by decide +kernel) rfl, sT_in (n := 149) (by decide +kernel) rfl, by decide +kernel, by decide⟩, sT_in (n := 2170) (by decide +kernel) rfl, sT_in (n := 2171) (by decide +kernel) rfl⟩
theorem yv_X12_rain : yV yX12_rain cX12_rain 2 (some .boolean) 1 := ⟨⟨sT_in (n := 2003) (by decide +kernel) rfl, sT_in (n := 149) (by decide +kernel) rfl, by decide +kernel, by decide⟩, sT_in (n := 2001) (by decide +kernel) rfl, sT_in (n := 2002) (by decide +kernel) rfl⟩
theorem yv_X12_reach : yV yX12_reach cX12_reach 3 (some .int) 2 := ⟨⟨sT_in (n := 1901) (by decide +kernel) rfl, sT_in (n := 149) (by decide +kernel) rfl, by decide +kernel, by decide⟩, sT_in (n := 1899) (by decide +kernel) rfl, sT_in (n := 1900) (by decide +kernel) rfl⟩
theorem yv_X12_read : yV yX12_read cX12_read 3 (some .long) 2 := ⟨⟨sT_in (n := 1641) (by decide +kernel) rfl, sT_in (n := 149) (by decide +kernel) rfl, by decide +kernel, by decide⟩, sT_in (n := 1639) (by decide +kernel) rfl, sT_in (n := 1640) (by decide +kernel) rfl⟩
theorem yv_X12_river : yV yX12_river cX12_river 2 (some .int) 1 := ⟨⟨sT_in (n := 1662) (by decide +kernel) rfl, sT_in (n := 149) (by decide +kernel) rfl, by decide +kernel, by decide⟩, sT_in (n := 1660) (by decide +kernel) rfl, sT_in (n := 1661) (by decide +kernel) rfl⟩
theorem yv_X12_rule : yV yX12_rule cX12_rule 3 (some .boolean) 2 := ⟨⟨sT_in (n := 2013) (by decide +kernel) rfl, sT_in (n := 149) (by decide +kernel) rfl, by decide +kernel, by decide⟩, sT_in (n := 2011) (by decide +kernel) rfl, sT_in (n := 2012) (by decide +kernel) rfl⟩
theorem yv_X12_seaIn : yV yX12_seaIn cX12_seaIn 2 (some .long) 1 := ⟨⟨sT_in (n := 2056) (by decide +kernel) rfl, sT_in (n := 149) (by decide +kernel) rfl, by decide +kernel, by decide⟩, sT_in (n := 2054) (by decide +kernel) rfl, sT_in (n := 2055) (by decide +kernel) rfl⟩
theorem yv_X12_share : yV yX12_share cX12_share 2 (some .boolean) 1 := ⟨⟨sT_in (n := 2161) (by decide +kernel) rfl, sT_in (n := 149) (by decide +kernel) rfl, by decide +kernel, by decide⟩, sT_in (n := 2159) (by decide +kernel) rfl, sT_in (n := 2160) (by decide +kernel) rfl⟩
theorem yv_X12_status : yV yX12_status cX12_status 1 (some .int) 0 := ⟨⟨sT_in (n := 1606) (by decide +kernel) rfl, sT_in (n := 149) (by decide +kernel) rfl, by decide +kernel, by decide⟩, sT_in (n := 1604) (by decide +kernel) rfl, sT_in (n := 1605) (by decide +kernel) rfl⟩
theorem yv_X12_stillIn : yV yX12_stillIn cX12_stillIn 3 (some .int) 0 := ⟨⟨sT_in (n := 2068) (by decide +kernel) rfl, sT_in (n := 149) (by decide +kernel) rfl, by decide +kernel, by decide⟩, sT_in (n := 2066) (by decide +kernel) rfl, sT_in (n := 2067) (by decide +kernel) rfl⟩
theorem yv_X12_storedIn : yV yX12_storedIn cX12_storedIn 3 (some .int) 2 := ⟨⟨sT_in (n := 2048) (by decide +kernel) rfl, sT_in (n := 149) (by decide +kernel) rfl, by decide +kernel, by decide⟩, sT_in (n := 2046) (by decide +kernel) rfl, sT_in (n := 2047) (by decide +kernel) rfl⟩
theorem yv_X12_sure : yV yX12_sure cX12_sure 3 (some .int) 2 := ⟨⟨sT_in (n := 2137) (by decide +kernel) rfl, sT_in (n := 149) (by decide +kernel) rfl, by decide +kernel, by decide⟩, sT_in (n := 2135) (by decide +kernel) rfl, sT_in (n := 2136) (by decide +kernel) rfl⟩
theorem yv_X12_top : yV yX12_top cX12_top 1 (some .long) 0 := ⟨⟨sT_in (n := 1610) (by decide +kernel) rfl, sT_in (n := 149) (by decide +kernel) rfl, by decide +kernel, by decide⟩, sT_in (n := 1608) (by decide +kernel) rfl, sT_in (n := 1609) (by decide +kernel) rfl⟩
theorem yv_X12_train : yV yX12_train cX12_train 3 (some .boolean) 2 := ⟨⟨sT_in (n := 2023) (by decide +kernel) rfl, sT_in (n := 149) (by decide +kernel) rfl, by decide +kernel, by decide⟩, sT_in (n := 2021) (by decide +kernel) rfl, sT_in (n := 2022) (by decide +kernel) rfl⟩
theorem yv_X12_tray : yV yX12_tray cX12_tray 5 (some .boolean) 3 := ⟨⟨sT_in (n := 1618) (by decide +kernel) rfl, sT_in (n := 149) (by decide +kernel) rfl, by decide +kernel, by decide⟩, sT_in (n := 1616) (by decide +kernel) rfl, sT_in (n := 1617) (by decide +kernel) rfl⟩
theorem yv_X12_turnsIn : yV yX12_turnsIn cX12_turnsIn 2 (some .int) 1 := ⟨⟨sT_in (n := 2028) (by decide +kernel) rfl, sT_in (n := 149) (by decide +kernel) rfl, by decide +kernel, by decide⟩, sT_in (n := 2026) (by decide +kernel) rfl, sT_in (n := 2027) (by decide +kernel) rfl⟩
theorem yv_X12_turnsLeft : yV yX12_turnsLeft cX12_turnsLeft 1 (some .int) 0 := ⟨⟨sT_in (n := 1892) (by decide +kernel) rfl, sT_in (n := 149) (by decide +kernel) rfl, by decide +kernel, by decide⟩, sT_in (n := 1890) (by decide +kernel) rfl, sT_in (n := 1891) (by decide +kernel) rfl⟩
theorem yv_X12_water : yV yX12_water cX12_water 2 (some .long) 1 := ⟨⟨sT_in (n := 1896) (by decide +kernel) rfl, sT_in (n := 149) (by decide +kernel) rfl, by decide +kernel, by decide⟩, sT_in (n := 1894) (by decide +kernel) rfl, sT_in (n := 1895) (by decide +kernel) rfl⟩
theorem yv_X12_weeks : yV yX12_weeks cX12_weeks 3 (some .int) 1 := ⟨⟨sT_in (n := 1855) (by decide +kernel) rfl, sT_in (n := 149) (by decide +kernel) rfl, by decide +kernel, by decide⟩, sT_in (n := 1853) (by decide +kernel) rfl, sT_in (n := 1854) (by decide +kernel) rfl⟩
theorem yv_X12_wet : yV yX12_wet cX12_wet 8 (some .boolean) 2 := ⟨⟨sT_in (n := 2176) (by decide +kernel) rfl, sT_in (n := 149) (by decide +kernel) rfl, by decide +kernel, by decide⟩, sT_in (n := 2174) (by decide +kernel) rfl, sT_in (n := 2175) (by decide +kernel) rfl⟩
theorem yv_X12_wind : yV yX12_wind cX12_wind 3 (some .int) 2 := ⟨⟨sT_in (n := 1974) (by decide +kernel) rfl, sT_in (n := 149) (by decide +kernel) rfl, by decide +kernel, by decide⟩, sT_in (n := 1972) (by decide +kernel) rfl, sT_in (n := 1973) (by decide +kernel) rfl⟩
theorem yv_X12_winder : yV yX12_winder cX12_winder 3 (some .int) 2 := ⟨⟨sT_in (n := 1928) (by decide +kernel) rfl, sT_in (n := 149) (by decide +kernel) rfl, by decide +kernel, by decide⟩, sT_in (n := 1926) (by decide +kernel) rfl, sT_in (n := 1927) (by decide +kernel) rfl⟩
theorem yv_X12_wound : yV yX12_wound cX12_wound 3 (some .int) 2 := ⟨⟨sT_in (n := 2125) (by decide +kernel) rfl, sT_in (n := 149) (by decide +kernel) rfl, by decide +kernel, by decide⟩, sT_in (n := 2123) (by decide +kernel) rfl, sT_in (n := 2124) (by decide +kernel) rfl⟩
def L_law_J1856 (k18 : Int32 → sM → Option (Int32 × sM)) (v3 : Int32) (μ : sM) : Option (Int32 × sM) :=
  k18 (v3 + 6) μ
theorem L_law_J1856_ok {k18 : Int32 → sM → Option (Int32 × sM)} (hk18 : ∀ (v3 : Int32) (μ : sM), sOk 13 cL_law 4 21 true 18 [(0, vr 0 0), (1, vr 12 0), (2, vr 13 0), (3, vi v3)] [] μ (oI (k18 v3 μ))) (v3 : Int32) (μ : sM) : sOk 13 cL_law 4 21 true 1856 [(0, vr 0 0), (1, vr 12 0), (2, vr 13 0), (3, vi v3)] [] μ (oI (L_law_J1856 k18 v3 μ)) := by
  unfold L_law_J1856
  refine sBk (lo' := [(3, vi (v3 + 6)), (0, vr 0 0), (1, vr 12 0), (2, vr 13 0)]) (st' := []) (μ' := μ) (pc' := 1859) [(.iinc 3 6, 0, 0, 6, 0)] (by decide +kernel) rfl rfl ?_
  refine sGt (off := (-1841)) (tgt := 18) (by decide +kernel) (by decide) ?_
  refine sWk (lo' := [(0, vr 0 0), (1, vr 12 0), (2, vr 13 0), (3, vi (v3 + 6))]) [1, 2, 3, 0] rfl ?_
  exact hk18 (v3 + 6) μ
def L_law_J892 (k18 : Int32 → sM → Option (Int32 × sM)) (v3 : Int32) (s0 : Int32) (s1 : Int32) (s3 : Int32) (μ : sM) : Option (Int32 × sM) :=
  bI (X12_wind s1 s0 μ) fun x1 μ2 =>
    if s3 = x1 then
      L_law_J1856 k18 v3 μ2
    else
      some (0, μ2)
theorem L_law_J892_ok {k18 : Int32 → sM → Option (Int32 × sM)} (hk18 : ∀ (v3 : Int32) (μ : sM), sOk 13 cL_law 4 21 true 18 [(0, vr 0 0), (1, vr 12 0), (2, vr 13 0), (3, vi v3)] [] μ (oI (k18 v3 μ))) (v3 : Int32) (s0 : Int32) (s1 : Int32) (s3 : Int32) (μ : sM) : sOk 13 cL_law 4 21 true 892 [(0, vr 0 0), (1, vr 12 0), (2, vr 13 0), (3, vi v3)] [vi s0, vi s1, vr 13 0, vi s3] μ (oI (L_law_J892 k18 v3 s0 s1 s3 μ)) := by
  unfold L_law_J892
  refine sCvI oI rfl (ci := 12) (q := (13, 0)) (avs := [vi s1, vi s0]) (rest := [vi s3]) (tX12_wind s1 s0 μ) (by decide) (by decide +kernel) lk_13_105 yv_X12_wind rfl (by decide) rfl rfl rfl (Nat.le_of_ble_eq_true rfl) (fun x1 μ2 => ?_)
  refine sIc_eq oI (off := 961) (tgt := 1856) (by decide +kernel) (by decide) (fun _ => ?_) (fun _ => ?_)
  · exact L_law_J1856_ok hk18 v3 μ2
  · refine sBk (lo' := [(0, vr 0 0), (1, vr 12 0), (2, vr 13 0), (3, vi v3)]) (st' := [vi 0]) (μ' := μ2) (pc' := 899) [(.iconst 0, 0, 0, 0, 0)] (by decide +kernel) rfl rfl ?_
    exact sRi (by decide +kernel) (fun _ => Or.inl rfl)
def L_law_J870 (k18 : Int32 → sM → Option (Int32 × sM)) (v3 : Int32) (s0 : Int32) (s1 : Int32) (μ : sM) : Option (Int32 × sM) :=
  bI (X11_wind s1 s0 μ) fun x1 μ2 =>
    if inb (v3 + 1) (ix (rI μ2 0 1 0)) = true then
      if inb (v3 + 2) (ix (rI μ2 0 1 0)) = true then
        if (rI μ2 0 0 (ix (v3 + 2))) = 0 then
          L_law_J892 k18 v3 0 (rI μ2 0 0 (ix (v3 + 1))) x1 μ2
        else
          L_law_J892 k18 v3 1 (rI μ2 0 0 (ix (v3 + 1))) x1 μ2
      else none
    else none
theorem L_law_J870_ok {k18 : Int32 → sM → Option (Int32 × sM)} (hk18 : ∀ (v3 : Int32) (μ : sM), sOk 13 cL_law 4 21 true 18 [(0, vr 0 0), (1, vr 12 0), (2, vr 13 0), (3, vi v3)] [] μ (oI (k18 v3 μ))) (v3 : Int32) (s0 : Int32) (s1 : Int32) (μ : sM) : sOk 13 cL_law 4 21 true 870 [(0, vr 0 0), (1, vr 12 0), (2, vr 13 0), (3, vi v3)] [vi s0, vi s1, vr 12 0] μ (oI (L_law_J870 k18 v3 s0 s1 μ)) := by
  unfold L_law_J870
  refine sCvI oI rfl (ci := 11) (q := (12, 0)) (avs := [vi s1, vi s0]) (rest := []) (tX11_wind s1 s0 μ) (by decide) (by decide +kernel) lk_13_101 yv_X11_wind rfl (by decide) rfl rfl rfl (Nat.le_of_ble_eq_true rfl) (fun x1 μ2 => ?_)
  refine sBk (lo' := [(0, vr 0 0), (1, vr 12 0), (2, vr 13 0), (3, vi v3)]) (st' := [vi (v3 + 1), vr 0 0, vr 13 0, vi x1]) (μ' := μ2) (pc' := 878) [(.aload_n 2, 0, 0, 0, 0), (.aload_n 0, 0, 0, 0, 0), (.iload_n 3, 0, 0, 0, 0), (.iconst 1, 0, 0, 1, 0), (.iadd, 0, 0, 0, 0)] (by decide +kernel) rfl rfl ?_
  refine sCk oI rfl (fun h3 => ?_)
  refine sSl (by decide +kernel) h3 ?_
  refine sBk (lo' := [(0, vr 0 0), (1, vr 12 0), (2, vr 13 0), (3, vi v3)]) (st' := [vi (v3 + 2), vr 0 0, vi (rI μ2 0 0 (ix (v3 + 1))), vr 13 0, vi x1]) (μ' := μ2) (pc' := 883) [(.aload_n 0, 0, 0, 0, 0), (.iload_n 3, 0, 0, 0, 0), (.iconst 2, 0, 0, 2, 0), (.iadd, 0, 0, 0, 0)] (by decide +kernel) rfl rfl ?_
  refine sCk oI rfl (fun h4 => ?_)
  refine sSl (by decide +kernel) h4 ?_
  refine sIf_eq oI (off := 7) (tgt := 891) (by decide +kernel) (by decide) (fun _ => ?_) (fun _ => ?_)
  · refine sBk (lo' := [(0, vr 0 0), (1, vr 12 0), (2, vr 13 0), (3, vi v3)]) (st' := [vi 0, vi (rI μ2 0 0 (ix (v3 + 1))), vr 13 0, vi x1]) (μ' := μ2) (pc' := 892) [(.iconst 0, 0, 0, 0, 0)] (by decide +kernel) rfl rfl ?_
    exact L_law_J892_ok hk18 v3 0 (rI μ2 0 0 (ix (v3 + 1))) x1 μ2
  · refine sBk (lo' := [(0, vr 0 0), (1, vr 12 0), (2, vr 13 0), (3, vi v3)]) (st' := [vi 1, vi (rI μ2 0 0 (ix (v3 + 1))), vr 13 0, vi x1]) (μ' := μ2) (pc' := 888) [(.iconst 1, 0, 0, 1, 0)] (by decide +kernel) rfl rfl ?_
    refine sGt (off := 4) (tgt := 892) (by decide +kernel) (by decide) ?_
    exact L_law_J892_ok hk18 v3 1 (rI μ2 0 0 (ix (v3 + 1))) x1 μ2
def L_law_J977 (k18 : Int32 → sM → Option (Int32 × sM)) (v3 : Int32) (s0 : Int32) (s2 : Int32) (μ : sM) : Option (Int32 × sM) :=
  bI (X12_rain s0 μ) fun x1 μ2 =>
    if s2 = x1 then
      L_law_J1856 k18 v3 μ2
    else
      some (0, μ2)
theorem L_law_J977_ok {k18 : Int32 → sM → Option (Int32 × sM)} (hk18 : ∀ (v3 : Int32) (μ : sM), sOk 13 cL_law 4 21 true 18 [(0, vr 0 0), (1, vr 12 0), (2, vr 13 0), (3, vi v3)] [] μ (oI (k18 v3 μ))) (v3 : Int32) (s0 : Int32) (s2 : Int32) (μ : sM) : sOk 13 cL_law 4 21 true 977 [(0, vr 0 0), (1, vr 12 0), (2, vr 13 0), (3, vi v3)] [vi s0, vr 13 0, vi s2] μ (oI (L_law_J977 k18 v3 s0 s2 μ)) := by
  unfold L_law_J977
  refine sCvI oI rfl (ci := 12) (q := (13, 0)) (avs := [vi s0]) (rest := [vi s2]) (tX12_rain s0 μ) (by decide) (by decide +kernel) lk_13_118 yv_X12_rain rfl (by decide) rfl rfl rfl (Nat.le_of_ble_eq_true rfl) (fun x1 μ2 => ?_)
  refine sIc_eq oI (off := 876) (tgt := 1856) (by decide +kernel) (by decide) (fun _ => ?_) (fun _ => ?_)
  · exact L_law_J1856_ok hk18 v3 μ2
  · refine sBk (lo' := [(0, vr 0 0), (1, vr 12 0), (2, vr 13 0), (3, vi v3)]) (st' := [vi 0]) (μ' := μ2) (pc' := 984) [(.iconst 0, 0, 0, 0, 0)] (by decide +kernel) rfl rfl ?_
    exact sRi (by decide +kernel) (fun _ => Or.inl rfl)
def L_law_J960 (k18 : Int32 → sM → Option (Int32 × sM)) (v3 : Int32) (s0 : Int32) (μ : sM) : Option (Int32 × sM) :=
  bI (X11_rain s0 μ) fun x1 μ2 =>
    if inb (v3 + 1) (ix (rI μ2 0 1 0)) = true then
      if (rI μ2 0 0 (ix (v3 + 1))) = 0 then
        L_law_J977 k18 v3 0 x1 μ2
      else
        L_law_J977 k18 v3 1 x1 μ2
    else none
theorem L_law_J960_ok {k18 : Int32 → sM → Option (Int32 × sM)} (hk18 : ∀ (v3 : Int32) (μ : sM), sOk 13 cL_law 4 21 true 18 [(0, vr 0 0), (1, vr 12 0), (2, vr 13 0), (3, vi v3)] [] μ (oI (k18 v3 μ))) (v3 : Int32) (s0 : Int32) (μ : sM) : sOk 13 cL_law 4 21 true 960 [(0, vr 0 0), (1, vr 12 0), (2, vr 13 0), (3, vi v3)] [vi s0, vr 12 0] μ (oI (L_law_J960 k18 v3 s0 μ)) := by
  unfold L_law_J960
  refine sCvI oI rfl (ci := 11) (q := (12, 0)) (avs := [vi s0]) (rest := []) (tX11_rain s0 μ) (by decide) (by decide +kernel) lk_13_114 yv_X11_rain rfl (by decide) rfl rfl rfl (Nat.le_of_ble_eq_true rfl) (fun x1 μ2 => ?_)
  refine sBk (lo' := [(0, vr 0 0), (1, vr 12 0), (2, vr 13 0), (3, vi v3)]) (st' := [vi (v3 + 1), vr 0 0, vr 13 0, vi x1]) (μ' := μ2) (pc' := 968) [(.aload_n 2, 0, 0, 0, 0), (.aload_n 0, 0, 0, 0, 0), (.iload_n 3, 0, 0, 0, 0), (.iconst 1, 0, 0, 1, 0), (.iadd, 0, 0, 0, 0)] (by decide +kernel) rfl rfl ?_
  refine sCk oI rfl (fun h3 => ?_)
  refine sSl (by decide +kernel) h3 ?_
  refine sIf_eq oI (off := 7) (tgt := 976) (by decide +kernel) (by decide) (fun _ => ?_) (fun _ => ?_)
  · refine sBk (lo' := [(0, vr 0 0), (1, vr 12 0), (2, vr 13 0), (3, vi v3)]) (st' := [vi 0, vr 13 0, vi x1]) (μ' := μ2) (pc' := 977) [(.iconst 0, 0, 0, 0, 0)] (by decide +kernel) rfl rfl ?_
    exact L_law_J977_ok hk18 v3 0 x1 μ2
  · refine sBk (lo' := [(0, vr 0 0), (1, vr 12 0), (2, vr 13 0), (3, vi v3)]) (st' := [vi 1, vr 13 0, vi x1]) (μ' := μ2) (pc' := 973) [(.iconst 1, 0, 0, 1, 0)] (by decide +kernel) rfl rfl ?_
    refine sGt (off := 4) (tgt := 977) (by decide +kernel) (by decide) ?_
    exact L_law_J977_ok hk18 v3 1 x1 μ2
def L_law_L18 : Nat → Int32 → sM → Option (Int32 × sM)
  | 0, _, _ => none
  | n + 1, v3, μ =>
    if ((rI μ 0 1 0) - 6) < v3 then
      some (1, μ)
    else
      if inb v3 (ix (rI μ 0 1 0)) = true then
        if ((rI μ 0 0 (ix v3)) &&& 63) = 0 then
          bI (X11_status μ) fun x2 μ3 =>
            bI (X12_status μ3) fun x4 μ5 =>
              if x2 = x4 then
                L_law_J1856 (L_law_L18 n) v3 μ5
              else
                some (0, μ5)
        else if ((rI μ 0 0 (ix v3)) &&& 63) = 1 then
          bL (X11_top μ) fun x6 μ7 =>
            bL (X12_top μ7) fun x8 μ9 =>
              if (lg_cmp x6 x8) = 0 then
                L_law_J1856 (L_law_L18 n) v3 μ9
              else
                some (0, μ9)
        else if ((rI μ 0 0 (ix v3)) &&& 63) = 2 then
          bL (X11_bottom μ) fun x10 μ11 =>
            bL (X12_bottom μ11) fun x12 μ13 =>
              if (lg_cmp x10 x12) = 0 then
                L_law_J1856 (L_law_L18 n) v3 μ13
              else
                some (0, μ13)
        else if ((rI μ 0 0 (ix v3)) &&& 63) = 3 then
          if inb (v3 + 1) (ix (rI μ 0 1 0)) = true then
            if inb (v3 + 2) (ix (rI μ 0 1 0)) = true then
              if inb (v3 + 3) (ix (rI μ 0 1 0)) = true then
                bI (X11_tray (rI μ 0 0 (ix (v3 + 1))) (rI μ 0 0 (ix (v3 + 2))) (rI μ 0 0 (ix (v3 + 3))) μ) fun x17 μ18 =>
                  if inb (v3 + 1) (ix (rI μ18 0 1 0)) = true then
                    if inb (v3 + 2) (ix (rI μ18 0 1 0)) = true then
                      if inb (v3 + 3) (ix (rI μ18 0 1 0)) = true then
                        bI (X12_tray (rI μ18 0 0 (ix (v3 + 1))) (rI μ18 0 0 (ix (v3 + 2))) (rI μ18 0 0 (ix (v3 + 3))) μ18) fun x22 μ23 =>
                          if x17 = x22 then
                            L_law_J1856 (L_law_L18 n) v3 μ23
                          else
                            some (0, μ23)
                      else none
                    else none
                  else none
              else none
            else none
          else none
        else if ((rI μ 0 0 (ix v3)) &&& 63) = 4 then
          if inb (v3 + 1) (ix (rI μ 0 1 0)) = true then
            if inb (v3 + 2) (ix (rI μ 0 1 0)) = true then
              if inb (v3 + 3) (ix (rI μ 0 1 0)) = true then
                if inb (v3 + 4) (ix (rI μ 0 1 0)) = true then
                  bI (X11_write (rI μ 0 0 (ix (v3 + 1))) (rI μ 0 0 (ix (v3 + 2))) ((lsl (Int32.toInt64 (rI μ 0 0 (ix (v3 + 3)))) 32) ||| ((Int32.toInt64 (rI μ 0 0 (ix (v3 + 4)))) &&& 4294967295)) μ) fun x28 μ29 =>
                    if inb (v3 + 1) (ix (rI μ29 0 1 0)) = true then
                      if inb (v3 + 2) (ix (rI μ29 0 1 0)) = true then
                        if inb (v3 + 3) (ix (rI μ29 0 1 0)) = true then
                          if inb (v3 + 4) (ix (rI μ29 0 1 0)) = true then
                            bI (X12_write (rI μ29 0 0 (ix (v3 + 1))) (rI μ29 0 0 (ix (v3 + 2))) ((lsl (Int32.toInt64 (rI μ29 0 0 (ix (v3 + 3)))) 32) ||| ((Int32.toInt64 (rI μ29 0 0 (ix (v3 + 4)))) &&& 4294967295)) μ29) fun x34 μ35 =>
                              if x28 = x34 then
                                L_law_J1856 (L_law_L18 n) v3 μ35
                              else
                                some (0, μ35)
                          else none
                        else none
                      else none
                    else none
                else none
              else none
            else none
          else none
        else if ((rI μ 0 0 (ix v3)) &&& 63) = 5 then
          if inb (v3 + 1) (ix (rI μ 0 1 0)) = true then
            if inb (v3 + 2) (ix (rI μ 0 1 0)) = true then
              bL (X11_read (rI μ 0 0 (ix (v3 + 1))) (rI μ 0 0 (ix (v3 + 2))) μ) fun x38 μ39 =>
                if inb (v3 + 1) (ix (rI μ39 0 1 0)) = true then
                  if inb (v3 + 2) (ix (rI μ39 0 1 0)) = true then
                    bL (X12_read (rI μ39 0 0 (ix (v3 + 1))) (rI μ39 0 0 (ix (v3 + 2))) μ39) fun x42 μ43 =>
                      if (lg_cmp x38 x42) = 0 then
                        L_law_J1856 (L_law_L18 n) v3 μ43
                      else
                        some (0, μ43)
                  else none
                else none
            else none
          else none
        else if ((rI μ 0 0 (ix v3)) &&& 63) = 6 then
          if inb (v3 + 1) (ix (rI μ 0 1 0)) = true then
            if inb (v3 + 2) (ix (rI μ 0 1 0)) = true then
              if inb (v3 + 3) (ix (rI μ 0 1 0)) = true then
                if inb (v3 + 4) (ix (rI μ 0 1 0)) = true then
                  if inb (v3 + 5) (ix (rI μ 0 1 0)) = true then
                    bI (X11_pour (rI μ 0 0 (ix (v3 + 1))) (rI μ 0 0 (ix (v3 + 2))) (rI μ 0 0 (ix (v3 + 3))) (rI μ 0 0 (ix (v3 + 4))) (rI μ 0 0 (ix (v3 + 5))) μ) fun x49 μ50 =>
                      if inb (v3 + 1) (ix (rI μ50 0 1 0)) = true then
                        if inb (v3 + 2) (ix (rI μ50 0 1 0)) = true then
                          if inb (v3 + 3) (ix (rI μ50 0 1 0)) = true then
                            if inb (v3 + 4) (ix (rI μ50 0 1 0)) = true then
                              if inb (v3 + 5) (ix (rI μ50 0 1 0)) = true then
                                bI (X12_pour (rI μ50 0 0 (ix (v3 + 1))) (rI μ50 0 0 (ix (v3 + 2))) (rI μ50 0 0 (ix (v3 + 3))) (rI μ50 0 0 (ix (v3 + 4))) (rI μ50 0 0 (ix (v3 + 5))) μ50) fun x56 μ57 =>
                                  if x49 = x56 then
                                    L_law_J1856 (L_law_L18 n) v3 μ57
                                  else
                                    some (0, μ57)
                              else none
                            else none
                          else none
                        else none
                      else none
                  else none
                else none
              else none
            else none
          else none
        else if ((rI μ 0 0 (ix v3)) &&& 63) = 7 then
          if inb (v3 + 1) (ix (rI μ 0 1 0)) = true then
            if inb (v3 + 2) (ix (rI μ 0 1 0)) = true then
              if inb (v3 + 3) (ix (rI μ 0 1 0)) = true then
                if inb (v3 + 4) (ix (rI μ 0 1 0)) = true then
                  if inb (v3 + 5) (ix (rI μ 0 1 0)) = true then
                    bI (X11_feed (rI μ 0 0 (ix (v3 + 1))) (rI μ 0 0 (ix (v3 + 2))) (rI μ 0 0 (ix (v3 + 3))) (rI μ 0 0 (ix (v3 + 4))) (rI μ 0 0 (ix (v3 + 5))) μ) fun x63 μ64 =>
                      if inb (v3 + 1) (ix (rI μ64 0 1 0)) = true then
                        if inb (v3 + 2) (ix (rI μ64 0 1 0)) = true then
                          if inb (v3 + 3) (ix (rI μ64 0 1 0)) = true then
                            if inb (v3 + 4) (ix (rI μ64 0 1 0)) = true then
                              if inb (v3 + 5) (ix (rI μ64 0 1 0)) = true then
                                bI (X12_feed (rI μ64 0 0 (ix (v3 + 1))) (rI μ64 0 0 (ix (v3 + 2))) (rI μ64 0 0 (ix (v3 + 3))) (rI μ64 0 0 (ix (v3 + 4))) (rI μ64 0 0 (ix (v3 + 5))) μ64) fun x70 μ71 =>
                                  if x63 = x70 then
                                    L_law_J1856 (L_law_L18 n) v3 μ71
                                  else
                                    some (0, μ71)
                              else none
                            else none
                          else none
                        else none
                      else none
                  else none
                else none
              else none
            else none
          else none
        else if ((rI μ 0 0 (ix v3)) &&& 63) = 8 then
          if inb (v3 + 1) (ix (rI μ 0 1 0)) = true then
            bI (X11_river (rI μ 0 0 (ix (v3 + 1))) μ) fun x73 μ74 =>
              if inb (v3 + 1) (ix (rI μ74 0 1 0)) = true then
                bI (X12_river (rI μ74 0 0 (ix (v3 + 1))) μ74) fun x76 μ77 =>
                  if x73 = x76 then
                    L_law_J1856 (L_law_L18 n) v3 μ77
                  else
                    some (0, μ77)
              else none
          else none
        else if ((rI μ 0 0 (ix v3)) &&& 63) = 9 then
          if inb (v3 + 1) (ix (rI μ 0 1 0)) = true then
            bI (X11_weeks (rI μ 0 0 (ix (v3 + 1))) μ) fun x79 μ80 =>
              if inb (v3 + 1) (ix (rI μ80 0 1 0)) = true then
                bI (X12_weeks (rI μ80 0 0 (ix (v3 + 1))) μ80) fun x82 μ83 =>
                  if x79 = x82 then
                    L_law_J1856 (L_law_L18 n) v3 μ83
                  else
                    some (0, μ83)
              else none
          else none
        else if ((rI μ 0 0 (ix v3)) &&& 63) = 10 then
          if inb (v3 + 1) (ix (rI μ 0 1 0)) = true then
            bI (X11_fault (rI μ 0 0 (ix (v3 + 1))) μ) fun x85 μ86 =>
              if inb (v3 + 1) (ix (rI μ86 0 1 0)) = true then
                bI (X12_fault (rI μ86 0 0 (ix (v3 + 1))) μ86) fun x88 μ89 =>
                  if x85 = x88 then
                    L_law_J1856 (L_law_L18 n) v3 μ89
                  else
                    some (0, μ89)
              else none
          else none
        else if ((rI μ 0 0 (ix v3)) &&& 63) = 11 then
          if inb (v3 + 1) (ix (rI μ 0 1 0)) = true then
            bI (X11_many (rI μ 0 0 (ix (v3 + 1))) μ) fun x91 μ92 =>
              if inb (v3 + 1) (ix (rI μ92 0 1 0)) = true then
                bI (X12_many (rI μ92 0 0 (ix (v3 + 1))) μ92) fun x94 μ95 =>
                  if x91 = x94 then
                    L_law_J1856 (L_law_L18 n) v3 μ95
                  else
                    some (0, μ95)
              else none
          else none
        else if ((rI μ 0 0 (ix v3)) &&& 63) = 12 then
          bI (X11_turnsLeft μ) fun x96 μ97 =>
            bI (X12_turnsLeft μ97) fun x98 μ99 =>
              if x96 = x98 then
                L_law_J1856 (L_law_L18 n) v3 μ99
              else
                some (0, μ99)
        else if ((rI μ 0 0 (ix v3)) &&& 63) = 13 then
          if inb (v3 + 1) (ix (rI μ 0 1 0)) = true then
            bL (X11_water (rI μ 0 0 (ix (v3 + 1))) μ) fun x101 μ102 =>
              if inb (v3 + 1) (ix (rI μ102 0 1 0)) = true then
                bL (X12_water (rI μ102 0 0 (ix (v3 + 1))) μ102) fun x104 μ105 =>
                  if (lg_cmp x101 x104) = 0 then
                    L_law_J1856 (L_law_L18 n) v3 μ105
                  else
                    some (0, μ105)
              else none
          else none
        else if ((rI μ 0 0 (ix v3)) &&& 63) = 14 then
          if inb (v3 + 1) (ix (rI μ 0 1 0)) = true then
            if inb (v3 + 2) (ix (rI μ 0 1 0)) = true then
              bI (X11_reach (rI μ 0 0 (ix (v3 + 1))) (rI μ 0 0 (ix (v3 + 2))) μ) fun x108 μ109 =>
                if inb (v3 + 1) (ix (rI μ109 0 1 0)) = true then
                  if inb (v3 + 2) (ix (rI μ109 0 1 0)) = true then
                    bI (X12_reach (rI μ109 0 0 (ix (v3 + 1))) (rI μ109 0 0 (ix (v3 + 2))) μ109) fun x112 μ113 =>
                      if x108 = x112 then
                        L_law_J1856 (L_law_L18 n) v3 μ113
                      else
                        some (0, μ113)
                  else none
                else none
            else none
          else none
        else if ((rI μ 0 0 (ix v3)) &&& 63) = 15 then
          if inb (v3 + 1) (ix (rI μ 0 1 0)) = true then
            if inb (v3 + 2) (ix (rI μ 0 1 0)) = true then
              bI (X11_mill (rI μ 0 0 (ix (v3 + 1))) (rI μ 0 0 (ix (v3 + 2))) μ) fun x116 μ117 =>
                if inb (v3 + 1) (ix (rI μ117 0 1 0)) = true then
                  if inb (v3 + 2) (ix (rI μ117 0 1 0)) = true then
                    bI (X12_mill (rI μ117 0 0 (ix (v3 + 1))) (rI μ117 0 0 (ix (v3 + 2))) μ117) fun x120 μ121 =>
                      if x116 = x120 then
                        L_law_J1856 (L_law_L18 n) v3 μ121
                      else
                        some (0, μ121)
                  else none
                else none
            else none
          else none
        else if ((rI μ 0 0 (ix v3)) &&& 63) = 16 then
          if inb (v3 + 1) (ix (rI μ 0 1 0)) = true then
            if inb (v3 + 2) (ix (rI μ 0 1 0)) = true then
              bI (X11_winder (rI μ 0 0 (ix (v3 + 1))) (rI μ 0 0 (ix (v3 + 2))) μ) fun x124 μ125 =>
                if inb (v3 + 1) (ix (rI μ125 0 1 0)) = true then
                  if inb (v3 + 2) (ix (rI μ125 0 1 0)) = true then
                    bI (X12_winder (rI μ125 0 0 (ix (v3 + 1))) (rI μ125 0 0 (ix (v3 + 2))) μ125) fun x128 μ129 =>
                      if x124 = x128 then
                        L_law_J1856 (L_law_L18 n) v3 μ129
                      else
                        some (0, μ129)
                  else none
                else none
            else none
          else none
        else if ((rI μ 0 0 (ix v3)) &&& 63) = 17 then
          if inb (v3 + 1) (ix (rI μ 0 1 0)) = true then
            bI (X11_copyStored (rI μ 0 0 (ix (v3 + 1))) μ) fun x131 μ132 =>
              if inb (v3 + 1) (ix (rI μ132 0 1 0)) = true then
                bI (X12_copyStored (rI μ132 0 0 (ix (v3 + 1))) μ132) fun x134 μ135 =>
                  if x131 = x134 then
                    L_law_J1856 (L_law_L18 n) v3 μ135
                  else
                    some (0, μ135)
              else none
          else none
        else if ((rI μ 0 0 (ix v3)) &&& 63) = 18 then
          if inb (v3 + 1) (ix (rI μ 0 1 0)) = true then
            bI (X11_hour (rI μ 0 0 (ix (v3 + 1))) μ) fun x137 μ138 =>
              if inb (v3 + 1) (ix (rI μ138 0 1 0)) = true then
                bI (X12_hour (rI μ138 0 0 (ix (v3 + 1))) μ138) fun x140 μ141 =>
                  if x137 = x140 then
                    L_law_J1856 (L_law_L18 n) v3 μ141
                  else
                    some (0, μ141)
              else none
          else none
        else if ((rI μ 0 0 (ix v3)) &&& 63) = 19 then
          if inb (v3 + 1) (ix (rI μ 0 1 0)) = true then
            if inb (v3 + 2) (ix (rI μ 0 1 0)) = true then
              if (rI μ 0 0 (ix (v3 + 2))) = 0 then
                L_law_J870 (L_law_L18 n) v3 0 (rI μ 0 0 (ix (v3 + 1))) μ
              else
                L_law_J870 (L_law_L18 n) v3 1 (rI μ 0 0 (ix (v3 + 1))) μ
            else none
          else none
        else if ((rI μ 0 0 (ix v3)) &&& 63) = 20 then
          bI (X11_oil μ) fun x144 μ145 =>
            bI (X12_oil μ145) fun x146 μ147 =>
              if x144 = x146 then
                L_law_J1856 (L_law_L18 n) v3 μ147
              else
                some (0, μ147)
        else if ((rI μ 0 0 (ix v3)) &&& 63) = 21 then
          if inb (v3 + 1) (ix (rI μ 0 1 0)) = true then
            if inb (v3 + 2) (ix (rI μ 0 1 0)) = true then
              bI (X11_gate (rI μ 0 0 (ix (v3 + 1))) (rI μ 0 0 (ix (v3 + 2))) μ) fun x150 μ151 =>
                if inb (v3 + 1) (ix (rI μ151 0 1 0)) = true then
                  if inb (v3 + 2) (ix (rI μ151 0 1 0)) = true then
                    bI (X12_gate (rI μ151 0 0 (ix (v3 + 1))) (rI μ151 0 0 (ix (v3 + 2))) μ151) fun x154 μ155 =>
                      if x150 = x154 then
                        L_law_J1856 (L_law_L18 n) v3 μ155
                      else
                        some (0, μ155)
                  else none
                else none
            else none
          else none
        else if ((rI μ 0 0 (ix v3)) &&& 63) = 22 then
          if inb (v3 + 1) (ix (rI μ 0 1 0)) = true then
            if (rI μ 0 0 (ix (v3 + 1))) = 0 then
              L_law_J960 (L_law_L18 n) v3 0 μ
            else
              L_law_J960 (L_law_L18 n) v3 1 μ
          else none
        else if ((rI μ 0 0 (ix v3)) &&& 63) = 23 then
          if inb (v3 + 1) (ix (rI μ 0 1 0)) = true then
            if inb (v3 + 2) (ix (rI μ 0 1 0)) = true then
              bI (X11_bring (rI μ 0 0 (ix (v3 + 1))) (rI μ 0 0 (ix (v3 + 2))) μ) fun x159 μ160 =>
                if inb (v3 + 1) (ix (rI μ160 0 1 0)) = true then
                  if inb (v3 + 2) (ix (rI μ160 0 1 0)) = true then
                    bI (X12_bring (rI μ160 0 0 (ix (v3 + 1))) (rI μ160 0 0 (ix (v3 + 2))) μ160) fun x163 μ164 =>
                      if x159 = x163 then
                        L_law_J1856 (L_law_L18 n) v3 μ164
                      else
                        some (0, μ164)
                  else none
                else none
            else none
          else none
        else if ((rI μ 0 0 (ix v3)) &&& 63) = 24 then
          if inb (v3 + 1) (ix (rI μ 0 1 0)) = true then
            if inb (v3 + 2) (ix (rI μ 0 1 0)) = true then
              bI (X11_rule (rI μ 0 0 (ix (v3 + 1))) (rI μ 0 0 (ix (v3 + 2))) μ) fun x167 μ168 =>
                if inb (v3 + 1) (ix (rI μ168 0 1 0)) = true then
                  if inb (v3 + 2) (ix (rI μ168 0 1 0)) = true then
                    bI (X12_rule (rI μ168 0 0 (ix (v3 + 1))) (rI μ168 0 0 (ix (v3 + 2))) μ168) fun x171 μ172 =>
                      if x167 = x171 then
                        L_law_J1856 (L_law_L18 n) v3 μ172
                      else
                        some (0, μ172)
                  else none
                else none
            else none
          else none
        else if ((rI μ 0 0 (ix v3)) &&& 63) = 25 then
          if inb (v3 + 1) (ix (rI μ 0 1 0)) = true then
            if inb (v3 + 2) (ix (rI μ 0 1 0)) = true then
              bI (X11_build (rI μ 0 0 (ix (v3 + 1))) (rI μ 0 0 (ix (v3 + 2))) μ) fun x175 μ176 =>
                if inb (v3 + 1) (ix (rI μ176 0 1 0)) = true then
                  if inb (v3 + 2) (ix (rI μ176 0 1 0)) = true then
                    bI (X12_build (rI μ176 0 0 (ix (v3 + 1))) (rI μ176 0 0 (ix (v3 + 2))) μ176) fun x179 μ180 =>
                      if x175 = x179 then
                        L_law_J1856 (L_law_L18 n) v3 μ180
                      else
                        some (0, μ180)
                  else none
                else none
            else none
          else none
        else if ((rI μ 0 0 (ix v3)) &&& 63) = 26 then
          if inb (v3 + 1) (ix (rI μ 0 1 0)) = true then
            if inb (v3 + 2) (ix (rI μ 0 1 0)) = true then
              bI (X11_train (rI μ 0 0 (ix (v3 + 1))) (rI μ 0 0 (ix (v3 + 2))) μ) fun x183 μ184 =>
                if inb (v3 + 1) (ix (rI μ184 0 1 0)) = true then
                  if inb (v3 + 2) (ix (rI μ184 0 1 0)) = true then
                    bI (X12_train (rI μ184 0 0 (ix (v3 + 1))) (rI μ184 0 0 (ix (v3 + 2))) μ184) fun x187 μ188 =>
                      if x183 = x187 then
                        L_law_J1856 (L_law_L18 n) v3 μ188
                      else
                        some (0, μ188)
                  else none
                else none
            else none
          else none
        else if ((rI μ 0 0 (ix v3)) &&& 63) = 27 then
          if inb (v3 + 1) (ix (rI μ 0 1 0)) = true then
            bI (X11_turnsIn (rI μ 0 0 (ix (v3 + 1))) μ) fun x190 μ191 =>
              if inb (v3 + 1) (ix (rI μ191 0 1 0)) = true then
                bI (X12_turnsIn (rI μ191 0 0 (ix (v3 + 1))) μ191) fun x193 μ194 =>
                  if x190 = x193 then
                    L_law_J1856 (L_law_L18 n) v3 μ194
                  else
                    some (0, μ194)
              else none
          else none
        else if ((rI μ 0 0 (ix v3)) &&& 63) = 28 then
          if inb (v3 + 1) (ix (rI μ 0 1 0)) = true then
            if inb (v3 + 2) (ix (rI μ 0 1 0)) = true then
              bI (X11_storedIn (rI μ 0 0 (ix (v3 + 1))) (rI μ 0 0 (ix (v3 + 2))) μ) fun x197 μ198 =>
                if inb (v3 + 1) (ix (rI μ198 0 1 0)) = true then
                  if inb (v3 + 2) (ix (rI μ198 0 1 0)) = true then
                    bI (X12_storedIn (rI μ198 0 0 (ix (v3 + 1))) (rI μ198 0 0 (ix (v3 + 2))) μ198) fun x201 μ202 =>
                      if x197 = x201 then
                        L_law_J1856 (L_law_L18 n) v3 μ202
                      else
                        some (0, μ202)
                  else none
                else none
            else none
          else none
        else if ((rI μ 0 0 (ix v3)) &&& 63) = 29 then
          if inb (v3 + 1) (ix (rI μ 0 1 0)) = true then
            if inb (v3 + 2) (ix (rI μ 0 1 0)) = true then
              bI (X11_groundIn (rI μ 0 0 (ix (v3 + 1))) (rI μ 0 0 (ix (v3 + 2))) μ) fun x205 μ206 =>
                if inb (v3 + 1) (ix (rI μ206 0 1 0)) = true then
                  if inb (v3 + 2) (ix (rI μ206 0 1 0)) = true then
                    bI (X12_groundIn (rI μ206 0 0 (ix (v3 + 1))) (rI μ206 0 0 (ix (v3 + 2))) μ206) fun x209 μ210 =>
                      if x205 = x209 then
                        L_law_J1856 (L_law_L18 n) v3 μ210
                      else
                        some (0, μ210)
                  else none
                else none
            else none
          else none
        else if ((rI μ 0 0 (ix v3)) &&& 63) = 30 then
          if inb (v3 + 1) (ix (rI μ 0 1 0)) = true then
            bL (X11_seaIn (rI μ 0 0 (ix (v3 + 1))) μ) fun x212 μ213 =>
              if inb (v3 + 1) (ix (rI μ213 0 1 0)) = true then
                bL (X12_seaIn (rI μ213 0 0 (ix (v3 + 1))) μ213) fun x215 μ216 =>
                  if (lg_cmp x212 x215) = 0 then
                    L_law_J1856 (L_law_L18 n) v3 μ216
                  else
                    some (0, μ216)
              else none
          else none
        else if ((rI μ 0 0 (ix v3)) &&& 63) = 31 then
          if inb (v3 + 1) (ix (rI μ 0 1 0)) = true then
            bI (X11_dryIn (rI μ 0 0 (ix (v3 + 1))) μ) fun x218 μ219 =>
              if inb (v3 + 1) (ix (rI μ219 0 1 0)) = true then
                bI (X12_dryIn (rI μ219 0 0 (ix (v3 + 1))) μ219) fun x221 μ222 =>
                  if x218 = x221 then
                    L_law_J1856 (L_law_L18 n) v3 μ222
                  else
                    some (0, μ222)
              else none
          else none
        else if ((rI μ 0 0 (ix v3)) &&& 63) = 32 then
          if inb (v3 + 1) (ix (rI μ 0 1 0)) = true then
            bI (X11_floodIn (rI μ 0 0 (ix (v3 + 1))) μ) fun x224 μ225 =>
              if inb (v3 + 1) (ix (rI μ225 0 1 0)) = true then
                bI (X12_floodIn (rI μ225 0 0 (ix (v3 + 1))) μ225) fun x227 μ228 =>
                  if x224 = x227 then
                    L_law_J1856 (L_law_L18 n) v3 μ228
                  else
                    some (0, μ228)
              else none
          else none
        else if ((rI μ 0 0 (ix v3)) &&& 63) = 33 then
          bI (X11_stillIn μ) fun x229 μ230 =>
            bI (X12_stillIn μ230) fun x231 μ232 =>
              if x229 = x231 then
                L_law_J1856 (L_law_L18 n) v3 μ232
              else
                some (0, μ232)
        else if ((rI μ 0 0 (ix v3)) &&& 63) = 34 then
          bI (X11_lawIn μ) fun x233 μ234 =>
            bI (X12_lawIn μ234) fun x235 μ236 =>
              if x233 = x235 then
                L_law_J1856 (L_law_L18 n) v3 μ236
              else
                some (0, μ236)
        else if ((rI μ 0 0 (ix v3)) &&& 63) = 35 then
          if inb (v3 + 1) (ix (rI μ 0 1 0)) = true then
            if inb (v3 + 2) (ix (rI μ 0 1 0)) = true then
              if inb (v3 + 3) (ix (rI μ 0 1 0)) = true then
                bI (X11_enough (rI μ 0 0 (ix (v3 + 1))) (rI μ 0 0 (ix (v3 + 2))) (rI μ 0 0 (ix (v3 + 3))) μ) fun x240 μ241 =>
                  if inb (v3 + 1) (ix (rI μ241 0 1 0)) = true then
                    if inb (v3 + 2) (ix (rI μ241 0 1 0)) = true then
                      if inb (v3 + 3) (ix (rI μ241 0 1 0)) = true then
                        bI (X12_enough (rI μ241 0 0 (ix (v3 + 1))) (rI μ241 0 0 (ix (v3 + 2))) (rI μ241 0 0 (ix (v3 + 3))) μ241) fun x245 μ246 =>
                          if x240 = x245 then
                            L_law_J1856 (L_law_L18 n) v3 μ246
                          else
                            some (0, μ246)
                      else none
                    else none
                  else none
              else none
            else none
          else none
        else if ((rI μ 0 0 (ix v3)) &&& 63) = 36 then
          if inb (v3 + 1) (ix (rI μ 0 1 0)) = true then
            if inb (v3 + 2) (ix (rI μ 0 1 0)) = true then
              bI (X11_bestGate (rI μ 0 0 (ix (v3 + 1))) (rI μ 0 0 (ix (v3 + 2))) μ) fun x249 μ250 =>
                if inb (v3 + 1) (ix (rI μ250 0 1 0)) = true then
                  if inb (v3 + 2) (ix (rI μ250 0 1 0)) = true then
                    bI (X12_bestGate (rI μ250 0 0 (ix (v3 + 1))) (rI μ250 0 0 (ix (v3 + 2))) μ250) fun x253 μ254 =>
                      if x249 = x253 then
                        L_law_J1856 (L_law_L18 n) v3 μ254
                      else
                        some (0, μ254)
                  else none
                else none
            else none
          else none
        else if ((rI μ 0 0 (ix v3)) &&& 63) = 37 then
          if inb (v3 + 1) (ix (rI μ 0 1 0)) = true then
            if inb (v3 + 2) (ix (rI μ 0 1 0)) = true then
              bI (X11_bestGround (rI μ 0 0 (ix (v3 + 1))) (rI μ 0 0 (ix (v3 + 2))) μ) fun x257 μ258 =>
                if inb (v3 + 1) (ix (rI μ258 0 1 0)) = true then
                  if inb (v3 + 2) (ix (rI μ258 0 1 0)) = true then
                    bI (X12_bestGround (rI μ258 0 0 (ix (v3 + 1))) (rI μ258 0 0 (ix (v3 + 2))) μ258) fun x261 μ262 =>
                      if x257 = x261 then
                        L_law_J1856 (L_law_L18 n) v3 μ262
                      else
                        some (0, μ262)
                  else none
                else none
            else none
          else none
        else if ((rI μ 0 0 (ix v3)) &&& 63) = 38 then
          if inb (v3 + 1) (ix (rI μ 0 1 0)) = true then
            if inb (v3 + 2) (ix (rI μ 0 1 0)) = true then
              bI (X11_hire (rI μ 0 0 (ix (v3 + 1))) (rI μ 0 0 (ix (v3 + 2))) μ) fun x265 μ266 =>
                if inb (v3 + 1) (ix (rI μ266 0 1 0)) = true then
                  if inb (v3 + 2) (ix (rI μ266 0 1 0)) = true then
                    bI (X12_hire (rI μ266 0 0 (ix (v3 + 1))) (rI μ266 0 0 (ix (v3 + 2))) μ266) fun x269 μ270 =>
                      if x265 = x269 then
                        L_law_J1856 (L_law_L18 n) v3 μ270
                      else
                        some (0, μ270)
                  else none
                else none
            else none
          else none
        else if ((rI μ 0 0 (ix v3)) &&& 63) = 39 then
          if inb (v3 + 1) (ix (rI μ 0 1 0)) = true then
            if inb (v3 + 2) (ix (rI μ 0 1 0)) = true then
              if inb (v3 + 3) (ix (rI μ 0 1 0)) = true then
                bI (X11_hireAt (rI μ 0 0 (ix (v3 + 1))) (rI μ 0 0 (ix (v3 + 2))) (rI μ 0 0 (ix (v3 + 3))) μ) fun x274 μ275 =>
                  if inb (v3 + 1) (ix (rI μ275 0 1 0)) = true then
                    if inb (v3 + 2) (ix (rI μ275 0 1 0)) = true then
                      if inb (v3 + 3) (ix (rI μ275 0 1 0)) = true then
                        bI (X12_hireAt (rI μ275 0 0 (ix (v3 + 1))) (rI μ275 0 0 (ix (v3 + 2))) (rI μ275 0 0 (ix (v3 + 3))) μ275) fun x279 μ280 =>
                          if x274 = x279 then
                            L_law_J1856 (L_law_L18 n) v3 μ280
                          else
                            some (0, μ280)
                      else none
                    else none
                  else none
              else none
            else none
          else none
        else if ((rI μ 0 0 (ix v3)) &&& 63) = 40 then
          if inb (v3 + 1) (ix (rI μ 0 1 0)) = true then
            if inb (v3 + 2) (ix (rI μ 0 1 0)) = true then
              bI (X11_wound (rI μ 0 0 (ix (v3 + 1))) (rI μ 0 0 (ix (v3 + 2))) μ) fun x283 μ284 =>
                if inb (v3 + 1) (ix (rI μ284 0 1 0)) = true then
                  if inb (v3 + 2) (ix (rI μ284 0 1 0)) = true then
                    bI (X12_wound (rI μ284 0 0 (ix (v3 + 1))) (rI μ284 0 0 (ix (v3 + 2))) μ284) fun x287 μ288 =>
                      if x283 = x287 then
                        L_law_J1856 (L_law_L18 n) v3 μ288
                      else
                        some (0, μ288)
                  else none
                else none
            else none
          else none
        else if ((rI μ 0 0 (ix v3)) &&& 63) = 41 then
          if inb (v3 + 1) (ix (rI μ 0 1 0)) = true then
            if inb (v3 + 2) (ix (rI μ 0 1 0)) = true then
              bI (X11_sure (rI μ 0 0 (ix (v3 + 1))) (rI μ 0 0 (ix (v3 + 2))) μ) fun x291 μ292 =>
                if inb (v3 + 1) (ix (rI μ292 0 1 0)) = true then
                  if inb (v3 + 2) (ix (rI μ292 0 1 0)) = true then
                    bI (X12_sure (rI μ292 0 0 (ix (v3 + 1))) (rI μ292 0 0 (ix (v3 + 2))) μ292) fun x295 μ296 =>
                      if x291 = x295 then
                        L_law_J1856 (L_law_L18 n) v3 μ296
                      else
                        some (0, μ296)
                  else none
                else none
            else none
          else none
        else if ((rI μ 0 0 (ix v3)) &&& 63) = 42 then
          if inb (v3 + 1) (ix (rI μ 0 1 0)) = true then
            if inb (v3 + 2) (ix (rI μ 0 1 0)) = true then
              bI (X11_cheapest (rI μ 0 0 (ix (v3 + 1))) (rI μ 0 0 (ix (v3 + 2))) μ) fun x299 μ300 =>
                if inb (v3 + 1) (ix (rI μ300 0 1 0)) = true then
                  if inb (v3 + 2) (ix (rI μ300 0 1 0)) = true then
                    bI (X12_cheapest (rI μ300 0 0 (ix (v3 + 1))) (rI μ300 0 0 (ix (v3 + 2))) μ300) fun x303 μ304 =>
                      if x299 = x303 then
                        L_law_J1856 (L_law_L18 n) v3 μ304
                      else
                        some (0, μ304)
                  else none
                else none
            else none
          else none
        else if ((rI μ 0 0 (ix v3)) &&& 63) = 43 then
          if inb (v3 + 1) (ix (rI μ 0 1 0)) = true then
            if inb (v3 + 2) (ix (rI μ 0 1 0)) = true then
              if inb (v3 + 3) (ix (rI μ 0 1 0)) = true then
                bI (X11_game (rI μ 0 0 (ix (v3 + 1))) (rI μ 0 0 (ix (v3 + 2))) (rI μ 0 0 (ix (v3 + 3))) μ) fun x308 μ309 =>
                  if inb (v3 + 1) (ix (rI μ309 0 1 0)) = true then
                    if inb (v3 + 2) (ix (rI μ309 0 1 0)) = true then
                      if inb (v3 + 3) (ix (rI μ309 0 1 0)) = true then
                        bI (X12_game (rI μ309 0 0 (ix (v3 + 1))) (rI μ309 0 0 (ix (v3 + 2))) (rI μ309 0 0 (ix (v3 + 3))) μ309) fun x313 μ314 =>
                          if x308 = x313 then
                            L_law_J1856 (L_law_L18 n) v3 μ314
                          else
                            some (0, μ314)
                      else none
                    else none
                  else none
              else none
            else none
          else none
        else if ((rI μ 0 0 (ix v3)) &&& 63) = 44 then
          if inb (v3 + 1) (ix (rI μ 0 1 0)) = true then
            if inb (v3 + 2) (ix (rI μ 0 1 0)) = true then
              if inb (v3 + 3) (ix (rI μ 0 1 0)) = true then
                bI (X11_moveOf (rI μ 0 0 (ix (v3 + 1))) (rI μ 0 0 (ix (v3 + 2))) (rI μ 0 0 (ix (v3 + 3))) μ) fun x318 μ319 =>
                  if inb (v3 + 1) (ix (rI μ319 0 1 0)) = true then
                    if inb (v3 + 2) (ix (rI μ319 0 1 0)) = true then
                      if inb (v3 + 3) (ix (rI μ319 0 1 0)) = true then
                        bI (X12_moveOf (rI μ319 0 0 (ix (v3 + 1))) (rI μ319 0 0 (ix (v3 + 2))) (rI μ319 0 0 (ix (v3 + 3))) μ319) fun x323 μ324 =>
                          if x318 = x323 then
                            L_law_J1856 (L_law_L18 n) v3 μ324
                          else
                            some (0, μ324)
                      else none
                    else none
                  else none
              else none
            else none
          else none
        else if ((rI μ 0 0 (ix v3)) &&& 63) = 45 then
          if inb (v3 + 1) (ix (rI μ 0 1 0)) = true then
            bI (X11_share (rI μ 0 0 (ix (v3 + 1))) μ) fun x326 μ327 =>
              if inb (v3 + 1) (ix (rI μ327 0 1 0)) = true then
                bI (X12_share (rI μ327 0 0 (ix (v3 + 1))) μ327) fun x329 μ330 =>
                  if x326 = x329 then
                    L_law_J1856 (L_law_L18 n) v3 μ330
                  else
                    some (0, μ330)
              else none
          else none
        else if ((rI μ 0 0 (ix v3)) &&& 63) = 46 then
          if inb (v3 + 1) (ix (rI μ 0 1 0)) = true then
            bI (X11_price (rI μ 0 0 (ix (v3 + 1))) μ) fun x332 μ333 =>
              if inb (v3 + 1) (ix (rI μ333 0 1 0)) = true then
                bI (X12_price (rI μ333 0 0 (ix (v3 + 1))) μ333) fun x335 μ336 =>
                  if x332 = x335 then
                    L_law_J1856 (L_law_L18 n) v3 μ336
                  else
                    some (0, μ336)
              else none
          else none
        else if ((rI μ 0 0 (ix v3)) &&& 63) = 47 then
          if inb (v3 + 1) (ix (rI μ 0 1 0)) = true then
            if inb (v3 + 2) (ix (rI μ 0 1 0)) = true then
              bI (X11_wet (rI μ 0 0 (ix (v3 + 1))) (rI μ 0 0 (ix (v3 + 2))) μ) fun x339 μ340 =>
                if inb (v3 + 1) (ix (rI μ340 0 1 0)) = true then
                  if inb (v3 + 2) (ix (rI μ340 0 1 0)) = true then
                    bI (X12_wet (rI μ340 0 0 (ix (v3 + 1))) (rI μ340 0 0 (ix (v3 + 2))) μ340) fun x343 μ344 =>
                      if x339 = x343 then
                        L_law_J1856 (L_law_L18 n) v3 μ344
                      else
                        some (0, μ344)
                  else none
                else none
            else none
          else none
        else if ((rI μ 0 0 (ix v3)) &&& 63) = 48 then
          if inb (v3 + 1) (ix (rI μ 0 1 0)) = true then
            bI (X11_live (rI μ 0 0 (ix (v3 + 1))) μ) fun x346 μ347 =>
              if inb (v3 + 1) (ix (rI μ347 0 1 0)) = true then
                bI (X12_live (rI μ347 0 0 (ix (v3 + 1))) μ347) fun x349 μ350 =>
                  if x346 = x349 then
                    L_law_J1856 (L_law_L18 n) v3 μ350
                  else
                    some (0, μ350)
              else none
          else none
        else if ((rI μ 0 0 (ix v3)) &&& 63) = 49 then
          if inb (v3 + 1) (ix (rI μ 0 1 0)) = true then
            bI (X11_lived (rI μ 0 0 (ix (v3 + 1))) μ) fun x352 μ353 =>
              if inb (v3 + 1) (ix (rI μ353 0 1 0)) = true then
                bI (X12_lived (rI μ353 0 0 (ix (v3 + 1))) μ353) fun x355 μ356 =>
                  if x352 = x355 then
                    L_law_J1856 (L_law_L18 n) v3 μ356
                  else
                    some (0, μ356)
              else none
          else none
        else if ((rI μ 0 0 (ix v3)) &&& 63) = 50 then
          if inb (v3 + 1) (ix (rI μ 0 1 0)) = true then
            if inb (v3 + 2) (ix (rI μ 0 1 0)) = true then
              bI (X11_mean (rI μ 0 0 (ix (v3 + 1))) (rI μ 0 0 (ix (v3 + 2))) μ) fun x359 μ360 =>
                if inb (v3 + 1) (ix (rI μ360 0 1 0)) = true then
                  if inb (v3 + 2) (ix (rI μ360 0 1 0)) = true then
                    bI (X12_mean (rI μ360 0 0 (ix (v3 + 1))) (rI μ360 0 0 (ix (v3 + 2))) μ360) fun x363 μ364 =>
                      if x359 = x363 then
                        L_law_J1856 (L_law_L18 n) v3 μ364
                      else
                        some (0, μ364)
                  else none
                else none
            else none
          else none
        else if ((rI μ 0 0 (ix v3)) &&& 63) = 51 then
          bI (X11_mark μ) fun x365 μ366 =>
            bI (X12_mark μ366) fun x367 μ368 =>
              if x365 = x367 then
                L_law_J1856 (L_law_L18 n) v3 μ368
              else
                some (0, μ368)
        else if ((rI μ 0 0 (ix v3)) &&& 63) = 52 then
          bI (X11_back μ) fun x369 μ370 =>
            bI (X12_back μ370) fun x371 μ372 =>
              if x369 = x371 then
                L_law_J1856 (L_law_L18 n) v3 μ372
              else
                some (0, μ372)
        else
          L_law_J1856 (L_law_L18 n) v3 μ
      else none
set_option maxHeartbeats 2000000 in
theorem L_law_L18_ok : ∀ (n : Nat) (v3 : Int32) (μ : sM), sOk 13 cL_law 4 21 true 18 [(0, vr 0 0), (1, vr 12 0), (2, vr 13 0), (3, vi v3)] [] μ (oI (L_law_L18 n v3 μ)) := by
  intro n
  induction n with
  | zero =>
    intros
    exact sNo
  | succ n ih =>
    intro v3 μ
    unfold L_law_L18
    refine sBk (lo' := [(0, vr 0 0), (1, vr 12 0), (2, vr 13 0), (3, vi v3)]) (st' := [vr 0 0, vi v3]) (μ' := μ) (pc' := 20) [(.iload_n 3, 0, 0, 0, 0), (.aload_n 0, 0, 0, 0, 0)] (by decide +kernel) rfl rfl ?_
    refine sSn (by decide +kernel) ?_
    refine sBk (lo' := [(0, vr 0 0), (1, vr 12 0), (2, vr 13 0), (3, vi v3)]) (st' := [vi ((rI μ 0 1 0) - 6), vi v3]) (μ' := μ) (pc' := 24) [(.bipush 6, 0, 0, 6, 0), (.isub, 0, 0, 0, 0)] (by decide +kernel) rfl rfl ?_
    refine sIc_gt oI (off := 1838) (tgt := 1862) (by decide +kernel) (by decide) (fun _ => ?_) (fun _ => ?_)
    · refine sBk (lo' := [(0, vr 0 0), (1, vr 12 0), (2, vr 13 0), (3, vi v3)]) (st' := [vi 1]) (μ' := μ) (pc' := 1863) [(.iconst 1, 0, 0, 1, 0)] (by decide +kernel) rfl rfl ?_
      exact sRi (by decide +kernel) (fun _ => Or.inr rfl)
    · refine sBk (lo' := [(0, vr 0 0), (1, vr 12 0), (2, vr 13 0), (3, vi v3)]) (st' := [vi v3, vr 0 0]) (μ' := μ) (pc' := 29) [(.aload_n 0, 0, 0, 0, 0), (.iload_n 3, 0, 0, 0, 0)] (by decide +kernel) rfl rfl ?_
      refine sCk oI rfl (fun h1 => ?_)
      refine sSl (by decide +kernel) h1 ?_
      refine sBk (lo' := [(0, vr 0 0), (1, vr 12 0), (2, vr 13 0), (3, vi v3)]) (st' := [vi ((rI μ 0 0 (ix v3)) &&& 63)]) (μ' := μ) (pc' := 33) [(.bipush 63, 0, 0, 63, 0), (.iand, 0, 0, 0, 0)] (by decide +kernel) rfl rfl ?_
      refine sTs (ps := [(0, 260), (1, 273), (2, 287), (3, 301), (4, 344), (5, 417), (6, 451), (7, 514), (8, 577), (9, 600), (10, 623), (11, 646), (12, 669), (13, 682), (14, 706), (15, 739), (16, 772), (17, 805), (18, 828), (19, 851), (20, 900), (21, 913), (22, 946), (23, 985), (24, 1018), (25, 1051), (26, 1084), (27, 1117), (28, 1140), (29, 1173), (30, 1206), (31, 1230), (32, 1253), (33, 1276), (34, 1289), (35, 1302), (36, 1345), (37, 1378), (38, 1411), (39, 1444), (40, 1487), (41, 1520), (42, 1553), (43, 1586), (44, 1629), (45, 1672), (46, 1695), (47, 1718), (48, 1751), (49, 1774), (50, 1797), (51, 1830), (52, 1843)]) (df := 1856) (by decide +kernel) ?_
      refine sSc oI (fun _ => ?_) (fun _ => ?_)
      · refine sBk (lo' := [(0, vr 0 0), (1, vr 12 0), (2, vr 13 0), (3, vi v3)]) (st' := [vr 12 0]) (μ' := μ) (pc' := 261) [(.aload_n 1, 0, 0, 0, 0)] (by decide +kernel) rfl rfl ?_
        refine sCvI oI rfl (ci := 11) (q := (12, 0)) (avs := []) (rest := []) (tX11_status μ) (by decide) (by decide +kernel) lk_13_13 yv_X11_status rfl (by decide) rfl rfl rfl (Nat.le_of_ble_eq_true rfl) (fun x2 μ3 => ?_)
        refine sBk (lo' := [(0, vr 0 0), (1, vr 12 0), (2, vr 13 0), (3, vi v3)]) (st' := [vr 13 0, vi x2]) (μ' := μ3) (pc' := 265) [(.aload_n 2, 0, 0, 0, 0)] (by decide +kernel) rfl rfl ?_
        refine sCvI oI rfl (ci := 12) (q := (13, 0)) (avs := []) (rest := [vi x2]) (tX12_status μ3) (by decide) (by decide +kernel) lk_13_17 yv_X12_status rfl (by decide) rfl rfl rfl (Nat.le_of_ble_eq_true rfl) (fun x4 μ5 => ?_)
        refine sIc_eq oI (off := 1588) (tgt := 1856) (by decide +kernel) (by decide) (fun _ => ?_) (fun _ => ?_)
        · exact L_law_J1856_ok ih v3 μ5
        · refine sBk (lo' := [(0, vr 0 0), (1, vr 12 0), (2, vr 13 0), (3, vi v3)]) (st' := [vi 0]) (μ' := μ5) (pc' := 272) [(.iconst 0, 0, 0, 0, 0)] (by decide +kernel) rfl rfl ?_
          exact sRi (by decide +kernel) (fun _ => Or.inl rfl)
      refine sSc oI (fun _ => ?_) (fun _ => ?_)
      · refine sBk (lo' := [(0, vr 0 0), (1, vr 12 0), (2, vr 13 0), (3, vi v3)]) (st' := [vr 12 0]) (μ' := μ) (pc' := 274) [(.aload_n 1, 0, 0, 0, 0)] (by decide +kernel) rfl rfl ?_
        refine sCvL oI rfl (ci := 11) (q := (12, 0)) (avs := []) (rest := []) (tX11_top μ) (by decide) (by decide +kernel) lk_13_18 yv_X11_top rfl (by decide) rfl rfl rfl (Nat.le_of_ble_eq_true rfl) (fun x6 μ7 => ?_)
        refine sBk (lo' := [(0, vr 0 0), (1, vr 12 0), (2, vr 13 0), (3, vi v3)]) (st' := [vr 13 0, vl x6]) (μ' := μ7) (pc' := 278) [(.aload_n 2, 0, 0, 0, 0)] (by decide +kernel) rfl rfl ?_
        refine sCvL oI rfl (ci := 12) (q := (13, 0)) (avs := []) (rest := [vl x6]) (tX12_top μ7) (by decide) (by decide +kernel) lk_13_22 yv_X12_top rfl (by decide) rfl rfl rfl (Nat.le_of_ble_eq_true rfl) (fun x8 μ9 => ?_)
        refine sBk (lo' := [(0, vr 0 0), (1, vr 12 0), (2, vr 13 0), (3, vi v3)]) (st' := [vi (lg_cmp x6 x8)]) (μ' := μ9) (pc' := 282) [(.lcmp, 0, 0, 0, 0)] (by decide +kernel) rfl rfl ?_
        refine sIf_eq oI (off := 1574) (tgt := 1856) (by decide +kernel) (by decide) (fun _ => ?_) (fun _ => ?_)
        · exact L_law_J1856_ok ih v3 μ9
        · refine sBk (lo' := [(0, vr 0 0), (1, vr 12 0), (2, vr 13 0), (3, vi v3)]) (st' := [vi 0]) (μ' := μ9) (pc' := 286) [(.iconst 0, 0, 0, 0, 0)] (by decide +kernel) rfl rfl ?_
          exact sRi (by decide +kernel) (fun _ => Or.inl rfl)
      refine sSc oI (fun _ => ?_) (fun _ => ?_)
      · refine sBk (lo' := [(0, vr 0 0), (1, vr 12 0), (2, vr 13 0), (3, vi v3)]) (st' := [vr 12 0]) (μ' := μ) (pc' := 288) [(.aload_n 1, 0, 0, 0, 0)] (by decide +kernel) rfl rfl ?_
        refine sCvL oI rfl (ci := 11) (q := (12, 0)) (avs := []) (rest := []) (tX11_bottom μ) (by decide) (by decide +kernel) lk_13_23 yv_X11_bottom rfl (by decide) rfl rfl rfl (Nat.le_of_ble_eq_true rfl) (fun x10 μ11 => ?_)
        refine sBk (lo' := [(0, vr 0 0), (1, vr 12 0), (2, vr 13 0), (3, vi v3)]) (st' := [vr 13 0, vl x10]) (μ' := μ11) (pc' := 292) [(.aload_n 2, 0, 0, 0, 0)] (by decide +kernel) rfl rfl ?_
        refine sCvL oI rfl (ci := 12) (q := (13, 0)) (avs := []) (rest := [vl x10]) (tX12_bottom μ11) (by decide) (by decide +kernel) lk_13_26 yv_X12_bottom rfl (by decide) rfl rfl rfl (Nat.le_of_ble_eq_true rfl) (fun x12 μ13 => ?_)
        refine sBk (lo' := [(0, vr 0 0), (1, vr 12 0), (2, vr 13 0), (3, vi v3)]) (st' := [vi (lg_cmp x10 x12)]) (μ' := μ13) (pc' := 296) [(.lcmp, 0, 0, 0, 0)] (by decide +kernel) rfl rfl ?_
        refine sIf_eq oI (off := 1560) (tgt := 1856) (by decide +kernel) (by decide) (fun _ => ?_) (fun _ => ?_)
        · exact L_law_J1856_ok ih v3 μ13
        · refine sBk (lo' := [(0, vr 0 0), (1, vr 12 0), (2, vr 13 0), (3, vi v3)]) (st' := [vi 0]) (μ' := μ13) (pc' := 300) [(.iconst 0, 0, 0, 0, 0)] (by decide +kernel) rfl rfl ?_
          exact sRi (by decide +kernel) (fun _ => Or.inl rfl)
      refine sSc oI (fun _ => ?_) (fun _ => ?_)
      · refine sBk (lo' := [(0, vr 0 0), (1, vr 12 0), (2, vr 13 0), (3, vi v3)]) (st' := [vi (v3 + 1), vr 0 0, vr 12 0]) (μ' := μ) (pc' := 306) [(.aload_n 1, 0, 0, 0, 0), (.aload_n 0, 0, 0, 0, 0), (.iload_n 3, 0, 0, 0, 0), (.iconst 1, 0, 0, 1, 0), (.iadd, 0, 0, 0, 0)] (by decide +kernel) rfl rfl ?_
        refine sCk oI rfl (fun h14 => ?_)
        refine sSl (by decide +kernel) h14 ?_
        refine sBk (lo' := [(0, vr 0 0), (1, vr 12 0), (2, vr 13 0), (3, vi v3)]) (st' := [vi (v3 + 2), vr 0 0, vi (rI μ 0 0 (ix (v3 + 1))), vr 12 0]) (μ' := μ) (pc' := 311) [(.aload_n 0, 0, 0, 0, 0), (.iload_n 3, 0, 0, 0, 0), (.iconst 2, 0, 0, 2, 0), (.iadd, 0, 0, 0, 0)] (by decide +kernel) rfl rfl ?_
        refine sCk oI rfl (fun h15 => ?_)
        refine sSl (by decide +kernel) h15 ?_
        refine sBk (lo' := [(0, vr 0 0), (1, vr 12 0), (2, vr 13 0), (3, vi v3)]) (st' := [vi (v3 + 3), vr 0 0, vi (rI μ 0 0 (ix (v3 + 2))), vi (rI μ 0 0 (ix (v3 + 1))), vr 12 0]) (μ' := μ) (pc' := 316) [(.aload_n 0, 0, 0, 0, 0), (.iload_n 3, 0, 0, 0, 0), (.iconst 3, 0, 0, 3, 0), (.iadd, 0, 0, 0, 0)] (by decide +kernel) rfl rfl ?_
        refine sCk oI rfl (fun h16 => ?_)
        refine sSl (by decide +kernel) h16 ?_
        refine sCvI oI rfl (ci := 11) (q := (12, 0)) (avs := [vi (rI μ 0 0 (ix (v3 + 1))), vi (rI μ 0 0 (ix (v3 + 2))), vi (rI μ 0 0 (ix (v3 + 3)))]) (rest := []) (tX11_tray (rI μ 0 0 (ix (v3 + 1))) (rI μ 0 0 (ix (v3 + 2))) (rI μ 0 0 (ix (v3 + 3))) μ) (by decide) (by decide +kernel) lk_13_27 yv_X11_tray rfl (by decide) rfl rfl rfl (Nat.le_of_ble_eq_true rfl) (fun x17 μ18 => ?_)
        refine sBk (lo' := [(0, vr 0 0), (1, vr 12 0), (2, vr 13 0), (3, vi v3)]) (st' := [vi (v3 + 1), vr 0 0, vr 13 0, vi x17]) (μ' := μ18) (pc' := 325) [(.aload_n 2, 0, 0, 0, 0), (.aload_n 0, 0, 0, 0, 0), (.iload_n 3, 0, 0, 0, 0), (.iconst 1, 0, 0, 1, 0), (.iadd, 0, 0, 0, 0)] (by decide +kernel) rfl rfl ?_
        refine sCk oI rfl (fun h19 => ?_)
        refine sSl (by decide +kernel) h19 ?_
        refine sBk (lo' := [(0, vr 0 0), (1, vr 12 0), (2, vr 13 0), (3, vi v3)]) (st' := [vi (v3 + 2), vr 0 0, vi (rI μ18 0 0 (ix (v3 + 1))), vr 13 0, vi x17]) (μ' := μ18) (pc' := 330) [(.aload_n 0, 0, 0, 0, 0), (.iload_n 3, 0, 0, 0, 0), (.iconst 2, 0, 0, 2, 0), (.iadd, 0, 0, 0, 0)] (by decide +kernel) rfl rfl ?_
        refine sCk oI rfl (fun h20 => ?_)
        refine sSl (by decide +kernel) h20 ?_
        refine sBk (lo' := [(0, vr 0 0), (1, vr 12 0), (2, vr 13 0), (3, vi v3)]) (st' := [vi (v3 + 3), vr 0 0, vi (rI μ18 0 0 (ix (v3 + 2))), vi (rI μ18 0 0 (ix (v3 + 1))), vr 13 0, vi x17]) (μ' := μ18) (pc' := 335) [(.aload_n 0, 0, 0, 0, 0), (.iload_n 3, 0, 0, 0, 0), (.iconst 3, 0, 0, 3, 0), (.iadd, 0, 0, 0, 0)] (by decide +kernel) rfl rfl ?_
        refine sCk oI rfl (fun h21 => ?_)
        refine sSl (by decide +kernel) h21 ?_
        refine sCvI oI rfl (ci := 12) (q := (13, 0)) (avs := [vi (rI μ18 0 0 (ix (v3 + 1))), vi (rI μ18 0 0 (ix (v3 + 2))), vi (rI μ18 0 0 (ix (v3 + 3)))]) (rest := [vi x17]) (tX12_tray (rI μ18 0 0 (ix (v3 + 1))) (rI μ18 0 0 (ix (v3 + 2))) (rI μ18 0 0 (ix (v3 + 3))) μ18) (by decide) (by decide +kernel) lk_13_31 yv_X12_tray rfl (by decide) rfl rfl rfl (Nat.le_of_ble_eq_true rfl) (fun x22 μ23 => ?_)
        refine sIc_eq oI (off := 1517) (tgt := 1856) (by decide +kernel) (by decide) (fun _ => ?_) (fun _ => ?_)
        · exact L_law_J1856_ok ih v3 μ23
        · refine sBk (lo' := [(0, vr 0 0), (1, vr 12 0), (2, vr 13 0), (3, vi v3)]) (st' := [vi 0]) (μ' := μ23) (pc' := 343) [(.iconst 0, 0, 0, 0, 0)] (by decide +kernel) rfl rfl ?_
          exact sRi (by decide +kernel) (fun _ => Or.inl rfl)
      refine sSc oI (fun _ => ?_) (fun _ => ?_)
      · refine sBk (lo' := [(0, vr 0 0), (1, vr 12 0), (2, vr 13 0), (3, vi v3)]) (st' := [vi (v3 + 1), vr 0 0, vr 12 0]) (μ' := μ) (pc' := 349) [(.aload_n 1, 0, 0, 0, 0), (.aload_n 0, 0, 0, 0, 0), (.iload_n 3, 0, 0, 0, 0), (.iconst 1, 0, 0, 1, 0), (.iadd, 0, 0, 0, 0)] (by decide +kernel) rfl rfl ?_
        refine sCk oI rfl (fun h24 => ?_)
        refine sSl (by decide +kernel) h24 ?_
        refine sBk (lo' := [(0, vr 0 0), (1, vr 12 0), (2, vr 13 0), (3, vi v3)]) (st' := [vi (v3 + 2), vr 0 0, vi (rI μ 0 0 (ix (v3 + 1))), vr 12 0]) (μ' := μ) (pc' := 354) [(.aload_n 0, 0, 0, 0, 0), (.iload_n 3, 0, 0, 0, 0), (.iconst 2, 0, 0, 2, 0), (.iadd, 0, 0, 0, 0)] (by decide +kernel) rfl rfl ?_
        refine sCk oI rfl (fun h25 => ?_)
        refine sSl (by decide +kernel) h25 ?_
        refine sBk (lo' := [(0, vr 0 0), (1, vr 12 0), (2, vr 13 0), (3, vi v3)]) (st' := [vi (v3 + 3), vr 0 0, vi (rI μ 0 0 (ix (v3 + 2))), vi (rI μ 0 0 (ix (v3 + 1))), vr 12 0]) (μ' := μ) (pc' := 359) [(.aload_n 0, 0, 0, 0, 0), (.iload_n 3, 0, 0, 0, 0), (.iconst 3, 0, 0, 3, 0), (.iadd, 0, 0, 0, 0)] (by decide +kernel) rfl rfl ?_
        refine sCk oI rfl (fun h26 => ?_)
        refine sSl (by decide +kernel) h26 ?_
        refine sBk (lo' := [(0, vr 0 0), (1, vr 12 0), (2, vr 13 0), (3, vi v3)]) (st' := [vi (v3 + 4), vr 0 0, vl (lsl (Int32.toInt64 (rI μ 0 0 (ix (v3 + 3)))) 32), vi (rI μ 0 0 (ix (v3 + 2))), vi (rI μ 0 0 (ix (v3 + 1))), vr 12 0]) (μ' := μ) (pc' := 368) [(.i2l, 0, 0, 0, 0), (.bipush 32, 0, 0, 32, 0), (.lshl, 0, 0, 0, 0), (.aload_n 0, 0, 0, 0, 0), (.iload_n 3, 0, 0, 0, 0), (.iconst 4, 0, 0, 4, 0), (.iadd, 0, 0, 0, 0)] (by decide +kernel) rfl rfl ?_
        refine sCk oI rfl (fun h27 => ?_)
        refine sSl (by decide +kernel) h27 ?_
        refine sBk (lo' := [(0, vr 0 0), (1, vr 12 0), (2, vr 13 0), (3, vi v3)]) (st' := [vl ((lsl (Int32.toInt64 (rI μ 0 0 (ix (v3 + 3)))) 32) ||| ((Int32.toInt64 (rI μ 0 0 (ix (v3 + 4)))) &&& 4294967295)), vi (rI μ 0 0 (ix (v3 + 2))), vi (rI μ 0 0 (ix (v3 + 1))), vr 12 0]) (μ' := μ) (pc' := 375) [(.i2l, 0, 0, 0, 0), (.ldc2_w 32, 0, 0, 0, 4294967295), (.land, 0, 0, 0, 0), (.lor, 0, 0, 0, 0)] (by decide +kernel) rfl rfl ?_
        refine sCvI oI rfl (ci := 11) (q := (12, 0)) (avs := [vi (rI μ 0 0 (ix (v3 + 1))), vi (rI μ 0 0 (ix (v3 + 2))), vl ((lsl (Int32.toInt64 (rI μ 0 0 (ix (v3 + 3)))) 32) ||| ((Int32.toInt64 (rI μ 0 0 (ix (v3 + 4)))) &&& 4294967295))]) (rest := []) (tX11_write (rI μ 0 0 (ix (v3 + 1))) (rI μ 0 0 (ix (v3 + 2))) ((lsl (Int32.toInt64 (rI μ 0 0 (ix (v3 + 3)))) 32) ||| ((Int32.toInt64 (rI μ 0 0 (ix (v3 + 4)))) &&& 4294967295)) μ) (by decide) (by decide +kernel) lk_13_34 yv_X11_write rfl (by decide) rfl rfl rfl (Nat.le_of_ble_eq_true rfl) (fun x28 μ29 => ?_)
        refine sBk (lo' := [(0, vr 0 0), (1, vr 12 0), (2, vr 13 0), (3, vi v3)]) (st' := [vi (v3 + 1), vr 0 0, vr 13 0, vi x28]) (μ' := μ29) (pc' := 383) [(.aload_n 2, 0, 0, 0, 0), (.aload_n 0, 0, 0, 0, 0), (.iload_n 3, 0, 0, 0, 0), (.iconst 1, 0, 0, 1, 0), (.iadd, 0, 0, 0, 0)] (by decide +kernel) rfl rfl ?_
        refine sCk oI rfl (fun h30 => ?_)
        refine sSl (by decide +kernel) h30 ?_
        refine sBk (lo' := [(0, vr 0 0), (1, vr 12 0), (2, vr 13 0), (3, vi v3)]) (st' := [vi (v3 + 2), vr 0 0, vi (rI μ29 0 0 (ix (v3 + 1))), vr 13 0, vi x28]) (μ' := μ29) (pc' := 388) [(.aload_n 0, 0, 0, 0, 0), (.iload_n 3, 0, 0, 0, 0), (.iconst 2, 0, 0, 2, 0), (.iadd, 0, 0, 0, 0)] (by decide +kernel) rfl rfl ?_
        refine sCk oI rfl (fun h31 => ?_)
        refine sSl (by decide +kernel) h31 ?_
        refine sBk (lo' := [(0, vr 0 0), (1, vr 12 0), (2, vr 13 0), (3, vi v3)]) (st' := [vi (v3 + 3), vr 0 0, vi (rI μ29 0 0 (ix (v3 + 2))), vi (rI μ29 0 0 (ix (v3 + 1))), vr 13 0, vi x28]) (μ' := μ29) (pc' := 393) [(.aload_n 0, 0, 0, 0, 0), (.iload_n 3, 0, 0, 0, 0), (.iconst 3, 0, 0, 3, 0), (.iadd, 0, 0, 0, 0)] (by decide +kernel) rfl rfl ?_
        refine sCk oI rfl (fun h32 => ?_)
        refine sSl (by decide +kernel) h32 ?_
        refine sBk (lo' := [(0, vr 0 0), (1, vr 12 0), (2, vr 13 0), (3, vi v3)]) (st' := [vi (v3 + 4), vr 0 0, vl (lsl (Int32.toInt64 (rI μ29 0 0 (ix (v3 + 3)))) 32), vi (rI μ29 0 0 (ix (v3 + 2))), vi (rI μ29 0 0 (ix (v3 + 1))), vr 13 0, vi x28]) (μ' := μ29) (pc' := 402) [(.i2l, 0, 0, 0, 0), (.bipush 32, 0, 0, 32, 0), (.lshl, 0, 0, 0, 0), (.aload_n 0, 0, 0, 0, 0), (.iload_n 3, 0, 0, 0, 0), (.iconst 4, 0, 0, 4, 0), (.iadd, 0, 0, 0, 0)] (by decide +kernel) rfl rfl ?_
        refine sCk oI rfl (fun h33 => ?_)
        refine sSl (by decide +kernel) h33 ?_
        refine sBk (lo' := [(0, vr 0 0), (1, vr 12 0), (2, vr 13 0), (3, vi v3)]) (st' := [vl ((lsl (Int32.toInt64 (rI μ29 0 0 (ix (v3 + 3)))) 32) ||| ((Int32.toInt64 (rI μ29 0 0 (ix (v3 + 4)))) &&& 4294967295)), vi (rI μ29 0 0 (ix (v3 + 2))), vi (rI μ29 0 0 (ix (v3 + 1))), vr 13 0, vi x28]) (μ' := μ29) (pc' := 409) [(.i2l, 0, 0, 0, 0), (.ldc2_w 32, 0, 0, 0, 4294967295), (.land, 0, 0, 0, 0), (.lor, 0, 0, 0, 0)] (by decide +kernel) rfl rfl ?_
        refine sCvI oI rfl (ci := 12) (q := (13, 0)) (avs := [vi (rI μ29 0 0 (ix (v3 + 1))), vi (rI μ29 0 0 (ix (v3 + 2))), vl ((lsl (Int32.toInt64 (rI μ29 0 0 (ix (v3 + 3)))) 32) ||| ((Int32.toInt64 (rI μ29 0 0 (ix (v3 + 4)))) &&& 4294967295))]) (rest := [vi x28]) (tX12_write (rI μ29 0 0 (ix (v3 + 1))) (rI μ29 0 0 (ix (v3 + 2))) ((lsl (Int32.toInt64 (rI μ29 0 0 (ix (v3 + 3)))) 32) ||| ((Int32.toInt64 (rI μ29 0 0 (ix (v3 + 4)))) &&& 4294967295)) μ29) (by decide) (by decide +kernel) lk_13_38 yv_X12_write rfl (by decide) rfl rfl rfl (Nat.le_of_ble_eq_true rfl) (fun x34 μ35 => ?_)
        refine sIc_eq oI (off := 1444) (tgt := 1856) (by decide +kernel) (by decide) (fun _ => ?_) (fun _ => ?_)
        · exact L_law_J1856_ok ih v3 μ35
        · refine sBk (lo' := [(0, vr 0 0), (1, vr 12 0), (2, vr 13 0), (3, vi v3)]) (st' := [vi 0]) (μ' := μ35) (pc' := 416) [(.iconst 0, 0, 0, 0, 0)] (by decide +kernel) rfl rfl ?_
          exact sRi (by decide +kernel) (fun _ => Or.inl rfl)
      refine sSc oI (fun _ => ?_) (fun _ => ?_)
      · refine sBk (lo' := [(0, vr 0 0), (1, vr 12 0), (2, vr 13 0), (3, vi v3)]) (st' := [vi (v3 + 1), vr 0 0, vr 12 0]) (μ' := μ) (pc' := 422) [(.aload_n 1, 0, 0, 0, 0), (.aload_n 0, 0, 0, 0, 0), (.iload_n 3, 0, 0, 0, 0), (.iconst 1, 0, 0, 1, 0), (.iadd, 0, 0, 0, 0)] (by decide +kernel) rfl rfl ?_
        refine sCk oI rfl (fun h36 => ?_)
        refine sSl (by decide +kernel) h36 ?_
        refine sBk (lo' := [(0, vr 0 0), (1, vr 12 0), (2, vr 13 0), (3, vi v3)]) (st' := [vi (v3 + 2), vr 0 0, vi (rI μ 0 0 (ix (v3 + 1))), vr 12 0]) (μ' := μ) (pc' := 427) [(.aload_n 0, 0, 0, 0, 0), (.iload_n 3, 0, 0, 0, 0), (.iconst 2, 0, 0, 2, 0), (.iadd, 0, 0, 0, 0)] (by decide +kernel) rfl rfl ?_
        refine sCk oI rfl (fun h37 => ?_)
        refine sSl (by decide +kernel) h37 ?_
        refine sCvL oI rfl (ci := 11) (q := (12, 0)) (avs := [vi (rI μ 0 0 (ix (v3 + 1))), vi (rI μ 0 0 (ix (v3 + 2)))]) (rest := []) (tX11_read (rI μ 0 0 (ix (v3 + 1))) (rI μ 0 0 (ix (v3 + 2))) μ) (by decide) (by decide +kernel) lk_13_39 yv_X11_read rfl (by decide) rfl rfl rfl (Nat.le_of_ble_eq_true rfl) (fun x38 μ39 => ?_)
        refine sBk (lo' := [(0, vr 0 0), (1, vr 12 0), (2, vr 13 0), (3, vi v3)]) (st' := [vi (v3 + 1), vr 0 0, vr 13 0, vl x38]) (μ' := μ39) (pc' := 436) [(.aload_n 2, 0, 0, 0, 0), (.aload_n 0, 0, 0, 0, 0), (.iload_n 3, 0, 0, 0, 0), (.iconst 1, 0, 0, 1, 0), (.iadd, 0, 0, 0, 0)] (by decide +kernel) rfl rfl ?_
        refine sCk oI rfl (fun h40 => ?_)
        refine sSl (by decide +kernel) h40 ?_
        refine sBk (lo' := [(0, vr 0 0), (1, vr 12 0), (2, vr 13 0), (3, vi v3)]) (st' := [vi (v3 + 2), vr 0 0, vi (rI μ39 0 0 (ix (v3 + 1))), vr 13 0, vl x38]) (μ' := μ39) (pc' := 441) [(.aload_n 0, 0, 0, 0, 0), (.iload_n 3, 0, 0, 0, 0), (.iconst 2, 0, 0, 2, 0), (.iadd, 0, 0, 0, 0)] (by decide +kernel) rfl rfl ?_
        refine sCk oI rfl (fun h41 => ?_)
        refine sSl (by decide +kernel) h41 ?_
        refine sCvL oI rfl (ci := 12) (q := (13, 0)) (avs := [vi (rI μ39 0 0 (ix (v3 + 1))), vi (rI μ39 0 0 (ix (v3 + 2)))]) (rest := [vl x38]) (tX12_read (rI μ39 0 0 (ix (v3 + 1))) (rI μ39 0 0 (ix (v3 + 2))) μ39) (by decide) (by decide +kernel) lk_13_43 yv_X12_read rfl (by decide) rfl rfl rfl (Nat.le_of_ble_eq_true rfl) (fun x42 μ43 => ?_)
        refine sBk (lo' := [(0, vr 0 0), (1, vr 12 0), (2, vr 13 0), (3, vi v3)]) (st' := [vi (lg_cmp x38 x42)]) (μ' := μ43) (pc' := 446) [(.lcmp, 0, 0, 0, 0)] (by decide +kernel) rfl rfl ?_
        refine sIf_eq oI (off := 1410) (tgt := 1856) (by decide +kernel) (by decide) (fun _ => ?_) (fun _ => ?_)
        · exact L_law_J1856_ok ih v3 μ43
        · refine sBk (lo' := [(0, vr 0 0), (1, vr 12 0), (2, vr 13 0), (3, vi v3)]) (st' := [vi 0]) (μ' := μ43) (pc' := 450) [(.iconst 0, 0, 0, 0, 0)] (by decide +kernel) rfl rfl ?_
          exact sRi (by decide +kernel) (fun _ => Or.inl rfl)
      refine sSc oI (fun _ => ?_) (fun _ => ?_)
      · refine sBk (lo' := [(0, vr 0 0), (1, vr 12 0), (2, vr 13 0), (3, vi v3)]) (st' := [vi (v3 + 1), vr 0 0, vr 12 0]) (μ' := μ) (pc' := 456) [(.aload_n 1, 0, 0, 0, 0), (.aload_n 0, 0, 0, 0, 0), (.iload_n 3, 0, 0, 0, 0), (.iconst 1, 0, 0, 1, 0), (.iadd, 0, 0, 0, 0)] (by decide +kernel) rfl rfl ?_
        refine sCk oI rfl (fun h44 => ?_)
        refine sSl (by decide +kernel) h44 ?_
        refine sBk (lo' := [(0, vr 0 0), (1, vr 12 0), (2, vr 13 0), (3, vi v3)]) (st' := [vi (v3 + 2), vr 0 0, vi (rI μ 0 0 (ix (v3 + 1))), vr 12 0]) (μ' := μ) (pc' := 461) [(.aload_n 0, 0, 0, 0, 0), (.iload_n 3, 0, 0, 0, 0), (.iconst 2, 0, 0, 2, 0), (.iadd, 0, 0, 0, 0)] (by decide +kernel) rfl rfl ?_
        refine sCk oI rfl (fun h45 => ?_)
        refine sSl (by decide +kernel) h45 ?_
        refine sBk (lo' := [(0, vr 0 0), (1, vr 12 0), (2, vr 13 0), (3, vi v3)]) (st' := [vi (v3 + 3), vr 0 0, vi (rI μ 0 0 (ix (v3 + 2))), vi (rI μ 0 0 (ix (v3 + 1))), vr 12 0]) (μ' := μ) (pc' := 466) [(.aload_n 0, 0, 0, 0, 0), (.iload_n 3, 0, 0, 0, 0), (.iconst 3, 0, 0, 3, 0), (.iadd, 0, 0, 0, 0)] (by decide +kernel) rfl rfl ?_
        refine sCk oI rfl (fun h46 => ?_)
        refine sSl (by decide +kernel) h46 ?_
        refine sBk (lo' := [(0, vr 0 0), (1, vr 12 0), (2, vr 13 0), (3, vi v3)]) (st' := [vi (v3 + 4), vr 0 0, vi (rI μ 0 0 (ix (v3 + 3))), vi (rI μ 0 0 (ix (v3 + 2))), vi (rI μ 0 0 (ix (v3 + 1))), vr 12 0]) (μ' := μ) (pc' := 471) [(.aload_n 0, 0, 0, 0, 0), (.iload_n 3, 0, 0, 0, 0), (.iconst 4, 0, 0, 4, 0), (.iadd, 0, 0, 0, 0)] (by decide +kernel) rfl rfl ?_
        refine sCk oI rfl (fun h47 => ?_)
        refine sSl (by decide +kernel) h47 ?_
        refine sBk (lo' := [(0, vr 0 0), (1, vr 12 0), (2, vr 13 0), (3, vi v3)]) (st' := [vi (v3 + 5), vr 0 0, vi (rI μ 0 0 (ix (v3 + 4))), vi (rI μ 0 0 (ix (v3 + 3))), vi (rI μ 0 0 (ix (v3 + 2))), vi (rI μ 0 0 (ix (v3 + 1))), vr 12 0]) (μ' := μ) (pc' := 476) [(.aload_n 0, 0, 0, 0, 0), (.iload_n 3, 0, 0, 0, 0), (.iconst 5, 0, 0, 5, 0), (.iadd, 0, 0, 0, 0)] (by decide +kernel) rfl rfl ?_
        refine sCk oI rfl (fun h48 => ?_)
        refine sSl (by decide +kernel) h48 ?_
        refine sCvI oI rfl (ci := 11) (q := (12, 0)) (avs := [vi (rI μ 0 0 (ix (v3 + 1))), vi (rI μ 0 0 (ix (v3 + 2))), vi (rI μ 0 0 (ix (v3 + 3))), vi (rI μ 0 0 (ix (v3 + 4))), vi (rI μ 0 0 (ix (v3 + 5)))]) (rest := []) (tX11_pour (rI μ 0 0 (ix (v3 + 1))) (rI μ 0 0 (ix (v3 + 2))) (rI μ 0 0 (ix (v3 + 3))) (rI μ 0 0 (ix (v3 + 4))) (rI μ 0 0 (ix (v3 + 5))) μ) (by decide) (by decide +kernel) lk_13_44 yv_X11_pour rfl (by decide) rfl rfl rfl (Nat.le_of_ble_eq_true rfl) (fun x49 μ50 => ?_)
        refine sBk (lo' := [(0, vr 0 0), (1, vr 12 0), (2, vr 13 0), (3, vi v3)]) (st' := [vi (v3 + 1), vr 0 0, vr 13 0, vi x49]) (μ' := μ50) (pc' := 485) [(.aload_n 2, 0, 0, 0, 0), (.aload_n 0, 0, 0, 0, 0), (.iload_n 3, 0, 0, 0, 0), (.iconst 1, 0, 0, 1, 0), (.iadd, 0, 0, 0, 0)] (by decide +kernel) rfl rfl ?_
        refine sCk oI rfl (fun h51 => ?_)
        refine sSl (by decide +kernel) h51 ?_
        refine sBk (lo' := [(0, vr 0 0), (1, vr 12 0), (2, vr 13 0), (3, vi v3)]) (st' := [vi (v3 + 2), vr 0 0, vi (rI μ50 0 0 (ix (v3 + 1))), vr 13 0, vi x49]) (μ' := μ50) (pc' := 490) [(.aload_n 0, 0, 0, 0, 0), (.iload_n 3, 0, 0, 0, 0), (.iconst 2, 0, 0, 2, 0), (.iadd, 0, 0, 0, 0)] (by decide +kernel) rfl rfl ?_
        refine sCk oI rfl (fun h52 => ?_)
        refine sSl (by decide +kernel) h52 ?_
        refine sBk (lo' := [(0, vr 0 0), (1, vr 12 0), (2, vr 13 0), (3, vi v3)]) (st' := [vi (v3 + 3), vr 0 0, vi (rI μ50 0 0 (ix (v3 + 2))), vi (rI μ50 0 0 (ix (v3 + 1))), vr 13 0, vi x49]) (μ' := μ50) (pc' := 495) [(.aload_n 0, 0, 0, 0, 0), (.iload_n 3, 0, 0, 0, 0), (.iconst 3, 0, 0, 3, 0), (.iadd, 0, 0, 0, 0)] (by decide +kernel) rfl rfl ?_
        refine sCk oI rfl (fun h53 => ?_)
        refine sSl (by decide +kernel) h53 ?_
        refine sBk (lo' := [(0, vr 0 0), (1, vr 12 0), (2, vr 13 0), (3, vi v3)]) (st' := [vi (v3 + 4), vr 0 0, vi (rI μ50 0 0 (ix (v3 + 3))), vi (rI μ50 0 0 (ix (v3 + 2))), vi (rI μ50 0 0 (ix (v3 + 1))), vr 13 0, vi x49]) (μ' := μ50) (pc' := 500) [(.aload_n 0, 0, 0, 0, 0), (.iload_n 3, 0, 0, 0, 0), (.iconst 4, 0, 0, 4, 0), (.iadd, 0, 0, 0, 0)] (by decide +kernel) rfl rfl ?_
        refine sCk oI rfl (fun h54 => ?_)
        refine sSl (by decide +kernel) h54 ?_
        refine sBk (lo' := [(0, vr 0 0), (1, vr 12 0), (2, vr 13 0), (3, vi v3)]) (st' := [vi (v3 + 5), vr 0 0, vi (rI μ50 0 0 (ix (v3 + 4))), vi (rI μ50 0 0 (ix (v3 + 3))), vi (rI μ50 0 0 (ix (v3 + 2))), vi (rI μ50 0 0 (ix (v3 + 1))), vr 13 0, vi x49]) (μ' := μ50) (pc' := 505) [(.aload_n 0, 0, 0, 0, 0), (.iload_n 3, 0, 0, 0, 0), (.iconst 5, 0, 0, 5, 0), (.iadd, 0, 0, 0, 0)] (by decide +kernel) rfl rfl ?_
        refine sCk oI rfl (fun h55 => ?_)
        refine sSl (by decide +kernel) h55 ?_
        refine sCvI oI rfl (ci := 12) (q := (13, 0)) (avs := [vi (rI μ50 0 0 (ix (v3 + 1))), vi (rI μ50 0 0 (ix (v3 + 2))), vi (rI μ50 0 0 (ix (v3 + 3))), vi (rI μ50 0 0 (ix (v3 + 4))), vi (rI μ50 0 0 (ix (v3 + 5)))]) (rest := [vi x49]) (tX12_pour (rI μ50 0 0 (ix (v3 + 1))) (rI μ50 0 0 (ix (v3 + 2))) (rI μ50 0 0 (ix (v3 + 3))) (rI μ50 0 0 (ix (v3 + 4))) (rI μ50 0 0 (ix (v3 + 5))) μ50) (by decide) (by decide +kernel) lk_13_48 yv_X12_pour rfl (by decide) rfl rfl rfl (Nat.le_of_ble_eq_true rfl) (fun x56 μ57 => ?_)
        refine sIc_eq oI (off := 1347) (tgt := 1856) (by decide +kernel) (by decide) (fun _ => ?_) (fun _ => ?_)
        · exact L_law_J1856_ok ih v3 μ57
        · refine sBk (lo' := [(0, vr 0 0), (1, vr 12 0), (2, vr 13 0), (3, vi v3)]) (st' := [vi 0]) (μ' := μ57) (pc' := 513) [(.iconst 0, 0, 0, 0, 0)] (by decide +kernel) rfl rfl ?_
          exact sRi (by decide +kernel) (fun _ => Or.inl rfl)
      refine sSc oI (fun _ => ?_) (fun _ => ?_)
      · refine sBk (lo' := [(0, vr 0 0), (1, vr 12 0), (2, vr 13 0), (3, vi v3)]) (st' := [vi (v3 + 1), vr 0 0, vr 12 0]) (μ' := μ) (pc' := 519) [(.aload_n 1, 0, 0, 0, 0), (.aload_n 0, 0, 0, 0, 0), (.iload_n 3, 0, 0, 0, 0), (.iconst 1, 0, 0, 1, 0), (.iadd, 0, 0, 0, 0)] (by decide +kernel) rfl rfl ?_
        refine sCk oI rfl (fun h58 => ?_)
        refine sSl (by decide +kernel) h58 ?_
        refine sBk (lo' := [(0, vr 0 0), (1, vr 12 0), (2, vr 13 0), (3, vi v3)]) (st' := [vi (v3 + 2), vr 0 0, vi (rI μ 0 0 (ix (v3 + 1))), vr 12 0]) (μ' := μ) (pc' := 524) [(.aload_n 0, 0, 0, 0, 0), (.iload_n 3, 0, 0, 0, 0), (.iconst 2, 0, 0, 2, 0), (.iadd, 0, 0, 0, 0)] (by decide +kernel) rfl rfl ?_
        refine sCk oI rfl (fun h59 => ?_)
        refine sSl (by decide +kernel) h59 ?_
        refine sBk (lo' := [(0, vr 0 0), (1, vr 12 0), (2, vr 13 0), (3, vi v3)]) (st' := [vi (v3 + 3), vr 0 0, vi (rI μ 0 0 (ix (v3 + 2))), vi (rI μ 0 0 (ix (v3 + 1))), vr 12 0]) (μ' := μ) (pc' := 529) [(.aload_n 0, 0, 0, 0, 0), (.iload_n 3, 0, 0, 0, 0), (.iconst 3, 0, 0, 3, 0), (.iadd, 0, 0, 0, 0)] (by decide +kernel) rfl rfl ?_
        refine sCk oI rfl (fun h60 => ?_)
        refine sSl (by decide +kernel) h60 ?_
        refine sBk (lo' := [(0, vr 0 0), (1, vr 12 0), (2, vr 13 0), (3, vi v3)]) (st' := [vi (v3 + 4), vr 0 0, vi (rI μ 0 0 (ix (v3 + 3))), vi (rI μ 0 0 (ix (v3 + 2))), vi (rI μ 0 0 (ix (v3 + 1))), vr 12 0]) (μ' := μ) (pc' := 534) [(.aload_n 0, 0, 0, 0, 0), (.iload_n 3, 0, 0, 0, 0), (.iconst 4, 0, 0, 4, 0), (.iadd, 0, 0, 0, 0)] (by decide +kernel) rfl rfl ?_
        refine sCk oI rfl (fun h61 => ?_)
        refine sSl (by decide +kernel) h61 ?_
        refine sBk (lo' := [(0, vr 0 0), (1, vr 12 0), (2, vr 13 0), (3, vi v3)]) (st' := [vi (v3 + 5), vr 0 0, vi (rI μ 0 0 (ix (v3 + 4))), vi (rI μ 0 0 (ix (v3 + 3))), vi (rI μ 0 0 (ix (v3 + 2))), vi (rI μ 0 0 (ix (v3 + 1))), vr 12 0]) (μ' := μ) (pc' := 539) [(.aload_n 0, 0, 0, 0, 0), (.iload_n 3, 0, 0, 0, 0), (.iconst 5, 0, 0, 5, 0), (.iadd, 0, 0, 0, 0)] (by decide +kernel) rfl rfl ?_
        refine sCk oI rfl (fun h62 => ?_)
        refine sSl (by decide +kernel) h62 ?_
        refine sCvI oI rfl (ci := 11) (q := (12, 0)) (avs := [vi (rI μ 0 0 (ix (v3 + 1))), vi (rI μ 0 0 (ix (v3 + 2))), vi (rI μ 0 0 (ix (v3 + 3))), vi (rI μ 0 0 (ix (v3 + 4))), vi (rI μ 0 0 (ix (v3 + 5)))]) (rest := []) (tX11_feed (rI μ 0 0 (ix (v3 + 1))) (rI μ 0 0 (ix (v3 + 2))) (rI μ 0 0 (ix (v3 + 3))) (rI μ 0 0 (ix (v3 + 4))) (rI μ 0 0 (ix (v3 + 5))) μ) (by decide) (by decide +kernel) lk_13_49 yv_X11_feed rfl (by decide) rfl rfl rfl (Nat.le_of_ble_eq_true rfl) (fun x63 μ64 => ?_)
        refine sBk (lo' := [(0, vr 0 0), (1, vr 12 0), (2, vr 13 0), (3, vi v3)]) (st' := [vi (v3 + 1), vr 0 0, vr 13 0, vi x63]) (μ' := μ64) (pc' := 548) [(.aload_n 2, 0, 0, 0, 0), (.aload_n 0, 0, 0, 0, 0), (.iload_n 3, 0, 0, 0, 0), (.iconst 1, 0, 0, 1, 0), (.iadd, 0, 0, 0, 0)] (by decide +kernel) rfl rfl ?_
        refine sCk oI rfl (fun h65 => ?_)
        refine sSl (by decide +kernel) h65 ?_
        refine sBk (lo' := [(0, vr 0 0), (1, vr 12 0), (2, vr 13 0), (3, vi v3)]) (st' := [vi (v3 + 2), vr 0 0, vi (rI μ64 0 0 (ix (v3 + 1))), vr 13 0, vi x63]) (μ' := μ64) (pc' := 553) [(.aload_n 0, 0, 0, 0, 0), (.iload_n 3, 0, 0, 0, 0), (.iconst 2, 0, 0, 2, 0), (.iadd, 0, 0, 0, 0)] (by decide +kernel) rfl rfl ?_
        refine sCk oI rfl (fun h66 => ?_)
        refine sSl (by decide +kernel) h66 ?_
        refine sBk (lo' := [(0, vr 0 0), (1, vr 12 0), (2, vr 13 0), (3, vi v3)]) (st' := [vi (v3 + 3), vr 0 0, vi (rI μ64 0 0 (ix (v3 + 2))), vi (rI μ64 0 0 (ix (v3 + 1))), vr 13 0, vi x63]) (μ' := μ64) (pc' := 558) [(.aload_n 0, 0, 0, 0, 0), (.iload_n 3, 0, 0, 0, 0), (.iconst 3, 0, 0, 3, 0), (.iadd, 0, 0, 0, 0)] (by decide +kernel) rfl rfl ?_
        refine sCk oI rfl (fun h67 => ?_)
        refine sSl (by decide +kernel) h67 ?_
        refine sBk (lo' := [(0, vr 0 0), (1, vr 12 0), (2, vr 13 0), (3, vi v3)]) (st' := [vi (v3 + 4), vr 0 0, vi (rI μ64 0 0 (ix (v3 + 3))), vi (rI μ64 0 0 (ix (v3 + 2))), vi (rI μ64 0 0 (ix (v3 + 1))), vr 13 0, vi x63]) (μ' := μ64) (pc' := 563) [(.aload_n 0, 0, 0, 0, 0), (.iload_n 3, 0, 0, 0, 0), (.iconst 4, 0, 0, 4, 0), (.iadd, 0, 0, 0, 0)] (by decide +kernel) rfl rfl ?_
        refine sCk oI rfl (fun h68 => ?_)
        refine sSl (by decide +kernel) h68 ?_
        refine sBk (lo' := [(0, vr 0 0), (1, vr 12 0), (2, vr 13 0), (3, vi v3)]) (st' := [vi (v3 + 5), vr 0 0, vi (rI μ64 0 0 (ix (v3 + 4))), vi (rI μ64 0 0 (ix (v3 + 3))), vi (rI μ64 0 0 (ix (v3 + 2))), vi (rI μ64 0 0 (ix (v3 + 1))), vr 13 0, vi x63]) (μ' := μ64) (pc' := 568) [(.aload_n 0, 0, 0, 0, 0), (.iload_n 3, 0, 0, 0, 0), (.iconst 5, 0, 0, 5, 0), (.iadd, 0, 0, 0, 0)] (by decide +kernel) rfl rfl ?_
        refine sCk oI rfl (fun h69 => ?_)
        refine sSl (by decide +kernel) h69 ?_
        refine sCvI oI rfl (ci := 12) (q := (13, 0)) (avs := [vi (rI μ64 0 0 (ix (v3 + 1))), vi (rI μ64 0 0 (ix (v3 + 2))), vi (rI μ64 0 0 (ix (v3 + 3))), vi (rI μ64 0 0 (ix (v3 + 4))), vi (rI μ64 0 0 (ix (v3 + 5)))]) (rest := [vi x63]) (tX12_feed (rI μ64 0 0 (ix (v3 + 1))) (rI μ64 0 0 (ix (v3 + 2))) (rI μ64 0 0 (ix (v3 + 3))) (rI μ64 0 0 (ix (v3 + 4))) (rI μ64 0 0 (ix (v3 + 5))) μ64) (by decide) (by decide +kernel) lk_13_53 yv_X12_feed rfl (by decide) rfl rfl rfl (Nat.le_of_ble_eq_true rfl) (fun x70 μ71 => ?_)
        refine sIc_eq oI (off := 1284) (tgt := 1856) (by decide +kernel) (by decide) (fun _ => ?_) (fun _ => ?_)
        · exact L_law_J1856_ok ih v3 μ71
        · refine sBk (lo' := [(0, vr 0 0), (1, vr 12 0), (2, vr 13 0), (3, vi v3)]) (st' := [vi 0]) (μ' := μ71) (pc' := 576) [(.iconst 0, 0, 0, 0, 0)] (by decide +kernel) rfl rfl ?_
          exact sRi (by decide +kernel) (fun _ => Or.inl rfl)
      refine sSc oI (fun _ => ?_) (fun _ => ?_)
      · refine sBk (lo' := [(0, vr 0 0), (1, vr 12 0), (2, vr 13 0), (3, vi v3)]) (st' := [vi (v3 + 1), vr 0 0, vr 12 0]) (μ' := μ) (pc' := 582) [(.aload_n 1, 0, 0, 0, 0), (.aload_n 0, 0, 0, 0, 0), (.iload_n 3, 0, 0, 0, 0), (.iconst 1, 0, 0, 1, 0), (.iadd, 0, 0, 0, 0)] (by decide +kernel) rfl rfl ?_
        refine sCk oI rfl (fun h72 => ?_)
        refine sSl (by decide +kernel) h72 ?_
        refine sCvI oI rfl (ci := 11) (q := (12, 0)) (avs := [vi (rI μ 0 0 (ix (v3 + 1)))]) (rest := []) (tX11_river (rI μ 0 0 (ix (v3 + 1))) μ) (by decide) (by decide +kernel) lk_13_54 yv_X11_river rfl (by decide) rfl rfl rfl (Nat.le_of_ble_eq_true rfl) (fun x73 μ74 => ?_)
        refine sBk (lo' := [(0, vr 0 0), (1, vr 12 0), (2, vr 13 0), (3, vi v3)]) (st' := [vi (v3 + 1), vr 0 0, vr 13 0, vi x73]) (μ' := μ74) (pc' := 591) [(.aload_n 2, 0, 0, 0, 0), (.aload_n 0, 0, 0, 0, 0), (.iload_n 3, 0, 0, 0, 0), (.iconst 1, 0, 0, 1, 0), (.iadd, 0, 0, 0, 0)] (by decide +kernel) rfl rfl ?_
        refine sCk oI rfl (fun h75 => ?_)
        refine sSl (by decide +kernel) h75 ?_
        refine sCvI oI rfl (ci := 12) (q := (13, 0)) (avs := [vi (rI μ74 0 0 (ix (v3 + 1)))]) (rest := [vi x73]) (tX12_river (rI μ74 0 0 (ix (v3 + 1))) μ74) (by decide) (by decide +kernel) lk_13_58 yv_X12_river rfl (by decide) rfl rfl rfl (Nat.le_of_ble_eq_true rfl) (fun x76 μ77 => ?_)
        refine sIc_eq oI (off := 1261) (tgt := 1856) (by decide +kernel) (by decide) (fun _ => ?_) (fun _ => ?_)
        · exact L_law_J1856_ok ih v3 μ77
        · refine sBk (lo' := [(0, vr 0 0), (1, vr 12 0), (2, vr 13 0), (3, vi v3)]) (st' := [vi 0]) (μ' := μ77) (pc' := 599) [(.iconst 0, 0, 0, 0, 0)] (by decide +kernel) rfl rfl ?_
          exact sRi (by decide +kernel) (fun _ => Or.inl rfl)
      refine sSc oI (fun _ => ?_) (fun _ => ?_)
      · refine sBk (lo' := [(0, vr 0 0), (1, vr 12 0), (2, vr 13 0), (3, vi v3)]) (st' := [vi (v3 + 1), vr 0 0, vr 12 0]) (μ' := μ) (pc' := 605) [(.aload_n 1, 0, 0, 0, 0), (.aload_n 0, 0, 0, 0, 0), (.iload_n 3, 0, 0, 0, 0), (.iconst 1, 0, 0, 1, 0), (.iadd, 0, 0, 0, 0)] (by decide +kernel) rfl rfl ?_
        refine sCk oI rfl (fun h78 => ?_)
        refine sSl (by decide +kernel) h78 ?_
        refine sCvI oI rfl (ci := 11) (q := (12, 0)) (avs := [vi (rI μ 0 0 (ix (v3 + 1)))]) (rest := []) (tX11_weeks (rI μ 0 0 (ix (v3 + 1))) μ) (by decide) (by decide +kernel) lk_13_59 yv_X11_weeks rfl (by decide) rfl rfl rfl (Nat.le_of_ble_eq_true rfl) (fun x79 μ80 => ?_)
        refine sBk (lo' := [(0, vr 0 0), (1, vr 12 0), (2, vr 13 0), (3, vi v3)]) (st' := [vi (v3 + 1), vr 0 0, vr 13 0, vi x79]) (μ' := μ80) (pc' := 614) [(.aload_n 2, 0, 0, 0, 0), (.aload_n 0, 0, 0, 0, 0), (.iload_n 3, 0, 0, 0, 0), (.iconst 1, 0, 0, 1, 0), (.iadd, 0, 0, 0, 0)] (by decide +kernel) rfl rfl ?_
        refine sCk oI rfl (fun h81 => ?_)
        refine sSl (by decide +kernel) h81 ?_
        refine sCvI oI rfl (ci := 12) (q := (13, 0)) (avs := [vi (rI μ80 0 0 (ix (v3 + 1)))]) (rest := [vi x79]) (tX12_weeks (rI μ80 0 0 (ix (v3 + 1))) μ80) (by decide) (by decide +kernel) lk_13_62 yv_X12_weeks rfl (by decide) rfl rfl rfl (Nat.le_of_ble_eq_true rfl) (fun x82 μ83 => ?_)
        refine sIc_eq oI (off := 1238) (tgt := 1856) (by decide +kernel) (by decide) (fun _ => ?_) (fun _ => ?_)
        · exact L_law_J1856_ok ih v3 μ83
        · refine sBk (lo' := [(0, vr 0 0), (1, vr 12 0), (2, vr 13 0), (3, vi v3)]) (st' := [vi 0]) (μ' := μ83) (pc' := 622) [(.iconst 0, 0, 0, 0, 0)] (by decide +kernel) rfl rfl ?_
          exact sRi (by decide +kernel) (fun _ => Or.inl rfl)
      refine sSc oI (fun _ => ?_) (fun _ => ?_)
      · refine sBk (lo' := [(0, vr 0 0), (1, vr 12 0), (2, vr 13 0), (3, vi v3)]) (st' := [vi (v3 + 1), vr 0 0, vr 12 0]) (μ' := μ) (pc' := 628) [(.aload_n 1, 0, 0, 0, 0), (.aload_n 0, 0, 0, 0, 0), (.iload_n 3, 0, 0, 0, 0), (.iconst 1, 0, 0, 1, 0), (.iadd, 0, 0, 0, 0)] (by decide +kernel) rfl rfl ?_
        refine sCk oI rfl (fun h84 => ?_)
        refine sSl (by decide +kernel) h84 ?_
        refine sCvI oI rfl (ci := 11) (q := (12, 0)) (avs := [vi (rI μ 0 0 (ix (v3 + 1)))]) (rest := []) (tX11_fault (rI μ 0 0 (ix (v3 + 1))) μ) (by decide) (by decide +kernel) lk_13_63 yv_X11_fault rfl (by decide) rfl rfl rfl (Nat.le_of_ble_eq_true rfl) (fun x85 μ86 => ?_)
        refine sBk (lo' := [(0, vr 0 0), (1, vr 12 0), (2, vr 13 0), (3, vi v3)]) (st' := [vi (v3 + 1), vr 0 0, vr 13 0, vi x85]) (μ' := μ86) (pc' := 637) [(.aload_n 2, 0, 0, 0, 0), (.aload_n 0, 0, 0, 0, 0), (.iload_n 3, 0, 0, 0, 0), (.iconst 1, 0, 0, 1, 0), (.iadd, 0, 0, 0, 0)] (by decide +kernel) rfl rfl ?_
        refine sCk oI rfl (fun h87 => ?_)
        refine sSl (by decide +kernel) h87 ?_
        refine sCvI oI rfl (ci := 12) (q := (13, 0)) (avs := [vi (rI μ86 0 0 (ix (v3 + 1)))]) (rest := [vi x85]) (tX12_fault (rI μ86 0 0 (ix (v3 + 1))) μ86) (by decide) (by decide +kernel) lk_13_66 yv_X12_fault rfl (by decide) rfl rfl rfl (Nat.le_of_ble_eq_true rfl) (fun x88 μ89 => ?_)
        refine sIc_eq oI (off := 1215) (tgt := 1856) (by decide +kernel) (by decide) (fun _ => ?_) (fun _ => ?_)
        · exact L_law_J1856_ok ih v3 μ89
        · refine sBk (lo' := [(0, vr 0 0), (1, vr 12 0), (2, vr 13 0), (3, vi v3)]) (st' := [vi 0]) (μ' := μ89) (pc' := 645) [(.iconst 0, 0, 0, 0, 0)] (by decide +kernel) rfl rfl ?_
          exact sRi (by decide +kernel) (fun _ => Or.inl rfl)
      refine sSc oI (fun _ => ?_) (fun _ => ?_)
      · refine sBk (lo' := [(0, vr 0 0), (1, vr 12 0), (2, vr 13 0), (3, vi v3)]) (st' := [vi (v3 + 1), vr 0 0, vr 12 0]) (μ' := μ) (pc' := 651) [(.aload_n 1, 0, 0, 0, 0), (.aload_n 0, 0, 0, 0, 0), (.iload_n 3, 0, 0, 0, 0), (.iconst 1, 0, 0, 1, 0), (.iadd, 0, 0, 0, 0)] (by decide +kernel) rfl rfl ?_
        refine sCk oI rfl (fun h90 => ?_)
        refine sSl (by decide +kernel) h90 ?_
        refine sCvI oI rfl (ci := 11) (q := (12, 0)) (avs := [vi (rI μ 0 0 (ix (v3 + 1)))]) (rest := []) (tX11_many (rI μ 0 0 (ix (v3 + 1))) μ) (by decide) (by decide +kernel) lk_13_67 yv_X11_many rfl (by decide) rfl rfl rfl (Nat.le_of_ble_eq_true rfl) (fun x91 μ92 => ?_)
        refine sBk (lo' := [(0, vr 0 0), (1, vr 12 0), (2, vr 13 0), (3, vi v3)]) (st' := [vi (v3 + 1), vr 0 0, vr 13 0, vi x91]) (μ' := μ92) (pc' := 660) [(.aload_n 2, 0, 0, 0, 0), (.aload_n 0, 0, 0, 0, 0), (.iload_n 3, 0, 0, 0, 0), (.iconst 1, 0, 0, 1, 0), (.iadd, 0, 0, 0, 0)] (by decide +kernel) rfl rfl ?_
        refine sCk oI rfl (fun h93 => ?_)
        refine sSl (by decide +kernel) h93 ?_
        refine sCvI oI rfl (ci := 12) (q := (13, 0)) (avs := [vi (rI μ92 0 0 (ix (v3 + 1)))]) (rest := [vi x91]) (tX12_many (rI μ92 0 0 (ix (v3 + 1))) μ92) (by decide) (by decide +kernel) lk_13_70 yv_X12_many rfl (by decide) rfl rfl rfl (Nat.le_of_ble_eq_true rfl) (fun x94 μ95 => ?_)
        refine sIc_eq oI (off := 1192) (tgt := 1856) (by decide +kernel) (by decide) (fun _ => ?_) (fun _ => ?_)
        · exact L_law_J1856_ok ih v3 μ95
        · refine sBk (lo' := [(0, vr 0 0), (1, vr 12 0), (2, vr 13 0), (3, vi v3)]) (st' := [vi 0]) (μ' := μ95) (pc' := 668) [(.iconst 0, 0, 0, 0, 0)] (by decide +kernel) rfl rfl ?_
          exact sRi (by decide +kernel) (fun _ => Or.inl rfl)
      refine sSc oI (fun _ => ?_) (fun _ => ?_)
      · refine sBk (lo' := [(0, vr 0 0), (1, vr 12 0), (2, vr 13 0), (3, vi v3)]) (st' := [vr 12 0]) (μ' := μ) (pc' := 670) [(.aload_n 1, 0, 0, 0, 0)] (by decide +kernel) rfl rfl ?_
        refine sCvI oI rfl (ci := 11) (q := (12, 0)) (avs := []) (rest := []) (tX11_turnsLeft μ) (by decide) (by decide +kernel) lk_13_71 yv_X11_turnsLeft rfl (by decide) rfl rfl rfl (Nat.le_of_ble_eq_true rfl) (fun x96 μ97 => ?_)
        refine sBk (lo' := [(0, vr 0 0), (1, vr 12 0), (2, vr 13 0), (3, vi v3)]) (st' := [vr 13 0, vi x96]) (μ' := μ97) (pc' := 674) [(.aload_n 2, 0, 0, 0, 0)] (by decide +kernel) rfl rfl ?_
        refine sCvI oI rfl (ci := 12) (q := (13, 0)) (avs := []) (rest := [vi x96]) (tX12_turnsLeft μ97) (by decide) (by decide +kernel) lk_13_74 yv_X12_turnsLeft rfl (by decide) rfl rfl rfl (Nat.le_of_ble_eq_true rfl) (fun x98 μ99 => ?_)
        refine sIc_eq oI (off := 1179) (tgt := 1856) (by decide +kernel) (by decide) (fun _ => ?_) (fun _ => ?_)
        · exact L_law_J1856_ok ih v3 μ99
        · refine sBk (lo' := [(0, vr 0 0), (1, vr 12 0), (2, vr 13 0), (3, vi v3)]) (st' := [vi 0]) (μ' := μ99) (pc' := 681) [(.iconst 0, 0, 0, 0, 0)] (by decide +kernel) rfl rfl ?_
          exact sRi (by decide +kernel) (fun _ => Or.inl rfl)
      refine sSc oI (fun _ => ?_) (fun _ => ?_)
      · refine sBk (lo' := [(0, vr 0 0), (1, vr 12 0), (2, vr 13 0), (3, vi v3)]) (st' := [vi (v3 + 1), vr 0 0, vr 12 0]) (μ' := μ) (pc' := 687) [(.aload_n 1, 0, 0, 0, 0), (.aload_n 0, 0, 0, 0, 0), (.iload_n 3, 0, 0, 0, 0), (.iconst 1, 0, 0, 1, 0), (.iadd, 0, 0, 0, 0)] (by decide +kernel) rfl rfl ?_
        refine sCk oI rfl (fun h100 => ?_)
        refine sSl (by decide +kernel) h100 ?_
        refine sCvL oI rfl (ci := 11) (q := (12, 0)) (avs := [vi (rI μ 0 0 (ix (v3 + 1)))]) (rest := []) (tX11_water (rI μ 0 0 (ix (v3 + 1))) μ) (by decide) (by decide +kernel) lk_13_75 yv_X11_water rfl (by decide) rfl rfl rfl (Nat.le_of_ble_eq_true rfl) (fun x101 μ102 => ?_)
        refine sBk (lo' := [(0, vr 0 0), (1, vr 12 0), (2, vr 13 0), (3, vi v3)]) (st' := [vi (v3 + 1), vr 0 0, vr 13 0, vl x101]) (μ' := μ102) (pc' := 696) [(.aload_n 2, 0, 0, 0, 0), (.aload_n 0, 0, 0, 0, 0), (.iload_n 3, 0, 0, 0, 0), (.iconst 1, 0, 0, 1, 0), (.iadd, 0, 0, 0, 0)] (by decide +kernel) rfl rfl ?_
        refine sCk oI rfl (fun h103 => ?_)
        refine sSl (by decide +kernel) h103 ?_
        refine sCvL oI rfl (ci := 12) (q := (13, 0)) (avs := [vi (rI μ102 0 0 (ix (v3 + 1)))]) (rest := [vl x101]) (tX12_water (rI μ102 0 0 (ix (v3 + 1))) μ102) (by decide) (by decide +kernel) lk_13_79 yv_X12_water rfl (by decide) rfl rfl rfl (Nat.le_of_ble_eq_true rfl) (fun x104 μ105 => ?_)
        refine sBk (lo' := [(0, vr 0 0), (1, vr 12 0), (2, vr 13 0), (3, vi v3)]) (st' := [vi (lg_cmp x101 x104)]) (μ' := μ105) (pc' := 701) [(.lcmp, 0, 0, 0, 0)] (by decide +kernel) rfl rfl ?_
        refine sIf_eq oI (off := 1155) (tgt := 1856) (by decide +kernel) (by decide) (fun _ => ?_) (fun _ => ?_)
        · exact L_law_J1856_ok ih v3 μ105
        · refine sBk (lo' := [(0, vr 0 0), (1, vr 12 0), (2, vr 13 0), (3, vi v3)]) (st' := [vi 0]) (μ' := μ105) (pc' := 705) [(.iconst 0, 0, 0, 0, 0)] (by decide +kernel) rfl rfl ?_
          exact sRi (by decide +kernel) (fun _ => Or.inl rfl)
      refine sSc oI (fun _ => ?_) (fun _ => ?_)
      · refine sBk (lo' := [(0, vr 0 0), (1, vr 12 0), (2, vr 13 0), (3, vi v3)]) (st' := [vi (v3 + 1), vr 0 0, vr 12 0]) (μ' := μ) (pc' := 711) [(.aload_n 1, 0, 0, 0, 0), (.aload_n 0, 0, 0, 0, 0), (.iload_n 3, 0, 0, 0, 0), (.iconst 1, 0, 0, 1, 0), (.iadd, 0, 0, 0, 0)] (by decide +kernel) rfl rfl ?_
        refine sCk oI rfl (fun h106 => ?_)
        refine sSl (by decide +kernel) h106 ?_
        refine sBk (lo' := [(0, vr 0 0), (1, vr 12 0), (2, vr 13 0), (3, vi v3)]) (st' := [vi (v3 + 2), vr 0 0, vi (rI μ 0 0 (ix (v3 + 1))), vr 12 0]) (μ' := μ) (pc' := 716) [(.aload_n 0, 0, 0, 0, 0), (.iload_n 3, 0, 0, 0, 0), (.iconst 2, 0, 0, 2, 0), (.iadd, 0, 0, 0, 0)] (by decide +kernel) rfl rfl ?_
        refine sCk oI rfl (fun h107 => ?_)
        refine sSl (by decide +kernel) h107 ?_
        refine sCvI oI rfl (ci := 11) (q := (12, 0)) (avs := [vi (rI μ 0 0 (ix (v3 + 1))), vi (rI μ 0 0 (ix (v3 + 2)))]) (rest := []) (tX11_reach (rI μ 0 0 (ix (v3 + 1))) (rI μ 0 0 (ix (v3 + 2))) μ) (by decide) (by decide +kernel) lk_13_80 yv_X11_reach rfl (by decide) rfl rfl rfl (Nat.le_of_ble_eq_true rfl) (fun x108 μ109 => ?_)
        refine sBk (lo' := [(0, vr 0 0), (1, vr 12 0), (2, vr 13 0), (3, vi v3)]) (st' := [vi (v3 + 1), vr 0 0, vr 13 0, vi x108]) (μ' := μ109) (pc' := 725) [(.aload_n 2, 0, 0, 0, 0), (.aload_n 0, 0, 0, 0, 0), (.iload_n 3, 0, 0, 0, 0), (.iconst 1, 0, 0, 1, 0), (.iadd, 0, 0, 0, 0)] (by decide +kernel) rfl rfl ?_
        refine sCk oI rfl (fun h110 => ?_)
        refine sSl (by decide +kernel) h110 ?_
        refine sBk (lo' := [(0, vr 0 0), (1, vr 12 0), (2, vr 13 0), (3, vi v3)]) (st' := [vi (v3 + 2), vr 0 0, vi (rI μ109 0 0 (ix (v3 + 1))), vr 13 0, vi x108]) (μ' := μ109) (pc' := 730) [(.aload_n 0, 0, 0, 0, 0), (.iload_n 3, 0, 0, 0, 0), (.iconst 2, 0, 0, 2, 0), (.iadd, 0, 0, 0, 0)] (by decide +kernel) rfl rfl ?_
        refine sCk oI rfl (fun h111 => ?_)
        refine sSl (by decide +kernel) h111 ?_
        refine sCvI oI rfl (ci := 12) (q := (13, 0)) (avs := [vi (rI μ109 0 0 (ix (v3 + 1))), vi (rI μ109 0 0 (ix (v3 + 2)))]) (rest := [vi x108]) (tX12_reach (rI μ109 0 0 (ix (v3 + 1))) (rI μ109 0 0 (ix (v3 + 2))) μ109) (by decide) (by decide +kernel) lk_13_84 yv_X12_reach rfl (by decide) rfl rfl rfl (Nat.le_of_ble_eq_true rfl) (fun x112 μ113 => ?_)
        refine sIc_eq oI (off := 1122) (tgt := 1856) (by decide +kernel) (by decide) (fun _ => ?_) (fun _ => ?_)
        · exact L_law_J1856_ok ih v3 μ113
        · refine sBk (lo' := [(0, vr 0 0), (1, vr 12 0), (2, vr 13 0), (3, vi v3)]) (st' := [vi 0]) (μ' := μ113) (pc' := 738) [(.iconst 0, 0, 0, 0, 0)] (by decide +kernel) rfl rfl ?_
          exact sRi (by decide +kernel) (fun _ => Or.inl rfl)
      refine sSc oI (fun _ => ?_) (fun _ => ?_)
      · refine sBk (lo' := [(0, vr 0 0), (1, vr 12 0), (2, vr 13 0), (3, vi v3)]) (st' := [vi (v3 + 1), vr 0 0, vr 12 0]) (μ' := μ) (pc' := 744) [(.aload_n 1, 0, 0, 0, 0), (.aload_n 0, 0, 0, 0, 0), (.iload_n 3, 0, 0, 0, 0), (.iconst 1, 0, 0, 1, 0), (.iadd, 0, 0, 0, 0)] (by decide +kernel) rfl rfl ?_
        refine sCk oI rfl (fun h114 => ?_)
        refine sSl (by decide +kernel) h114 ?_
        refine sBk (lo' := [(0, vr 0 0), (1, vr 12 0), (2, vr 13 0), (3, vi v3)]) (st' := [vi (v3 + 2), vr 0 0, vi (rI μ 0 0 (ix (v3 + 1))), vr 12 0]) (μ' := μ) (pc' := 749) [(.aload_n 0, 0, 0, 0, 0), (.iload_n 3, 0, 0, 0, 0), (.iconst 2, 0, 0, 2, 0), (.iadd, 0, 0, 0, 0)] (by decide +kernel) rfl rfl ?_
        refine sCk oI rfl (fun h115 => ?_)
        refine sSl (by decide +kernel) h115 ?_
        refine sCvI oI rfl (ci := 11) (q := (12, 0)) (avs := [vi (rI μ 0 0 (ix (v3 + 1))), vi (rI μ 0 0 (ix (v3 + 2)))]) (rest := []) (tX11_mill (rI μ 0 0 (ix (v3 + 1))) (rI μ 0 0 (ix (v3 + 2))) μ) (by decide) (by decide +kernel) lk_13_85 yv_X11_mill rfl (by decide) rfl rfl rfl (Nat.le_of_ble_eq_true rfl) (fun x116 μ117 => ?_)
        refine sBk (lo' := [(0, vr 0 0), (1, vr 12 0), (2, vr 13 0), (3, vi v3)]) (st' := [vi (v3 + 1), vr 0 0, vr 13 0, vi x116]) (μ' := μ117) (pc' := 758) [(.aload_n 2, 0, 0, 0, 0), (.aload_n 0, 0, 0, 0, 0), (.iload_n 3, 0, 0, 0, 0), (.iconst 1, 0, 0, 1, 0), (.iadd, 0, 0, 0, 0)] (by decide +kernel) rfl rfl ?_
        refine sCk oI rfl (fun h118 => ?_)
        refine sSl (by decide +kernel) h118 ?_
        refine sBk (lo' := [(0, vr 0 0), (1, vr 12 0), (2, vr 13 0), (3, vi v3)]) (st' := [vi (v3 + 2), vr 0 0, vi (rI μ117 0 0 (ix (v3 + 1))), vr 13 0, vi x116]) (μ' := μ117) (pc' := 763) [(.aload_n 0, 0, 0, 0, 0), (.iload_n 3, 0, 0, 0, 0), (.iconst 2, 0, 0, 2, 0), (.iadd, 0, 0, 0, 0)] (by decide +kernel) rfl rfl ?_
        refine sCk oI rfl (fun h119 => ?_)
        refine sSl (by decide +kernel) h119 ?_
        refine sCvI oI rfl (ci := 12) (q := (13, 0)) (avs := [vi (rI μ117 0 0 (ix (v3 + 1))), vi (rI μ117 0 0 (ix (v3 + 2)))]) (rest := [vi x116]) (tX12_mill (rI μ117 0 0 (ix (v3 + 1))) (rI μ117 0 0 (ix (v3 + 2))) μ117) (by decide) (by decide +kernel) lk_13_88 yv_X12_mill rfl (by decide) rfl rfl rfl (Nat.le_of_ble_eq_true rfl) (fun x120 μ121 => ?_)
        refine sIc_eq oI (off := 1089) (tgt := 1856) (by decide +kernel) (by decide) (fun _ => ?_) (fun _ => ?_)
        · exact L_law_J1856_ok ih v3 μ121
        · refine sBk (lo' := [(0, vr 0 0), (1, vr 12 0), (2, vr 13 0), (3, vi v3)]) (st' := [vi 0]) (μ' := μ121) (pc' := 771) [(.iconst 0, 0, 0, 0, 0)] (by decide +kernel) rfl rfl ?_
          exact sRi (by decide +kernel) (fun _ => Or.inl rfl)
      refine sSc oI (fun _ => ?_) (fun _ => ?_)
      · refine sBk (lo' := [(0, vr 0 0), (1, vr 12 0), (2, vr 13 0), (3, vi v3)]) (st' := [vi (v3 + 1), vr 0 0, vr 12 0]) (μ' := μ) (pc' := 777) [(.aload_n 1, 0, 0, 0, 0), (.aload_n 0, 0, 0, 0, 0), (.iload_n 3, 0, 0, 0, 0), (.iconst 1, 0, 0, 1, 0), (.iadd, 0, 0, 0, 0)] (by decide +kernel) rfl rfl ?_
        refine sCk oI rfl (fun h122 => ?_)
        refine sSl (by decide +kernel) h122 ?_
        refine sBk (lo' := [(0, vr 0 0), (1, vr 12 0), (2, vr 13 0), (3, vi v3)]) (st' := [vi (v3 + 2), vr 0 0, vi (rI μ 0 0 (ix (v3 + 1))), vr 12 0]) (μ' := μ) (pc' := 782) [(.aload_n 0, 0, 0, 0, 0), (.iload_n 3, 0, 0, 0, 0), (.iconst 2, 0, 0, 2, 0), (.iadd, 0, 0, 0, 0)] (by decide +kernel) rfl rfl ?_
        refine sCk oI rfl (fun h123 => ?_)
        refine sSl (by decide +kernel) h123 ?_
        refine sCvI oI rfl (ci := 11) (q := (12, 0)) (avs := [vi (rI μ 0 0 (ix (v3 + 1))), vi (rI μ 0 0 (ix (v3 + 2)))]) (rest := []) (tX11_winder (rI μ 0 0 (ix (v3 + 1))) (rI μ 0 0 (ix (v3 + 2))) μ) (by decide) (by decide +kernel) lk_13_89 yv_X11_winder rfl (by decide) rfl rfl rfl (Nat.le_of_ble_eq_true rfl) (fun x124 μ125 => ?_)
        refine sBk (lo' := [(0, vr 0 0), (1, vr 12 0), (2, vr 13 0), (3, vi v3)]) (st' := [vi (v3 + 1), vr 0 0, vr 13 0, vi x124]) (μ' := μ125) (pc' := 791) [(.aload_n 2, 0, 0, 0, 0), (.aload_n 0, 0, 0, 0, 0), (.iload_n 3, 0, 0, 0, 0), (.iconst 1, 0, 0, 1, 0), (.iadd, 0, 0, 0, 0)] (by decide +kernel) rfl rfl ?_
        refine sCk oI rfl (fun h126 => ?_)
        refine sSl (by decide +kernel) h126 ?_
        refine sBk (lo' := [(0, vr 0 0), (1, vr 12 0), (2, vr 13 0), (3, vi v3)]) (st' := [vi (v3 + 2), vr 0 0, vi (rI μ125 0 0 (ix (v3 + 1))), vr 13 0, vi x124]) (μ' := μ125) (pc' := 796) [(.aload_n 0, 0, 0, 0, 0), (.iload_n 3, 0, 0, 0, 0), (.iconst 2, 0, 0, 2, 0), (.iadd, 0, 0, 0, 0)] (by decide +kernel) rfl rfl ?_
        refine sCk oI rfl (fun h127 => ?_)
        refine sSl (by decide +kernel) h127 ?_
        refine sCvI oI rfl (ci := 12) (q := (13, 0)) (avs := [vi (rI μ125 0 0 (ix (v3 + 1))), vi (rI μ125 0 0 (ix (v3 + 2)))]) (rest := [vi x124]) (tX12_winder (rI μ125 0 0 (ix (v3 + 1))) (rI μ125 0 0 (ix (v3 + 2))) μ125) (by decide) (by decide +kernel) lk_13_92 yv_X12_winder rfl (by decide) rfl rfl rfl (Nat.le_of_ble_eq_true rfl) (fun x128 μ129 => ?_)
        refine sIc_eq oI (off := 1056) (tgt := 1856) (by decide +kernel) (by decide) (fun _ => ?_) (fun _ => ?_)
        · exact L_law_J1856_ok ih v3 μ129
        · refine sBk (lo' := [(0, vr 0 0), (1, vr 12 0), (2, vr 13 0), (3, vi v3)]) (st' := [vi 0]) (μ' := μ129) (pc' := 804) [(.iconst 0, 0, 0, 0, 0)] (by decide +kernel) rfl rfl ?_
          exact sRi (by decide +kernel) (fun _ => Or.inl rfl)
      refine sSc oI (fun _ => ?_) (fun _ => ?_)
      · refine sBk (lo' := [(0, vr 0 0), (1, vr 12 0), (2, vr 13 0), (3, vi v3)]) (st' := [vi (v3 + 1), vr 0 0, vr 12 0]) (μ' := μ) (pc' := 810) [(.aload_n 1, 0, 0, 0, 0), (.aload_n 0, 0, 0, 0, 0), (.iload_n 3, 0, 0, 0, 0), (.iconst 1, 0, 0, 1, 0), (.iadd, 0, 0, 0, 0)] (by decide +kernel) rfl rfl ?_
        refine sCk oI rfl (fun h130 => ?_)
        refine sSl (by decide +kernel) h130 ?_
        refine sCvI oI rfl (ci := 11) (q := (12, 0)) (avs := [vi (rI μ 0 0 (ix (v3 + 1)))]) (rest := []) (tX11_copyStored (rI μ 0 0 (ix (v3 + 1))) μ) (by decide) (by decide +kernel) lk_13_93 yv_X11_copyStored rfl (by decide) rfl rfl rfl (Nat.le_of_ble_eq_true rfl) (fun x131 μ132 => ?_)
        refine sBk (lo' := [(0, vr 0 0), (1, vr 12 0), (2, vr 13 0), (3, vi v3)]) (st' := [vi (v3 + 1), vr 0 0, vr 13 0, vi x131]) (μ' := μ132) (pc' := 819) [(.aload_n 2, 0, 0, 0, 0), (.aload_n 0, 0, 0, 0, 0), (.iload_n 3, 0, 0, 0, 0), (.iconst 1, 0, 0, 1, 0), (.iadd, 0, 0, 0, 0)] (by decide +kernel) rfl rfl ?_
        refine sCk oI rfl (fun h133 => ?_)
        refine sSl (by decide +kernel) h133 ?_
        refine sCvI oI rfl (ci := 12) (q := (13, 0)) (avs := [vi (rI μ132 0 0 (ix (v3 + 1)))]) (rest := [vi x131]) (tX12_copyStored (rI μ132 0 0 (ix (v3 + 1))) μ132) (by decide) (by decide +kernel) lk_13_96 yv_X12_copyStored rfl (by decide) rfl rfl rfl (Nat.le_of_ble_eq_true rfl) (fun x134 μ135 => ?_)
        refine sIc_eq oI (off := 1033) (tgt := 1856) (by decide +kernel) (by decide) (fun _ => ?_) (fun _ => ?_)
        · exact L_law_J1856_ok ih v3 μ135
        · refine sBk (lo' := [(0, vr 0 0), (1, vr 12 0), (2, vr 13 0), (3, vi v3)]) (st' := [vi 0]) (μ' := μ135) (pc' := 827) [(.iconst 0, 0, 0, 0, 0)] (by decide +kernel) rfl rfl ?_
          exact sRi (by decide +kernel) (fun _ => Or.inl rfl)
      refine sSc oI (fun _ => ?_) (fun _ => ?_)
      · refine sBk (lo' := [(0, vr 0 0), (1, vr 12 0), (2, vr 13 0), (3, vi v3)]) (st' := [vi (v3 + 1), vr 0 0, vr 12 0]) (μ' := μ) (pc' := 833) [(.aload_n 1, 0, 0, 0, 0), (.aload_n 0, 0, 0, 0, 0), (.iload_n 3, 0, 0, 0, 0), (.iconst 1, 0, 0, 1, 0), (.iadd, 0, 0, 0, 0)] (by decide +kernel) rfl rfl ?_
        refine sCk oI rfl (fun h136 => ?_)
        refine sSl (by decide +kernel) h136 ?_
        refine sCvI oI rfl (ci := 11) (q := (12, 0)) (avs := [vi (rI μ 0 0 (ix (v3 + 1)))]) (rest := []) (tX11_hour (rI μ 0 0 (ix (v3 + 1))) μ) (by decide) (by decide +kernel) lk_13_97 yv_X11_hour rfl (by decide) rfl rfl rfl (Nat.le_of_ble_eq_true rfl) (fun x137 μ138 => ?_)
        refine sBk (lo' := [(0, vr 0 0), (1, vr 12 0), (2, vr 13 0), (3, vi v3)]) (st' := [vi (v3 + 1), vr 0 0, vr 13 0, vi x137]) (μ' := μ138) (pc' := 842) [(.aload_n 2, 0, 0, 0, 0), (.aload_n 0, 0, 0, 0, 0), (.iload_n 3, 0, 0, 0, 0), (.iconst 1, 0, 0, 1, 0), (.iadd, 0, 0, 0, 0)] (by decide +kernel) rfl rfl ?_
        refine sCk oI rfl (fun h139 => ?_)
        refine sSl (by decide +kernel) h139 ?_
        refine sCvI oI rfl (ci := 12) (q := (13, 0)) (avs := [vi (rI μ138 0 0 (ix (v3 + 1)))]) (rest := [vi x137]) (tX12_hour (rI μ138 0 0 (ix (v3 + 1))) μ138) (by decide) (by decide +kernel) lk_13_100 yv_X12_hour rfl (by decide) rfl rfl rfl (Nat.le_of_ble_eq_true rfl) (fun x140 μ141 => ?_)
        refine sIc_eq oI (off := 1010) (tgt := 1856) (by decide +kernel) (by decide) (fun _ => ?_) (fun _ => ?_)
        · exact L_law_J1856_ok ih v3 μ141
        · refine sBk (lo' := [(0, vr 0 0), (1, vr 12 0), (2, vr 13 0), (3, vi v3)]) (st' := [vi 0]) (μ' := μ141) (pc' := 850) [(.iconst 0, 0, 0, 0, 0)] (by decide +kernel) rfl rfl ?_
          exact sRi (by decide +kernel) (fun _ => Or.inl rfl)
      refine sSc oI (fun _ => ?_) (fun _ => ?_)
      · refine sBk (lo' := [(0, vr 0 0), (1, vr 12 0), (2, vr 13 0), (3, vi v3)]) (st' := [vi (v3 + 1), vr 0 0, vr 12 0]) (μ' := μ) (pc' := 856) [(.aload_n 1, 0, 0, 0, 0), (.aload_n 0, 0, 0, 0, 0), (.iload_n 3, 0, 0, 0, 0), (.iconst 1, 0, 0, 1, 0), (.iadd, 0, 0, 0, 0)] (by decide +kernel) rfl rfl ?_
        refine sCk oI rfl (fun h142 => ?_)
        refine sSl (by decide +kernel) h142 ?_
        refine sBk (lo' := [(0, vr 0 0), (1, vr 12 0), (2, vr 13 0), (3, vi v3)]) (st' := [vi (v3 + 2), vr 0 0, vi (rI μ 0 0 (ix (v3 + 1))), vr 12 0]) (μ' := μ) (pc' := 861) [(.aload_n 0, 0, 0, 0, 0), (.iload_n 3, 0, 0, 0, 0), (.iconst 2, 0, 0, 2, 0), (.iadd, 0, 0, 0, 0)] (by decide +kernel) rfl rfl ?_
        refine sCk oI rfl (fun h143 => ?_)
        refine sSl (by decide +kernel) h143 ?_
        refine sIf_eq oI (off := 7) (tgt := 869) (by decide +kernel) (by decide) (fun _ => ?_) (fun _ => ?_)
        · refine sBk (lo' := [(0, vr 0 0), (1, vr 12 0), (2, vr 13 0), (3, vi v3)]) (st' := [vi 0, vi (rI μ 0 0 (ix (v3 + 1))), vr 12 0]) (μ' := μ) (pc' := 870) [(.iconst 0, 0, 0, 0, 0)] (by decide +kernel) rfl rfl ?_
          exact L_law_J870_ok ih v3 0 (rI μ 0 0 (ix (v3 + 1))) μ
        · refine sBk (lo' := [(0, vr 0 0), (1, vr 12 0), (2, vr 13 0), (3, vi v3)]) (st' := [vi 1, vi (rI μ 0 0 (ix (v3 + 1))), vr 12 0]) (μ' := μ) (pc' := 866) [(.iconst 1, 0, 0, 1, 0)] (by decide +kernel) rfl rfl ?_
          refine sGt (off := 4) (tgt := 870) (by decide +kernel) (by decide) ?_
          exact L_law_J870_ok ih v3 1 (rI μ 0 0 (ix (v3 + 1))) μ
      refine sSc oI (fun _ => ?_) (fun _ => ?_)
      · refine sBk (lo' := [(0, vr 0 0), (1, vr 12 0), (2, vr 13 0), (3, vi v3)]) (st' := [vr 12 0]) (μ' := μ) (pc' := 901) [(.aload_n 1, 0, 0, 0, 0)] (by decide +kernel) rfl rfl ?_
        refine sCvI oI rfl (ci := 11) (q := (12, 0)) (avs := []) (rest := []) (tX11_oil μ) (by decide) (by decide +kernel) lk_13_106 yv_X11_oil rfl (by decide) rfl rfl rfl (Nat.le_of_ble_eq_true rfl) (fun x144 μ145 => ?_)
        refine sBk (lo' := [(0, vr 0 0), (1, vr 12 0), (2, vr 13 0), (3, vi v3)]) (st' := [vr 13 0, vi x144]) (μ' := μ145) (pc' := 905) [(.aload_n 2, 0, 0, 0, 0)] (by decide +kernel) rfl rfl ?_
        refine sCvI oI rfl (ci := 12) (q := (13, 0)) (avs := []) (rest := [vi x144]) (tX12_oil μ145) (by decide) (by decide +kernel) lk_13_109 yv_X12_oil rfl (by decide) rfl rfl rfl (Nat.le_of_ble_eq_true rfl) (fun x146 μ147 => ?_)
        refine sIc_eq oI (off := 948) (tgt := 1856) (by decide +kernel) (by decide) (fun _ => ?_) (fun _ => ?_)
        · exact L_law_J1856_ok ih v3 μ147
        · refine sBk (lo' := [(0, vr 0 0), (1, vr 12 0), (2, vr 13 0), (3, vi v3)]) (st' := [vi 0]) (μ' := μ147) (pc' := 912) [(.iconst 0, 0, 0, 0, 0)] (by decide +kernel) rfl rfl ?_
          exact sRi (by decide +kernel) (fun _ => Or.inl rfl)
      refine sSc oI (fun _ => ?_) (fun _ => ?_)
      · refine sBk (lo' := [(0, vr 0 0), (1, vr 12 0), (2, vr 13 0), (3, vi v3)]) (st' := [vi (v3 + 1), vr 0 0, vr 12 0]) (μ' := μ) (pc' := 918) [(.aload_n 1, 0, 0, 0, 0), (.aload_n 0, 0, 0, 0, 0), (.iload_n 3, 0, 0, 0, 0), (.iconst 1, 0, 0, 1, 0), (.iadd, 0, 0, 0, 0)] (by decide +kernel) rfl rfl ?_
        refine sCk oI rfl (fun h148 => ?_)
        refine sSl (by decide +kernel) h148 ?_
        refine sBk (lo' := [(0, vr 0 0), (1, vr 12 0), (2, vr 13 0), (3, vi v3)]) (st' := [vi (v3 + 2), vr 0 0, vi (rI μ 0 0 (ix (v3 + 1))), vr 12 0]) (μ' := μ) (pc' := 923) [(.aload_n 0, 0, 0, 0, 0), (.iload_n 3, 0, 0, 0, 0), (.iconst 2, 0, 0, 2, 0), (.iadd, 0, 0, 0, 0)] (by decide +kernel) rfl rfl ?_
        refine sCk oI rfl (fun h149 => ?_)
        refine sSl (by decide +kernel) h149 ?_
        refine sCvI oI rfl (ci := 11) (q := (12, 0)) (avs := [vi (rI μ 0 0 (ix (v3 + 1))), vi (rI μ 0 0 (ix (v3 + 2)))]) (rest := []) (tX11_gate (rI μ 0 0 (ix (v3 + 1))) (rI μ 0 0 (ix (v3 + 2))) μ) (by decide) (by decide +kernel) lk_13_110 yv_X11_gate rfl (by decide) rfl rfl rfl (Nat.le_of_ble_eq_true rfl) (fun x150 μ151 => ?_)
        refine sBk (lo' := [(0, vr 0 0), (1, vr 12 0), (2, vr 13 0), (3, vi v3)]) (st' := [vi (v3 + 1), vr 0 0, vr 13 0, vi x150]) (μ' := μ151) (pc' := 932) [(.aload_n 2, 0, 0, 0, 0), (.aload_n 0, 0, 0, 0, 0), (.iload_n 3, 0, 0, 0, 0), (.iconst 1, 0, 0, 1, 0), (.iadd, 0, 0, 0, 0)] (by decide +kernel) rfl rfl ?_
        refine sCk oI rfl (fun h152 => ?_)
        refine sSl (by decide +kernel) h152 ?_
        refine sBk (lo' := [(0, vr 0 0), (1, vr 12 0), (2, vr 13 0), (3, vi v3)]) (st' := [vi (v3 + 2), vr 0 0, vi (rI μ151 0 0 (ix (v3 + 1))), vr 13 0, vi x150]) (μ' := μ151) (pc' := 937) [(.aload_n 0, 0, 0, 0, 0), (.iload_n 3, 0, 0, 0, 0), (.iconst 2, 0, 0, 2, 0), (.iadd, 0, 0, 0, 0)] (by decide +kernel) rfl rfl ?_
        refine sCk oI rfl (fun h153 => ?_)
        refine sSl (by decide +kernel) h153 ?_
        refine sCvI oI rfl (ci := 12) (q := (13, 0)) (avs := [vi (rI μ151 0 0 (ix (v3 + 1))), vi (rI μ151 0 0 (ix (v3 + 2)))]) (rest := [vi x150]) (tX12_gate (rI μ151 0 0 (ix (v3 + 1))) (rI μ151 0 0 (ix (v3 + 2))) μ151) (by decide) (by decide +kernel) lk_13_113 yv_X12_gate rfl (by decide) rfl rfl rfl (Nat.le_of_ble_eq_true rfl) (fun x154 μ155 => ?_)
        refine sIc_eq oI (off := 915) (tgt := 1856) (by decide +kernel) (by decide) (fun _ => ?_) (fun _ => ?_)
        · exact L_law_J1856_ok ih v3 μ155
        · refine sBk (lo' := [(0, vr 0 0), (1, vr 12 0), (2, vr 13 0), (3, vi v3)]) (st' := [vi 0]) (μ' := μ155) (pc' := 945) [(.iconst 0, 0, 0, 0, 0)] (by decide +kernel) rfl rfl ?_
          exact sRi (by decide +kernel) (fun _ => Or.inl rfl)
      refine sSc oI (fun _ => ?_) (fun _ => ?_)
      · refine sBk (lo' := [(0, vr 0 0), (1, vr 12 0), (2, vr 13 0), (3, vi v3)]) (st' := [vi (v3 + 1), vr 0 0, vr 12 0]) (μ' := μ) (pc' := 951) [(.aload_n 1, 0, 0, 0, 0), (.aload_n 0, 0, 0, 0, 0), (.iload_n 3, 0, 0, 0, 0), (.iconst 1, 0, 0, 1, 0), (.iadd, 0, 0, 0, 0)] (by decide +kernel) rfl rfl ?_
        refine sCk oI rfl (fun h156 => ?_)
        refine sSl (by decide +kernel) h156 ?_
        refine sIf_eq oI (off := 7) (tgt := 959) (by decide +kernel) (by decide) (fun _ => ?_) (fun _ => ?_)
        · refine sBk (lo' := [(0, vr 0 0), (1, vr 12 0), (2, vr 13 0), (3, vi v3)]) (st' := [vi 0, vr 12 0]) (μ' := μ) (pc' := 960) [(.iconst 0, 0, 0, 0, 0)] (by decide +kernel) rfl rfl ?_
          exact L_law_J960_ok ih v3 0 μ
        · refine sBk (lo' := [(0, vr 0 0), (1, vr 12 0), (2, vr 13 0), (3, vi v3)]) (st' := [vi 1, vr 12 0]) (μ' := μ) (pc' := 956) [(.iconst 1, 0, 0, 1, 0)] (by decide +kernel) rfl rfl ?_
          refine sGt (off := 4) (tgt := 960) (by decide +kernel) (by decide) ?_
          exact L_law_J960_ok ih v3 1 μ
      refine sSc oI (fun _ => ?_) (fun _ => ?_)
      · refine sBk (lo' := [(0, vr 0 0), (1, vr 12 0), (2, vr 13 0), (3, vi v3)]) (st' := [vi (v3 + 1), vr 0 0, vr 12 0]) (μ' := μ) (pc' := 990) [(.aload_n 1, 0, 0, 0, 0), (.aload_n 0, 0, 0, 0, 0), (.iload_n 3, 0, 0, 0, 0), (.iconst 1, 0, 0, 1, 0), (.iadd, 0, 0, 0, 0)] (by decide +kernel) rfl rfl ?_
        refine sCk oI rfl (fun h157 => ?_)
        refine sSl (by decide +kernel) h157 ?_
        refine sBk (lo' := [(0, vr 0 0), (1, vr 12 0), (2, vr 13 0), (3, vi v3)]) (st' := [vi (v3 + 2), vr 0 0, vi (rI μ 0 0 (ix (v3 + 1))), vr 12 0]) (μ' := μ) (pc' := 995) [(.aload_n 0, 0, 0, 0, 0), (.iload_n 3, 0, 0, 0, 0), (.iconst 2, 0, 0, 2, 0), (.iadd, 0, 0, 0, 0)] (by decide +kernel) rfl rfl ?_
        refine sCk oI rfl (fun h158 => ?_)
        refine sSl (by decide +kernel) h158 ?_
        refine sCvI oI rfl (ci := 11) (q := (12, 0)) (avs := [vi (rI μ 0 0 (ix (v3 + 1))), vi (rI μ 0 0 (ix (v3 + 2)))]) (rest := []) (tX11_bring (rI μ 0 0 (ix (v3 + 1))) (rI μ 0 0 (ix (v3 + 2))) μ) (by decide) (by decide +kernel) lk_13_119 yv_X11_bring rfl (by decide) rfl rfl rfl (Nat.le_of_ble_eq_true rfl) (fun x159 μ160 => ?_)
        refine sBk (lo' := [(0, vr 0 0), (1, vr 12 0), (2, vr 13 0), (3, vi v3)]) (st' := [vi (v3 + 1), vr 0 0, vr 13 0, vi x159]) (μ' := μ160) (pc' := 1004) [(.aload_n 2, 0, 0, 0, 0), (.aload_n 0, 0, 0, 0, 0), (.iload_n 3, 0, 0, 0, 0), (.iconst 1, 0, 0, 1, 0), (.iadd, 0, 0, 0, 0)] (by decide +kernel) rfl rfl ?_
        refine sCk oI rfl (fun h161 => ?_)
        refine sSl (by decide +kernel) h161 ?_
        refine sBk (lo' := [(0, vr 0 0), (1, vr 12 0), (2, vr 13 0), (3, vi v3)]) (st' := [vi (v3 + 2), vr 0 0, vi (rI μ160 0 0 (ix (v3 + 1))), vr 13 0, vi x159]) (μ' := μ160) (pc' := 1009) [(.aload_n 0, 0, 0, 0, 0), (.iload_n 3, 0, 0, 0, 0), (.iconst 2, 0, 0, 2, 0), (.iadd, 0, 0, 0, 0)] (by decide +kernel) rfl rfl ?_
        refine sCk oI rfl (fun h162 => ?_)
        refine sSl (by decide +kernel) h162 ?_
        refine sCvI oI rfl (ci := 12) (q := (13, 0)) (avs := [vi (rI μ160 0 0 (ix (v3 + 1))), vi (rI μ160 0 0 (ix (v3 + 2)))]) (rest := [vi x159]) (tX12_bring (rI μ160 0 0 (ix (v3 + 1))) (rI μ160 0 0 (ix (v3 + 2))) μ160) (by decide) (by decide +kernel) lk_13_122 yv_X12_bring rfl (by decide) rfl rfl rfl (Nat.le_of_ble_eq_true rfl) (fun x163 μ164 => ?_)
        refine sIc_eq oI (off := 843) (tgt := 1856) (by decide +kernel) (by decide) (fun _ => ?_) (fun _ => ?_)
        · exact L_law_J1856_ok ih v3 μ164
        · refine sBk (lo' := [(0, vr 0 0), (1, vr 12 0), (2, vr 13 0), (3, vi v3)]) (st' := [vi 0]) (μ' := μ164) (pc' := 1017) [(.iconst 0, 0, 0, 0, 0)] (by decide +kernel) rfl rfl ?_
          exact sRi (by decide +kernel) (fun _ => Or.inl rfl)
      refine sSc oI (fun _ => ?_) (fun _ => ?_)
      · refine sBk (lo' := [(0, vr 0 0), (1, vr 12 0), (2, vr 13 0), (3, vi v3)]) (st' := [vi (v3 + 1), vr 0 0, vr 12 0]) (μ' := μ) (pc' := 1023) [(.aload_n 1, 0, 0, 0, 0), (.aload_n 0, 0, 0, 0, 0), (.iload_n 3, 0, 0, 0, 0), (.iconst 1, 0, 0, 1, 0), (.iadd, 0, 0, 0, 0)] (by decide +kernel) rfl rfl ?_
        refine sCk oI rfl (fun h165 => ?_)
        refine sSl (by decide +kernel) h165 ?_
        refine sBk (lo' := [(0, vr 0 0), (1, vr 12 0), (2, vr 13 0), (3, vi v3)]) (st' := [vi (v3 + 2), vr 0 0, vi (rI μ 0 0 (ix (v3 + 1))), vr 12 0]) (μ' := μ) (pc' := 1028) [(.aload_n 0, 0, 0, 0, 0), (.iload_n 3, 0, 0, 0, 0), (.iconst 2, 0, 0, 2, 0), (.iadd, 0, 0, 0, 0)] (by decide +kernel) rfl rfl ?_
        refine sCk oI rfl (fun h166 => ?_)
        refine sSl (by decide +kernel) h166 ?_
        refine sCvI oI rfl (ci := 11) (q := (12, 0)) (avs := [vi (rI μ 0 0 (ix (v3 + 1))), vi (rI μ 0 0 (ix (v3 + 2)))]) (rest := []) (tX11_rule (rI μ 0 0 (ix (v3 + 1))) (rI μ 0 0 (ix (v3 + 2))) μ) (by decide) (by decide +kernel) lk_13_123 yv_X11_rule rfl (by decide) rfl rfl rfl (Nat.le_of_ble_eq_true rfl) (fun x167 μ168 => ?_)
        refine sBk (lo' := [(0, vr 0 0), (1, vr 12 0), (2, vr 13 0), (3, vi v3)]) (st' := [vi (v3 + 1), vr 0 0, vr 13 0, vi x167]) (μ' := μ168) (pc' := 1037) [(.aload_n 2, 0, 0, 0, 0), (.aload_n 0, 0, 0, 0, 0), (.iload_n 3, 0, 0, 0, 0), (.iconst 1, 0, 0, 1, 0), (.iadd, 0, 0, 0, 0)] (by decide +kernel) rfl rfl ?_
        refine sCk oI rfl (fun h169 => ?_)
        refine sSl (by decide +kernel) h169 ?_
        refine sBk (lo' := [(0, vr 0 0), (1, vr 12 0), (2, vr 13 0), (3, vi v3)]) (st' := [vi (v3 + 2), vr 0 0, vi (rI μ168 0 0 (ix (v3 + 1))), vr 13 0, vi x167]) (μ' := μ168) (pc' := 1042) [(.aload_n 0, 0, 0, 0, 0), (.iload_n 3, 0, 0, 0, 0), (.iconst 2, 0, 0, 2, 0), (.iadd, 0, 0, 0, 0)] (by decide +kernel) rfl rfl ?_
        refine sCk oI rfl (fun h170 => ?_)
        refine sSl (by decide +kernel) h170 ?_
        refine sCvI oI rfl (ci := 12) (q := (13, 0)) (avs := [vi (rI μ168 0 0 (ix (v3 + 1))), vi (rI μ168 0 0 (ix (v3 + 2)))]) (rest := [vi x167]) (tX12_rule (rI μ168 0 0 (ix (v3 + 1))) (rI μ168 0 0 (ix (v3 + 2))) μ168) (by decide) (by decide +kernel) lk_13_127 yv_X12_rule rfl (by decide) rfl rfl rfl (Nat.le_of_ble_eq_true rfl) (fun x171 μ172 => ?_)
        refine sIc_eq oI (off := 810) (tgt := 1856) (by decide +kernel) (by decide) (fun _ => ?_) (fun _ => ?_)
        · exact L_law_J1856_ok ih v3 μ172
        · refine sBk (lo' := [(0, vr 0 0), (1, vr 12 0), (2, vr 13 0), (3, vi v3)]) (st' := [vi 0]) (μ' := μ172) (pc' := 1050) [(.iconst 0, 0, 0, 0, 0)] (by decide +kernel) rfl rfl ?_
          exact sRi (by decide +kernel) (fun _ => Or.inl rfl)
      refine sSc oI (fun _ => ?_) (fun _ => ?_)
      · refine sBk (lo' := [(0, vr 0 0), (1, vr 12 0), (2, vr 13 0), (3, vi v3)]) (st' := [vi (v3 + 1), vr 0 0, vr 12 0]) (μ' := μ) (pc' := 1056) [(.aload_n 1, 0, 0, 0, 0), (.aload_n 0, 0, 0, 0, 0), (.iload_n 3, 0, 0, 0, 0), (.iconst 1, 0, 0, 1, 0), (.iadd, 0, 0, 0, 0)] (by decide +kernel) rfl rfl ?_
        refine sCk oI rfl (fun h173 => ?_)
        refine sSl (by decide +kernel) h173 ?_
        refine sBk (lo' := [(0, vr 0 0), (1, vr 12 0), (2, vr 13 0), (3, vi v3)]) (st' := [vi (v3 + 2), vr 0 0, vi (rI μ 0 0 (ix (v3 + 1))), vr 12 0]) (μ' := μ) (pc' := 1061) [(.aload_n 0, 0, 0, 0, 0), (.iload_n 3, 0, 0, 0, 0), (.iconst 2, 0, 0, 2, 0), (.iadd, 0, 0, 0, 0)] (by decide +kernel) rfl rfl ?_
        refine sCk oI rfl (fun h174 => ?_)
        refine sSl (by decide +kernel) h174 ?_
        refine sCvI oI rfl (ci := 11) (q := (12, 0)) (avs := [vi (rI μ 0 0 (ix (v3 + 1))), vi (rI μ 0 0 (ix (v3 + 2)))]) (rest := []) (tX11_build (rI μ 0 0 (ix (v3 + 1))) (rI μ 0 0 (ix (v3 + 2))) μ) (by decide) (by decide +kernel) lk_13_128 yv_X11_build rfl (by decide) rfl rfl rfl (Nat.le_of_ble_eq_true rfl) (fun x175 μ176 => ?_)
        refine sBk (lo' := [(0, vr 0 0), (1, vr 12 0), (2, vr 13 0), (3, vi v3)]) (st' := [vi (v3 + 1), vr 0 0, vr 13 0, vi x175]) (μ' := μ176) (pc' := 1070) [(.aload_n 2, 0, 0, 0, 0), (.aload_n 0, 0, 0, 0, 0), (.iload_n 3, 0, 0, 0, 0), (.iconst 1, 0, 0, 1, 0), (.iadd, 0, 0, 0, 0)] (by decide +kernel) rfl rfl ?_
        refine sCk oI rfl (fun h177 => ?_)
        refine sSl (by decide +kernel) h177 ?_
        refine sBk (lo' := [(0, vr 0 0), (1, vr 12 0), (2, vr 13 0), (3, vi v3)]) (st' := [vi (v3 + 2), vr 0 0, vi (rI μ176 0 0 (ix (v3 + 1))), vr 13 0, vi x175]) (μ' := μ176) (pc' := 1075) [(.aload_n 0, 0, 0, 0, 0), (.iload_n 3, 0, 0, 0, 0), (.iconst 2, 0, 0, 2, 0), (.iadd, 0, 0, 0, 0)] (by decide +kernel) rfl rfl ?_
        refine sCk oI rfl (fun h178 => ?_)
        refine sSl (by decide +kernel) h178 ?_
        refine sCvI oI rfl (ci := 12) (q := (13, 0)) (avs := [vi (rI μ176 0 0 (ix (v3 + 1))), vi (rI μ176 0 0 (ix (v3 + 2)))]) (rest := [vi x175]) (tX12_build (rI μ176 0 0 (ix (v3 + 1))) (rI μ176 0 0 (ix (v3 + 2))) μ176) (by decide) (by decide +kernel) lk_13_131 yv_X12_build rfl (by decide) rfl rfl rfl (Nat.le_of_ble_eq_true rfl) (fun x179 μ180 => ?_)
        refine sIc_eq oI (off := 777) (tgt := 1856) (by decide +kernel) (by decide) (fun _ => ?_) (fun _ => ?_)
        · exact L_law_J1856_ok ih v3 μ180
        · refine sBk (lo' := [(0, vr 0 0), (1, vr 12 0), (2, vr 13 0), (3, vi v3)]) (st' := [vi 0]) (μ' := μ180) (pc' := 1083) [(.iconst 0, 0, 0, 0, 0)] (by decide +kernel) rfl rfl ?_
          exact sRi (by decide +kernel) (fun _ => Or.inl rfl)
      refine sSc oI (fun _ => ?_) (fun _ => ?_)
      · refine sBk (lo' := [(0, vr 0 0), (1, vr 12 0), (2, vr 13 0), (3, vi v3)]) (st' := [vi (v3 + 1), vr 0 0, vr 12 0]) (μ' := μ) (pc' := 1089) [(.aload_n 1, 0, 0, 0, 0), (.aload_n 0, 0, 0, 0, 0), (.iload_n 3, 0, 0, 0, 0), (.iconst 1, 0, 0, 1, 0), (.iadd, 0, 0, 0, 0)] (by decide +kernel) rfl rfl ?_
        refine sCk oI rfl (fun h181 => ?_)
        refine sSl (by decide +kernel) h181 ?_
        refine sBk (lo' := [(0, vr 0 0), (1, vr 12 0), (2, vr 13 0), (3, vi v3)]) (st' := [vi (v3 + 2), vr 0 0, vi (rI μ 0 0 (ix (v3 + 1))), vr 12 0]) (μ' := μ) (pc' := 1094) [(.aload_n 0, 0, 0, 0, 0), (.iload_n 3, 0, 0, 0, 0), (.iconst 2, 0, 0, 2, 0), (.iadd, 0, 0, 0, 0)] (by decide +kernel) rfl rfl ?_
        refine sCk oI rfl (fun h182 => ?_)
        refine sSl (by decide +kernel) h182 ?_
        refine sCvI oI rfl (ci := 11) (q := (12, 0)) (avs := [vi (rI μ 0 0 (ix (v3 + 1))), vi (rI μ 0 0 (ix (v3 + 2)))]) (rest := []) (tX11_train (rI μ 0 0 (ix (v3 + 1))) (rI μ 0 0 (ix (v3 + 2))) μ) (by decide) (by decide +kernel) lk_13_132 yv_X11_train rfl (by decide) rfl rfl rfl (Nat.le_of_ble_eq_true rfl) (fun x183 μ184 => ?_)
        refine sBk (lo' := [(0, vr 0 0), (1, vr 12 0), (2, vr 13 0), (3, vi v3)]) (st' := [vi (v3 + 1), vr 0 0, vr 13 0, vi x183]) (μ' := μ184) (pc' := 1103) [(.aload_n 2, 0, 0, 0, 0), (.aload_n 0, 0, 0, 0, 0), (.iload_n 3, 0, 0, 0, 0), (.iconst 1, 0, 0, 1, 0), (.iadd, 0, 0, 0, 0)] (by decide +kernel) rfl rfl ?_
        refine sCk oI rfl (fun h185 => ?_)
        refine sSl (by decide +kernel) h185 ?_
        refine sBk (lo' := [(0, vr 0 0), (1, vr 12 0), (2, vr 13 0), (3, vi v3)]) (st' := [vi (v3 + 2), vr 0 0, vi (rI μ184 0 0 (ix (v3 + 1))), vr 13 0, vi x183]) (μ' := μ184) (pc' := 1108) [(.aload_n 0, 0, 0, 0, 0), (.iload_n 3, 0, 0, 0, 0), (.iconst 2, 0, 0, 2, 0), (.iadd, 0, 0, 0, 0)] (by decide +kernel) rfl rfl ?_
        refine sCk oI rfl (fun h186 => ?_)
        refine sSl (by decide +kernel) h186 ?_
        refine sCvI oI rfl (ci := 12) (q := (13, 0)) (avs := [vi (rI μ184 0 0 (ix (v3 + 1))), vi (rI μ184 0 0 (ix (v3 + 2)))]) (rest := [vi x183]) (tX12_train (rI μ184 0 0 (ix (v3 + 1))) (rI μ184 0 0 (ix (v3 + 2))) μ184) (by decide) (by decide +kernel) lk_13_135 yv_X12_train rfl (by decide) rfl rfl rfl (Nat.le_of_ble_eq_true rfl) (fun x187 μ188 => ?_)
        refine sIc_eq oI (off := 744) (tgt := 1856) (by decide +kernel) (by decide) (fun _ => ?_) (fun _ => ?_)
        · exact L_law_J1856_ok ih v3 μ188
        · refine sBk (lo' := [(0, vr 0 0), (1, vr 12 0), (2, vr 13 0), (3, vi v3)]) (st' := [vi 0]) (μ' := μ188) (pc' := 1116) [(.iconst 0, 0, 0, 0, 0)] (by decide +kernel) rfl rfl ?_
          exact sRi (by decide +kernel) (fun _ => Or.inl rfl)
      refine sSc oI (fun _ => ?_) (fun _ => ?_)
      · refine sBk (lo' := [(0, vr 0 0), (1, vr 12 0), (2, vr 13 0), (3, vi v3)]) (st' := [vi (v3 + 1), vr 0 0, vr 12 0]) (μ' := μ) (pc' := 1122) [(.aload_n 1, 0, 0, 0, 0), (.aload_n 0, 0, 0, 0, 0), (.iload_n 3, 0, 0, 0, 0), (.iconst 1, 0, 0, 1, 0), (.iadd, 0, 0, 0, 0)] (by decide +kernel) rfl rfl ?_
        refine sCk oI rfl (fun h189 => ?_)
        refine sSl (by decide +kernel) h189 ?_
        refine sCvI oI rfl (ci := 11) (q := (12, 0)) (avs := [vi (rI μ 0 0 (ix (v3 + 1)))]) (rest := []) (tX11_turnsIn (rI μ 0 0 (ix (v3 + 1))) μ) (by decide) (by decide +kernel) lk_13_136 yv_X11_turnsIn rfl (by decide) rfl rfl rfl (Nat.le_of_ble_eq_true rfl) (fun x190 μ191 => ?_)
        refine sBk (lo' := [(0, vr 0 0), (1, vr 12 0), (2, vr 13 0), (3, vi v3)]) (st' := [vi (v3 + 1), vr 0 0, vr 13 0, vi x190]) (μ' := μ191) (pc' := 1131) [(.aload_n 2, 0, 0, 0, 0), (.aload_n 0, 0, 0, 0, 0), (.iload_n 3, 0, 0, 0, 0), (.iconst 1, 0, 0, 1, 0), (.iadd, 0, 0, 0, 0)] (by decide +kernel) rfl rfl ?_
        refine sCk oI rfl (fun h192 => ?_)
        refine sSl (by decide +kernel) h192 ?_
        refine sCvI oI rfl (ci := 12) (q := (13, 0)) (avs := [vi (rI μ191 0 0 (ix (v3 + 1)))]) (rest := [vi x190]) (tX12_turnsIn (rI μ191 0 0 (ix (v3 + 1))) μ191) (by decide) (by decide +kernel) lk_13_139 yv_X12_turnsIn rfl (by decide) rfl rfl rfl (Nat.le_of_ble_eq_true rfl) (fun x193 μ194 => ?_)
        refine sIc_eq oI (off := 721) (tgt := 1856) (by decide +kernel) (by decide) (fun _ => ?_) (fun _ => ?_)
        · exact L_law_J1856_ok ih v3 μ194
        · refine sBk (lo' := [(0, vr 0 0), (1, vr 12 0), (2, vr 13 0), (3, vi v3)]) (st' := [vi 0]) (μ' := μ194) (pc' := 1139) [(.iconst 0, 0, 0, 0, 0)] (by decide +kernel) rfl rfl ?_
          exact sRi (by decide +kernel) (fun _ => Or.inl rfl)
      refine sSc oI (fun _ => ?_) (fun _ => ?_)
      · refine sBk (lo' := [(0, vr 0 0), (1, vr 12 0), (2, vr 13 0), (3, vi v3)]) (st' := [vi (v3 + 1), vr 0 0, vr 12 0]) (μ' := μ) (pc' := 1145) [(.aload_n 1, 0, 0, 0, 0), (.aload_n 0, 0, 0, 0, 0), (.iload_n 3, 0, 0, 0, 0), (.iconst 1, 0, 0, 1, 0), (.iadd, 0, 0, 0, 0)] (by decide +kernel) rfl rfl ?_
        refine sCk oI rfl (fun h195 => ?_)
        refine sSl (by decide +kernel) h195 ?_
        refine sBk (lo' := [(0, vr 0 0), (1, vr 12 0), (2, vr 13 0), (3, vi v3)]) (st' := [vi (v3 + 2), vr 0 0, vi (rI μ 0 0 (ix (v3 + 1))), vr 12 0]) (μ' := μ) (pc' := 1150) [(.aload_n 0, 0, 0, 0, 0), (.iload_n 3, 0, 0, 0, 0), (.iconst 2, 0, 0, 2, 0), (.iadd, 0, 0, 0, 0)] (by decide +kernel) rfl rfl ?_
        refine sCk oI rfl (fun h196 => ?_)
        refine sSl (by decide +kernel) h196 ?_
        refine sCvI oI rfl (ci := 11) (q := (12, 0)) (avs := [vi (rI μ 0 0 (ix (v3 + 1))), vi (rI μ 0 0 (ix (v3 + 2)))]) (rest := []) (tX11_storedIn (rI μ 0 0 (ix (v3 + 1))) (rI μ 0 0 (ix (v3 + 2))) μ) (by decide) (by decide +kernel) lk_13_140 yv_X11_storedIn rfl (by decide) rfl rfl rfl (Nat.le_of_ble_eq_true rfl) (fun x197 μ198 => ?_)
        refine sBk (lo' := [(0, vr 0 0), (1, vr 12 0), (2, vr 13 0), (3, vi v3)]) (st' := [vi (v3 + 1), vr 0 0, vr 13 0, vi x197]) (μ' := μ198) (pc' := 1159) [(.aload_n 2, 0, 0, 0, 0), (.aload_n 0, 0, 0, 0, 0), (.iload_n 3, 0, 0, 0, 0), (.iconst 1, 0, 0, 1, 0), (.iadd, 0, 0, 0, 0)] (by decide +kernel) rfl rfl ?_
        refine sCk oI rfl (fun h199 => ?_)
        refine sSl (by decide +kernel) h199 ?_
        refine sBk (lo' := [(0, vr 0 0), (1, vr 12 0), (2, vr 13 0), (3, vi v3)]) (st' := [vi (v3 + 2), vr 0 0, vi (rI μ198 0 0 (ix (v3 + 1))), vr 13 0, vi x197]) (μ' := μ198) (pc' := 1164) [(.aload_n 0, 0, 0, 0, 0), (.iload_n 3, 0, 0, 0, 0), (.iconst 2, 0, 0, 2, 0), (.iadd, 0, 0, 0, 0)] (by decide +kernel) rfl rfl ?_
        refine sCk oI rfl (fun h200 => ?_)
        refine sSl (by decide +kernel) h200 ?_
        refine sCvI oI rfl (ci := 12) (q := (13, 0)) (avs := [vi (rI μ198 0 0 (ix (v3 + 1))), vi (rI μ198 0 0 (ix (v3 + 2)))]) (rest := [vi x197]) (tX12_storedIn (rI μ198 0 0 (ix (v3 + 1))) (rI μ198 0 0 (ix (v3 + 2))) μ198) (by decide) (by decide +kernel) lk_13_143 yv_X12_storedIn rfl (by decide) rfl rfl rfl (Nat.le_of_ble_eq_true rfl) (fun x201 μ202 => ?_)
        refine sIc_eq oI (off := 688) (tgt := 1856) (by decide +kernel) (by decide) (fun _ => ?_) (fun _ => ?_)
        · exact L_law_J1856_ok ih v3 μ202
        · refine sBk (lo' := [(0, vr 0 0), (1, vr 12 0), (2, vr 13 0), (3, vi v3)]) (st' := [vi 0]) (μ' := μ202) (pc' := 1172) [(.iconst 0, 0, 0, 0, 0)] (by decide +kernel) rfl rfl ?_
          exact sRi (by decide +kernel) (fun _ => Or.inl rfl)
      refine sSc oI (fun _ => ?_) (fun _ => ?_)
      · refine sBk (lo' := [(0, vr 0 0), (1, vr 12 0), (2, vr 13 0), (3, vi v3)]) (st' := [vi (v3 + 1), vr 0 0, vr 12 0]) (μ' := μ) (pc' := 1178) [(.aload_n 1, 0, 0, 0, 0), (.aload_n 0, 0, 0, 0, 0), (.iload_n 3, 0, 0, 0, 0), (.iconst 1, 0, 0, 1, 0), (.iadd, 0, 0, 0, 0)] (by decide +kernel) rfl rfl ?_
        refine sCk oI rfl (fun h203 => ?_)
        refine sSl (by decide +kernel) h203 ?_
        refine sBk (lo' := [(0, vr 0 0), (1, vr 12 0), (2, vr 13 0), (3, vi v3)]) (st' := [vi (v3 + 2), vr 0 0, vi (rI μ 0 0 (ix (v3 + 1))), vr 12 0]) (μ' := μ) (pc' := 1183) [(.aload_n 0, 0, 0, 0, 0), (.iload_n 3, 0, 0, 0, 0), (.iconst 2, 0, 0, 2, 0), (.iadd, 0, 0, 0, 0)] (by decide +kernel) rfl rfl ?_
        refine sCk oI rfl (fun h204 => ?_)
        refine sSl (by decide +kernel) h204 ?_
        refine sCvI oI rfl (ci := 11) (q := (12, 0)) (avs := [vi (rI μ 0 0 (ix (v3 + 1))), vi (rI μ 0 0 (ix (v3 + 2)))]) (rest := []) (tX11_groundIn (rI μ 0 0 (ix (v3 + 1))) (rI μ 0 0 (ix (v3 + 2))) μ) (by decide) (by decide +kernel) lk_13_144 yv_X11_groundIn rfl (by decide) rfl rfl rfl (Nat.le_of_ble_eq_true rfl) (fun x205 μ206 => ?_)
        refine sBk (lo' := [(0, vr 0 0), (1, vr 12 0), (2, vr 13 0), (3, vi v3)]) (st' := [vi (v3 + 1), vr 0 0, vr 13 0, vi x205]) (μ' := μ206) (pc' := 1192) [(.aload_n 2, 0, 0, 0, 0), (.aload_n 0, 0, 0, 0, 0), (.iload_n 3, 0, 0, 0, 0), (.iconst 1, 0, 0, 1, 0), (.iadd, 0, 0, 0, 0)] (by decide +kernel) rfl rfl ?_
        refine sCk oI rfl (fun h207 => ?_)
        refine sSl (by decide +kernel) h207 ?_
        refine sBk (lo' := [(0, vr 0 0), (1, vr 12 0), (2, vr 13 0), (3, vi v3)]) (st' := [vi (v3 + 2), vr 0 0, vi (rI μ206 0 0 (ix (v3 + 1))), vr 13 0, vi x205]) (μ' := μ206) (pc' := 1197) [(.aload_n 0, 0, 0, 0, 0), (.iload_n 3, 0, 0, 0, 0), (.iconst 2, 0, 0, 2, 0), (.iadd, 0, 0, 0, 0)] (by decide +kernel) rfl rfl ?_
        refine sCk oI rfl (fun h208 => ?_)
        refine sSl (by decide +kernel) h208 ?_
        refine sCvI oI rfl (ci := 12) (q := (13, 0)) (avs := [vi (rI μ206 0 0 (ix (v3 + 1))), vi (rI μ206 0 0 (ix (v3 + 2)))]) (rest := [vi x205]) (tX12_groundIn (rI μ206 0 0 (ix (v3 + 1))) (rI μ206 0 0 (ix (v3 + 2))) μ206) (by decide) (by decide +kernel) lk_13_147 yv_X12_groundIn rfl (by decide) rfl rfl rfl (Nat.le_of_ble_eq_true rfl) (fun x209 μ210 => ?_)
        refine sIc_eq oI (off := 655) (tgt := 1856) (by decide +kernel) (by decide) (fun _ => ?_) (fun _ => ?_)
        · exact L_law_J1856_ok ih v3 μ210
        · refine sBk (lo' := [(0, vr 0 0), (1, vr 12 0), (2, vr 13 0), (3, vi v3)]) (st' := [vi 0]) (μ' := μ210) (pc' := 1205) [(.iconst 0, 0, 0, 0, 0)] (by decide +kernel) rfl rfl ?_
          exact sRi (by decide +kernel) (fun _ => Or.inl rfl)
      refine sSc oI (fun _ => ?_) (fun _ => ?_)
      · refine sBk (lo' := [(0, vr 0 0), (1, vr 12 0), (2, vr 13 0), (3, vi v3)]) (st' := [vi (v3 + 1), vr 0 0, vr 12 0]) (μ' := μ) (pc' := 1211) [(.aload_n 1, 0, 0, 0, 0), (.aload_n 0, 0, 0, 0, 0), (.iload_n 3, 0, 0, 0, 0), (.iconst 1, 0, 0, 1, 0), (.iadd, 0, 0, 0, 0)] (by decide +kernel) rfl rfl ?_
        refine sCk oI rfl (fun h211 => ?_)
        refine sSl (by decide +kernel) h211 ?_
        refine sCvL oI rfl (ci := 11) (q := (12, 0)) (avs := [vi (rI μ 0 0 (ix (v3 + 1)))]) (rest := []) (tX11_seaIn (rI μ 0 0 (ix (v3 + 1))) μ) (by decide) (by decide +kernel) lk_13_148 yv_X11_seaIn rfl (by decide) rfl rfl rfl (Nat.le_of_ble_eq_true rfl) (fun x212 μ213 => ?_)
        refine sBk (lo' := [(0, vr 0 0), (1, vr 12 0), (2, vr 13 0), (3, vi v3)]) (st' := [vi (v3 + 1), vr 0 0, vr 13 0, vl x212]) (μ' := μ213) (pc' := 1220) [(.aload_n 2, 0, 0, 0, 0), (.aload_n 0, 0, 0, 0, 0), (.iload_n 3, 0, 0, 0, 0), (.iconst 1, 0, 0, 1, 0), (.iadd, 0, 0, 0, 0)] (by decide +kernel) rfl rfl ?_
        refine sCk oI rfl (fun h214 => ?_)
        refine sSl (by decide +kernel) h214 ?_
        refine sCvL oI rfl (ci := 12) (q := (13, 0)) (avs := [vi (rI μ213 0 0 (ix (v3 + 1)))]) (rest := [vl x212]) (tX12_seaIn (rI μ213 0 0 (ix (v3 + 1))) μ213) (by decide) (by decide +kernel) lk_13_151 yv_X12_seaIn rfl (by decide) rfl rfl rfl (Nat.le_of_ble_eq_true rfl) (fun x215 μ216 => ?_)
        refine sBk (lo' := [(0, vr 0 0), (1, vr 12 0), (2, vr 13 0), (3, vi v3)]) (st' := [vi (lg_cmp x212 x215)]) (μ' := μ216) (pc' := 1225) [(.lcmp, 0, 0, 0, 0)] (by decide +kernel) rfl rfl ?_
        refine sIf_eq oI (off := 631) (tgt := 1856) (by decide +kernel) (by decide) (fun _ => ?_) (fun _ => ?_)
        · exact L_law_J1856_ok ih v3 μ216
        · refine sBk (lo' := [(0, vr 0 0), (1, vr 12 0), (2, vr 13 0), (3, vi v3)]) (st' := [vi 0]) (μ' := μ216) (pc' := 1229) [(.iconst 0, 0, 0, 0, 0)] (by decide +kernel) rfl rfl ?_
          exact sRi (by decide +kernel) (fun _ => Or.inl rfl)
      refine sSc oI (fun _ => ?_) (fun _ => ?_)
      · refine sBk (lo' := [(0, vr 0 0), (1, vr 12 0), (2, vr 13 0), (3, vi v3)]) (st' := [vi (v3 + 1), vr 0 0, vr 12 0]) (μ' := μ) (pc' := 1235) [(.aload_n 1, 0, 0, 0, 0), (.aload_n 0, 0, 0, 0, 0), (.iload_n 3, 0, 0, 0, 0), (.iconst 1, 0, 0, 1, 0), (.iadd, 0, 0, 0, 0)] (by decide +kernel) rfl rfl ?_
        refine sCk oI rfl (fun h217 => ?_)
        refine sSl (by decide +kernel) h217 ?_
        refine sCvI oI rfl (ci := 11) (q := (12, 0)) (avs := [vi (rI μ 0 0 (ix (v3 + 1)))]) (rest := []) (tX11_dryIn (rI μ 0 0 (ix (v3 + 1))) μ) (by decide) (by decide +kernel) lk_13_152 yv_X11_dryIn rfl (by decide) rfl rfl rfl (Nat.le_of_ble_eq_true rfl) (fun x218 μ219 => ?_)
        refine sBk (lo' := [(0, vr 0 0), (1, vr 12 0), (2, vr 13 0), (3, vi v3)]) (st' := [vi (v3 + 1), vr 0 0, vr 13 0, vi x218]) (μ' := μ219) (pc' := 1244) [(.aload_n 2, 0, 0, 0, 0), (.aload_n 0, 0, 0, 0, 0), (.iload_n 3, 0, 0, 0, 0), (.iconst 1, 0, 0, 1, 0), (.iadd, 0, 0, 0, 0)] (by decide +kernel) rfl rfl ?_
        refine sCk oI rfl (fun h220 => ?_)
        refine sSl (by decide +kernel) h220 ?_
        refine sCvI oI rfl (ci := 12) (q := (13, 0)) (avs := [vi (rI μ219 0 0 (ix (v3 + 1)))]) (rest := [vi x218]) (tX12_dryIn (rI μ219 0 0 (ix (v3 + 1))) μ219) (by decide) (by decide +kernel) lk_13_155 yv_X12_dryIn rfl (by decide) rfl rfl rfl (Nat.le_of_ble_eq_true rfl) (fun x221 μ222 => ?_)
        refine sIc_eq oI (off := 608) (tgt := 1856) (by decide +kernel) (by decide) (fun _ => ?_) (fun _ => ?_)
        · exact L_law_J1856_ok ih v3 μ222
        · refine sBk (lo' := [(0, vr 0 0), (1, vr 12 0), (2, vr 13 0), (3, vi v3)]) (st' := [vi 0]) (μ' := μ222) (pc' := 1252) [(.iconst 0, 0, 0, 0, 0)] (by decide +kernel) rfl rfl ?_
          exact sRi (by decide +kernel) (fun _ => Or.inl rfl)
      refine sSc oI (fun _ => ?_) (fun _ => ?_)
      · refine sBk (lo' := [(0, vr 0 0), (1, vr 12 0), (2, vr 13 0), (3, vi v3)]) (st' := [vi (v3 + 1), vr 0 0, vr 12 0]) (μ' := μ) (pc' := 1258) [(.aload_n 1, 0, 0, 0, 0), (.aload_n 0, 0, 0, 0, 0), (.iload_n 3, 0, 0, 0, 0), (.iconst 1, 0, 0, 1, 0), (.iadd, 0, 0, 0, 0)] (by decide +kernel) rfl rfl ?_
        refine sCk oI rfl (fun h223 => ?_)
        refine sSl (by decide +kernel) h223 ?_
        refine sCvI oI rfl (ci := 11) (q := (12, 0)) (avs := [vi (rI μ 0 0 (ix (v3 + 1)))]) (rest := []) (tX11_floodIn (rI μ 0 0 (ix (v3 + 1))) μ) (by decide) (by decide +kernel) lk_13_156 yv_X11_floodIn rfl (by decide) rfl rfl rfl (Nat.le_of_ble_eq_true rfl) (fun x224 μ225 => ?_)
        refine sBk (lo' := [(0, vr 0 0), (1, vr 12 0), (2, vr 13 0), (3, vi v3)]) (st' := [vi (v3 + 1), vr 0 0, vr 13 0, vi x224]) (μ' := μ225) (pc' := 1267) [(.aload_n 2, 0, 0, 0, 0), (.aload_n 0, 0, 0, 0, 0), (.iload_n 3, 0, 0, 0, 0), (.iconst 1, 0, 0, 1, 0), (.iadd, 0, 0, 0, 0)] (by decide +kernel) rfl rfl ?_
        refine sCk oI rfl (fun h226 => ?_)
        refine sSl (by decide +kernel) h226 ?_
        refine sCvI oI rfl (ci := 12) (q := (13, 0)) (avs := [vi (rI μ225 0 0 (ix (v3 + 1)))]) (rest := [vi x224]) (tX12_floodIn (rI μ225 0 0 (ix (v3 + 1))) μ225) (by decide) (by decide +kernel) lk_13_159 yv_X12_floodIn rfl (by decide) rfl rfl rfl (Nat.le_of_ble_eq_true rfl) (fun x227 μ228 => ?_)
        refine sIc_eq oI (off := 585) (tgt := 1856) (by decide +kernel) (by decide) (fun _ => ?_) (fun _ => ?_)
        · exact L_law_J1856_ok ih v3 μ228
        · refine sBk (lo' := [(0, vr 0 0), (1, vr 12 0), (2, vr 13 0), (3, vi v3)]) (st' := [vi 0]) (μ' := μ228) (pc' := 1275) [(.iconst 0, 0, 0, 0, 0)] (by decide +kernel) rfl rfl ?_
          exact sRi (by decide +kernel) (fun _ => Or.inl rfl)
      refine sSc oI (fun _ => ?_) (fun _ => ?_)
      · refine sBk (lo' := [(0, vr 0 0), (1, vr 12 0), (2, vr 13 0), (3, vi v3)]) (st' := [vr 12 0]) (μ' := μ) (pc' := 1277) [(.aload_n 1, 0, 0, 0, 0)] (by decide +kernel) rfl rfl ?_
        refine sCvI oI rfl (ci := 11) (q := (12, 0)) (avs := []) (rest := []) (tX11_stillIn μ) (by decide) (by decide +kernel) lk_13_160 yv_X11_stillIn rfl (by decide) rfl rfl rfl (Nat.le_of_ble_eq_true rfl) (fun x229 μ230 => ?_)
        refine sBk (lo' := [(0, vr 0 0), (1, vr 12 0), (2, vr 13 0), (3, vi v3)]) (st' := [vr 13 0, vi x229]) (μ' := μ230) (pc' := 1281) [(.aload_n 2, 0, 0, 0, 0)] (by decide +kernel) rfl rfl ?_
        refine sCvI oI rfl (ci := 12) (q := (13, 0)) (avs := []) (rest := [vi x229]) (tX12_stillIn μ230) (by decide) (by decide +kernel) lk_13_163 yv_X12_stillIn rfl (by decide) rfl rfl rfl (Nat.le_of_ble_eq_true rfl) (fun x231 μ232 => ?_)
        refine sIc_eq oI (off := 572) (tgt := 1856) (by decide +kernel) (by decide) (fun _ => ?_) (fun _ => ?_)
        · exact L_law_J1856_ok ih v3 μ232
        · refine sBk (lo' := [(0, vr 0 0), (1, vr 12 0), (2, vr 13 0), (3, vi v3)]) (st' := [vi 0]) (μ' := μ232) (pc' := 1288) [(.iconst 0, 0, 0, 0, 0)] (by decide +kernel) rfl rfl ?_
          exact sRi (by decide +kernel) (fun _ => Or.inl rfl)
      refine sSc oI (fun _ => ?_) (fun _ => ?_)
      · refine sBk (lo' := [(0, vr 0 0), (1, vr 12 0), (2, vr 13 0), (3, vi v3)]) (st' := [vr 12 0]) (μ' := μ) (pc' := 1290) [(.aload_n 1, 0, 0, 0, 0)] (by decide +kernel) rfl rfl ?_
        refine sCvI oI rfl (ci := 11) (q := (12, 0)) (avs := []) (rest := []) (tX11_lawIn μ) (by decide) (by decide +kernel) lk_13_164 yv_X11_lawIn rfl (by decide) rfl rfl rfl (Nat.le_of_ble_eq_true rfl) (fun x233 μ234 => ?_)
        refine sBk (lo' := [(0, vr 0 0), (1, vr 12 0), (2, vr 13 0), (3, vi v3)]) (st' := [vr 13 0, vi x233]) (μ' := μ234) (pc' := 1294) [(.aload_n 2, 0, 0, 0, 0)] (by decide +kernel) rfl rfl ?_
        refine sCvI oI rfl (ci := 12) (q := (13, 0)) (avs := []) (rest := [vi x233]) (tX12_lawIn μ234) (by decide) (by decide +kernel) lk_13_167 yv_X12_lawIn rfl (by decide) rfl rfl rfl (Nat.le_of_ble_eq_true rfl) (fun x235 μ236 => ?_)
        refine sIc_eq oI (off := 559) (tgt := 1856) (by decide +kernel) (by decide) (fun _ => ?_) (fun _ => ?_)
        · exact L_law_J1856_ok ih v3 μ236
        · refine sBk (lo' := [(0, vr 0 0), (1, vr 12 0), (2, vr 13 0), (3, vi v3)]) (st' := [vi 0]) (μ' := μ236) (pc' := 1301) [(.iconst 0, 0, 0, 0, 0)] (by decide +kernel) rfl rfl ?_
          exact sRi (by decide +kernel) (fun _ => Or.inl rfl)
      refine sSc oI (fun _ => ?_) (fun _ => ?_)
      · refine sBk (lo' := [(0, vr 0 0), (1, vr 12 0), (2, vr 13 0), (3, vi v3)]) (st' := [vi (v3 + 1), vr 0 0, vr 12 0]) (μ' := μ) (pc' := 1307) [(.aload_n 1, 0, 0, 0, 0), (.aload_n 0, 0, 0, 0, 0), (.iload_n 3, 0, 0, 0, 0), (.iconst 1, 0, 0, 1, 0), (.iadd, 0, 0, 0, 0)] (by decide +kernel) rfl rfl ?_
        refine sCk oI rfl (fun h237 => ?_)
        refine sSl (by decide +kernel) h237 ?_
        refine sBk (lo' := [(0, vr 0 0), (1, vr 12 0), (2, vr 13 0), (3, vi v3)]) (st' := [vi (v3 + 2), vr 0 0, vi (rI μ 0 0 (ix (v3 + 1))), vr 12 0]) (μ' := μ) (pc' := 1312) [(.aload_n 0, 0, 0, 0, 0), (.iload_n 3, 0, 0, 0, 0), (.iconst 2, 0, 0, 2, 0), (.iadd, 0, 0, 0, 0)] (by decide +kernel) rfl rfl ?_
        refine sCk oI rfl (fun h238 => ?_)
        refine sSl (by decide +kernel) h238 ?_
        refine sBk (lo' := [(0, vr 0 0), (1, vr 12 0), (2, vr 13 0), (3, vi v3)]) (st' := [vi (v3 + 3), vr 0 0, vi (rI μ 0 0 (ix (v3 + 2))), vi (rI μ 0 0 (ix (v3 + 1))), vr 12 0]) (μ' := μ) (pc' := 1317) [(.aload_n 0, 0, 0, 0, 0), (.iload_n 3, 0, 0, 0, 0), (.iconst 3, 0, 0, 3, 0), (.iadd, 0, 0, 0, 0)] (by decide +kernel) rfl rfl ?_
        refine sCk oI rfl (fun h239 => ?_)
        refine sSl (by decide +kernel) h239 ?_
        refine sCvI oI rfl (ci := 11) (q := (12, 0)) (avs := [vi (rI μ 0 0 (ix (v3 + 1))), vi (rI μ 0 0 (ix (v3 + 2))), vi (rI μ 0 0 (ix (v3 + 3)))]) (rest := []) (tX11_enough (rI μ 0 0 (ix (v3 + 1))) (rI μ 0 0 (ix (v3 + 2))) (rI μ 0 0 (ix (v3 + 3))) μ) (by decide) (by decide +kernel) lk_13_168 yv_X11_enough rfl (by decide) rfl rfl rfl (Nat.le_of_ble_eq_true rfl) (fun x240 μ241 => ?_)
        refine sBk (lo' := [(0, vr 0 0), (1, vr 12 0), (2, vr 13 0), (3, vi v3)]) (st' := [vi (v3 + 1), vr 0 0, vr 13 0, vi x240]) (μ' := μ241) (pc' := 1326) [(.aload_n 2, 0, 0, 0, 0), (.aload_n 0, 0, 0, 0, 0), (.iload_n 3, 0, 0, 0, 0), (.iconst 1, 0, 0, 1, 0), (.iadd, 0, 0, 0, 0)] (by decide +kernel) rfl rfl ?_
        refine sCk oI rfl (fun h242 => ?_)
        refine sSl (by decide +kernel) h242 ?_
        refine sBk (lo' := [(0, vr 0 0), (1, vr 12 0), (2, vr 13 0), (3, vi v3)]) (st' := [vi (v3 + 2), vr 0 0, vi (rI μ241 0 0 (ix (v3 + 1))), vr 13 0, vi x240]) (μ' := μ241) (pc' := 1331) [(.aload_n 0, 0, 0, 0, 0), (.iload_n 3, 0, 0, 0, 0), (.iconst 2, 0, 0, 2, 0), (.iadd, 0, 0, 0, 0)] (by decide +kernel) rfl rfl ?_
        refine sCk oI rfl (fun h243 => ?_)
        refine sSl (by decide +kernel) h243 ?_
        refine sBk (lo' := [(0, vr 0 0), (1, vr 12 0), (2, vr 13 0), (3, vi v3)]) (st' := [vi (v3 + 3), vr 0 0, vi (rI μ241 0 0 (ix (v3 + 2))), vi (rI μ241 0 0 (ix (v3 + 1))), vr 13 0, vi x240]) (μ' := μ241) (pc' := 1336) [(.aload_n 0, 0, 0, 0, 0), (.iload_n 3, 0, 0, 0, 0), (.iconst 3, 0, 0, 3, 0), (.iadd, 0, 0, 0, 0)] (by decide +kernel) rfl rfl ?_
        refine sCk oI rfl (fun h244 => ?_)
        refine sSl (by decide +kernel) h244 ?_
        refine sCvI oI rfl (ci := 12) (q := (13, 0)) (avs := [vi (rI μ241 0 0 (ix (v3 + 1))), vi (rI μ241 0 0 (ix (v3 + 2))), vi (rI μ241 0 0 (ix (v3 + 3)))]) (rest := [vi x240]) (tX12_enough (rI μ241 0 0 (ix (v3 + 1))) (rI μ241 0 0 (ix (v3 + 2))) (rI μ241 0 0 (ix (v3 + 3))) μ241) (by decide) (by decide +kernel) lk_13_172 yv_X12_enough rfl (by decide) rfl rfl rfl (Nat.le_of_ble_eq_true rfl) (fun x245 μ246 => ?_)
        refine sIc_eq oI (off := 516) (tgt := 1856) (by decide +kernel) (by decide) (fun _ => ?_) (fun _ => ?_)
        · exact L_law_J1856_ok ih v3 μ246
        · refine sBk (lo' := [(0, vr 0 0), (1, vr 12 0), (2, vr 13 0), (3, vi v3)]) (st' := [vi 0]) (μ' := μ246) (pc' := 1344) [(.iconst 0, 0, 0, 0, 0)] (by decide +kernel) rfl rfl ?_
          exact sRi (by decide +kernel) (fun _ => Or.inl rfl)
      refine sSc oI (fun _ => ?_) (fun _ => ?_)
      · refine sBk (lo' := [(0, vr 0 0), (1, vr 12 0), (2, vr 13 0), (3, vi v3)]) (st' := [vi (v3 + 1), vr 0 0, vr 12 0]) (μ' := μ) (pc' := 1350) [(.aload_n 1, 0, 0, 0, 0), (.aload_n 0, 0, 0, 0, 0), (.iload_n 3, 0, 0, 0, 0), (.iconst 1, 0, 0, 1, 0), (.iadd, 0, 0, 0, 0)] (by decide +kernel) rfl rfl ?_
        refine sCk oI rfl (fun h247 => ?_)
        refine sSl (by decide +kernel) h247 ?_
        refine sBk (lo' := [(0, vr 0 0), (1, vr 12 0), (2, vr 13 0), (3, vi v3)]) (st' := [vi (v3 + 2), vr 0 0, vi (rI μ 0 0 (ix (v3 + 1))), vr 12 0]) (μ' := μ) (pc' := 1355) [(.aload_n 0, 0, 0, 0, 0), (.iload_n 3, 0, 0, 0, 0), (.iconst 2, 0, 0, 2, 0), (.iadd, 0, 0, 0, 0)] (by decide +kernel) rfl rfl ?_
        refine sCk oI rfl (fun h248 => ?_)
        refine sSl (by decide +kernel) h248 ?_
        refine sCvI oI rfl (ci := 11) (q := (12, 0)) (avs := [vi (rI μ 0 0 (ix (v3 + 1))), vi (rI μ 0 0 (ix (v3 + 2)))]) (rest := []) (tX11_bestGate (rI μ 0 0 (ix (v3 + 1))) (rI μ 0 0 (ix (v3 + 2))) μ) (by decide) (by decide +kernel) lk_13_173 yv_X11_bestGate rfl (by decide) rfl rfl rfl (Nat.le_of_ble_eq_true rfl) (fun x249 μ250 => ?_)
        refine sBk (lo' := [(0, vr 0 0), (1, vr 12 0), (2, vr 13 0), (3, vi v3)]) (st' := [vi (v3 + 1), vr 0 0, vr 13 0, vi x249]) (μ' := μ250) (pc' := 1364) [(.aload_n 2, 0, 0, 0, 0), (.aload_n 0, 0, 0, 0, 0), (.iload_n 3, 0, 0, 0, 0), (.iconst 1, 0, 0, 1, 0), (.iadd, 0, 0, 0, 0)] (by decide +kernel) rfl rfl ?_
        refine sCk oI rfl (fun h251 => ?_)
        refine sSl (by decide +kernel) h251 ?_
        refine sBk (lo' := [(0, vr 0 0), (1, vr 12 0), (2, vr 13 0), (3, vi v3)]) (st' := [vi (v3 + 2), vr 0 0, vi (rI μ250 0 0 (ix (v3 + 1))), vr 13 0, vi x249]) (μ' := μ250) (pc' := 1369) [(.aload_n 0, 0, 0, 0, 0), (.iload_n 3, 0, 0, 0, 0), (.iconst 2, 0, 0, 2, 0), (.iadd, 0, 0, 0, 0)] (by decide +kernel) rfl rfl ?_
        refine sCk oI rfl (fun h252 => ?_)
        refine sSl (by decide +kernel) h252 ?_
        refine sCvI oI rfl (ci := 12) (q := (13, 0)) (avs := [vi (rI μ250 0 0 (ix (v3 + 1))), vi (rI μ250 0 0 (ix (v3 + 2)))]) (rest := [vi x249]) (tX12_bestGate (rI μ250 0 0 (ix (v3 + 1))) (rI μ250 0 0 (ix (v3 + 2))) μ250) (by decide) (by decide +kernel) lk_13_176 yv_X12_bestGate rfl (by decide) rfl rfl rfl (Nat.le_of_ble_eq_true rfl) (fun x253 μ254 => ?_)
        refine sIc_eq oI (off := 483) (tgt := 1856) (by decide +kernel) (by decide) (fun _ => ?_) (fun _ => ?_)
        · exact L_law_J1856_ok ih v3 μ254
        · refine sBk (lo' := [(0, vr 0 0), (1, vr 12 0), (2, vr 13 0), (3, vi v3)]) (st' := [vi 0]) (μ' := μ254) (pc' := 1377) [(.iconst 0, 0, 0, 0, 0)] (by decide +kernel) rfl rfl ?_
          exact sRi (by decide +kernel) (fun _ => Or.inl rfl)
      refine sSc oI (fun _ => ?_) (fun _ => ?_)
      · refine sBk (lo' := [(0, vr 0 0), (1, vr 12 0), (2, vr 13 0), (3, vi v3)]) (st' := [vi (v3 + 1), vr 0 0, vr 12 0]) (μ' := μ) (pc' := 1383) [(.aload_n 1, 0, 0, 0, 0), (.aload_n 0, 0, 0, 0, 0), (.iload_n 3, 0, 0, 0, 0), (.iconst 1, 0, 0, 1, 0), (.iadd, 0, 0, 0, 0)] (by decide +kernel) rfl rfl ?_
        refine sCk oI rfl (fun h255 => ?_)
        refine sSl (by decide +kernel) h255 ?_
        refine sBk (lo' := [(0, vr 0 0), (1, vr 12 0), (2, vr 13 0), (3, vi v3)]) (st' := [vi (v3 + 2), vr 0 0, vi (rI μ 0 0 (ix (v3 + 1))), vr 12 0]) (μ' := μ) (pc' := 1388) [(.aload_n 0, 0, 0, 0, 0), (.iload_n 3, 0, 0, 0, 0), (.iconst 2, 0, 0, 2, 0), (.iadd, 0, 0, 0, 0)] (by decide +kernel) rfl rfl ?_
        refine sCk oI rfl (fun h256 => ?_)
        refine sSl (by decide +kernel) h256 ?_
        refine sCvI oI rfl (ci := 11) (q := (12, 0)) (avs := [vi (rI μ 0 0 (ix (v3 + 1))), vi (rI μ 0 0 (ix (v3 + 2)))]) (rest := []) (tX11_bestGround (rI μ 0 0 (ix (v3 + 1))) (rI μ 0 0 (ix (v3 + 2))) μ) (by decide) (by decide +kernel) lk_13_177 yv_X11_bestGround rfl (by decide) rfl rfl rfl (Nat.le_of_ble_eq_true rfl) (fun x257 μ258 => ?_)
        refine sBk (lo' := [(0, vr 0 0), (1, vr 12 0), (2, vr 13 0), (3, vi v3)]) (st' := [vi (v3 + 1), vr 0 0, vr 13 0, vi x257]) (μ' := μ258) (pc' := 1397) [(.aload_n 2, 0, 0, 0, 0), (.aload_n 0, 0, 0, 0, 0), (.iload_n 3, 0, 0, 0, 0), (.iconst 1, 0, 0, 1, 0), (.iadd, 0, 0, 0, 0)] (by decide +kernel) rfl rfl ?_
        refine sCk oI rfl (fun h259 => ?_)
        refine sSl (by decide +kernel) h259 ?_
        refine sBk (lo' := [(0, vr 0 0), (1, vr 12 0), (2, vr 13 0), (3, vi v3)]) (st' := [vi (v3 + 2), vr 0 0, vi (rI μ258 0 0 (ix (v3 + 1))), vr 13 0, vi x257]) (μ' := μ258) (pc' := 1402) [(.aload_n 0, 0, 0, 0, 0), (.iload_n 3, 0, 0, 0, 0), (.iconst 2, 0, 0, 2, 0), (.iadd, 0, 0, 0, 0)] (by decide +kernel) rfl rfl ?_
        refine sCk oI rfl (fun h260 => ?_)
        refine sSl (by decide +kernel) h260 ?_
        refine sCvI oI rfl (ci := 12) (q := (13, 0)) (avs := [vi (rI μ258 0 0 (ix (v3 + 1))), vi (rI μ258 0 0 (ix (v3 + 2)))]) (rest := [vi x257]) (tX12_bestGround (rI μ258 0 0 (ix (v3 + 1))) (rI μ258 0 0 (ix (v3 + 2))) μ258) (by decide) (by decide +kernel) lk_13_180 yv_X12_bestGround rfl (by decide) rfl rfl rfl (Nat.le_of_ble_eq_true rfl) (fun x261 μ262 => ?_)
        refine sIc_eq oI (off := 450) (tgt := 1856) (by decide +kernel) (by decide) (fun _ => ?_) (fun _ => ?_)
        · exact L_law_J1856_ok ih v3 μ262
        · refine sBk (lo' := [(0, vr 0 0), (1, vr 12 0), (2, vr 13 0), (3, vi v3)]) (st' := [vi 0]) (μ' := μ262) (pc' := 1410) [(.iconst 0, 0, 0, 0, 0)] (by decide +kernel) rfl rfl ?_
          exact sRi (by decide +kernel) (fun _ => Or.inl rfl)
      refine sSc oI (fun _ => ?_) (fun _ => ?_)
      · refine sBk (lo' := [(0, vr 0 0), (1, vr 12 0), (2, vr 13 0), (3, vi v3)]) (st' := [vi (v3 + 1), vr 0 0, vr 12 0]) (μ' := μ) (pc' := 1416) [(.aload_n 1, 0, 0, 0, 0), (.aload_n 0, 0, 0, 0, 0), (.iload_n 3, 0, 0, 0, 0), (.iconst 1, 0, 0, 1, 0), (.iadd, 0, 0, 0, 0)] (by decide +kernel) rfl rfl ?_
        refine sCk oI rfl (fun h263 => ?_)
        refine sSl (by decide +kernel) h263 ?_
        refine sBk (lo' := [(0, vr 0 0), (1, vr 12 0), (2, vr 13 0), (3, vi v3)]) (st' := [vi (v3 + 2), vr 0 0, vi (rI μ 0 0 (ix (v3 + 1))), vr 12 0]) (μ' := μ) (pc' := 1421) [(.aload_n 0, 0, 0, 0, 0), (.iload_n 3, 0, 0, 0, 0), (.iconst 2, 0, 0, 2, 0), (.iadd, 0, 0, 0, 0)] (by decide +kernel) rfl rfl ?_
        refine sCk oI rfl (fun h264 => ?_)
        refine sSl (by decide +kernel) h264 ?_
        refine sCvI oI rfl (ci := 11) (q := (12, 0)) (avs := [vi (rI μ 0 0 (ix (v3 + 1))), vi (rI μ 0 0 (ix (v3 + 2)))]) (rest := []) (tX11_hire (rI μ 0 0 (ix (v3 + 1))) (rI μ 0 0 (ix (v3 + 2))) μ) (by decide) (by decide +kernel) lk_13_181 yv_X11_hire rfl (by decide) rfl rfl rfl (Nat.le_of_ble_eq_true rfl) (fun x265 μ266 => ?_)
        refine sBk (lo' := [(0, vr 0 0), (1, vr 12 0), (2, vr 13 0), (3, vi v3)]) (st' := [vi (v3 + 1), vr 0 0, vr 13 0, vi x265]) (μ' := μ266) (pc' := 1430) [(.aload_n 2, 0, 0, 0, 0), (.aload_n 0, 0, 0, 0, 0), (.iload_n 3, 0, 0, 0, 0), (.iconst 1, 0, 0, 1, 0), (.iadd, 0, 0, 0, 0)] (by decide +kernel) rfl rfl ?_
        refine sCk oI rfl (fun h267 => ?_)
        refine sSl (by decide +kernel) h267 ?_
        refine sBk (lo' := [(0, vr 0 0), (1, vr 12 0), (2, vr 13 0), (3, vi v3)]) (st' := [vi (v3 + 2), vr 0 0, vi (rI μ266 0 0 (ix (v3 + 1))), vr 13 0, vi x265]) (μ' := μ266) (pc' := 1435) [(.aload_n 0, 0, 0, 0, 0), (.iload_n 3, 0, 0, 0, 0), (.iconst 2, 0, 0, 2, 0), (.iadd, 0, 0, 0, 0)] (by decide +kernel) rfl rfl ?_
        refine sCk oI rfl (fun h268 => ?_)
        refine sSl (by decide +kernel) h268 ?_
        refine sCvI oI rfl (ci := 12) (q := (13, 0)) (avs := [vi (rI μ266 0 0 (ix (v3 + 1))), vi (rI μ266 0 0 (ix (v3 + 2)))]) (rest := [vi x265]) (tX12_hire (rI μ266 0 0 (ix (v3 + 1))) (rI μ266 0 0 (ix (v3 + 2))) μ266) (by decide) (by decide +kernel) lk_13_184 yv_X12_hire rfl (by decide) rfl rfl rfl (Nat.le_of_ble_eq_true rfl) (fun x269 μ270 => ?_)
        refine sIc_eq oI (off := 417) (tgt := 1856) (by decide +kernel) (by decide) (fun _ => ?_) (fun _ => ?_)
        · exact L_law_J1856_ok ih v3 μ270
        · refine sBk (lo' := [(0, vr 0 0), (1, vr 12 0), (2, vr 13 0), (3, vi v3)]) (st' := [vi 0]) (μ' := μ270) (pc' := 1443) [(.iconst 0, 0, 0, 0, 0)] (by decide +kernel) rfl rfl ?_
          exact sRi (by decide +kernel) (fun _ => Or.inl rfl)
      refine sSc oI (fun _ => ?_) (fun _ => ?_)
      · refine sBk (lo' := [(0, vr 0 0), (1, vr 12 0), (2, vr 13 0), (3, vi v3)]) (st' := [vi (v3 + 1), vr 0 0, vr 12 0]) (μ' := μ) (pc' := 1449) [(.aload_n 1, 0, 0, 0, 0), (.aload_n 0, 0, 0, 0, 0), (.iload_n 3, 0, 0, 0, 0), (.iconst 1, 0, 0, 1, 0), (.iadd, 0, 0, 0, 0)] (by decide +kernel) rfl rfl ?_
        refine sCk oI rfl (fun h271 => ?_)
        refine sSl (by decide +kernel) h271 ?_
        refine sBk (lo' := [(0, vr 0 0), (1, vr 12 0), (2, vr 13 0), (3, vi v3)]) (st' := [vi (v3 + 2), vr 0 0, vi (rI μ 0 0 (ix (v3 + 1))), vr 12 0]) (μ' := μ) (pc' := 1454) [(.aload_n 0, 0, 0, 0, 0), (.iload_n 3, 0, 0, 0, 0), (.iconst 2, 0, 0, 2, 0), (.iadd, 0, 0, 0, 0)] (by decide +kernel) rfl rfl ?_
        refine sCk oI rfl (fun h272 => ?_)
        refine sSl (by decide +kernel) h272 ?_
        refine sBk (lo' := [(0, vr 0 0), (1, vr 12 0), (2, vr 13 0), (3, vi v3)]) (st' := [vi (v3 + 3), vr 0 0, vi (rI μ 0 0 (ix (v3 + 2))), vi (rI μ 0 0 (ix (v3 + 1))), vr 12 0]) (μ' := μ) (pc' := 1459) [(.aload_n 0, 0, 0, 0, 0), (.iload_n 3, 0, 0, 0, 0), (.iconst 3, 0, 0, 3, 0), (.iadd, 0, 0, 0, 0)] (by decide +kernel) rfl rfl ?_
        refine sCk oI rfl (fun h273 => ?_)
        refine sSl (by decide +kernel) h273 ?_
        refine sCvI oI rfl (ci := 11) (q := (12, 0)) (avs := [vi (rI μ 0 0 (ix (v3 + 1))), vi (rI μ 0 0 (ix (v3 + 2))), vi (rI μ 0 0 (ix (v3 + 3)))]) (rest := []) (tX11_hireAt (rI μ 0 0 (ix (v3 + 1))) (rI μ 0 0 (ix (v3 + 2))) (rI μ 0 0 (ix (v3 + 3))) μ) (by decide) (by decide +kernel) lk_13_185 yv_X11_hireAt rfl (by decide) rfl rfl rfl (Nat.le_of_ble_eq_true rfl) (fun x274 μ275 => ?_)
        refine sBk (lo' := [(0, vr 0 0), (1, vr 12 0), (2, vr 13 0), (3, vi v3)]) (st' := [vi (v3 + 1), vr 0 0, vr 13 0, vi x274]) (μ' := μ275) (pc' := 1468) [(.aload_n 2, 0, 0, 0, 0), (.aload_n 0, 0, 0, 0, 0), (.iload_n 3, 0, 0, 0, 0), (.iconst 1, 0, 0, 1, 0), (.iadd, 0, 0, 0, 0)] (by decide +kernel) rfl rfl ?_
        refine sCk oI rfl (fun h276 => ?_)
        refine sSl (by decide +kernel) h276 ?_
        refine sBk (lo' := [(0, vr 0 0), (1, vr 12 0), (2, vr 13 0), (3, vi v3)]) (st' := [vi (v3 + 2), vr 0 0, vi (rI μ275 0 0 (ix (v3 + 1))), vr 13 0, vi x274]) (μ' := μ275) (pc' := 1473) [(.aload_n 0, 0, 0, 0, 0), (.iload_n 3, 0, 0, 0, 0), (.iconst 2, 0, 0, 2, 0), (.iadd, 0, 0, 0, 0)] (by decide +kernel) rfl rfl ?_
        refine sCk oI rfl (fun h277 => ?_)
        refine sSl (by decide +kernel) h277 ?_
        refine sBk (lo' := [(0, vr 0 0), (1, vr 12 0), (2, vr 13 0), (3, vi v3)]) (st' := [vi (v3 + 3), vr 0 0, vi (rI μ275 0 0 (ix (v3 + 2))), vi (rI μ275 0 0 (ix (v3 + 1))), vr 13 0, vi x274]) (μ' := μ275) (pc' := 1478) [(.aload_n 0, 0, 0, 0, 0), (.iload_n 3, 0, 0, 0, 0), (.iconst 3, 0, 0, 3, 0), (.iadd, 0, 0, 0, 0)] (by decide +kernel) rfl rfl ?_
        refine sCk oI rfl (fun h278 => ?_)
        refine sSl (by decide +kernel) h278 ?_
        refine sCvI oI rfl (ci := 12) (q := (13, 0)) (avs := [vi (rI μ275 0 0 (ix (v3 + 1))), vi (rI μ275 0 0 (ix (v3 + 2))), vi (rI μ275 0 0 (ix (v3 + 3)))]) (rest := [vi x274]) (tX12_hireAt (rI μ275 0 0 (ix (v3 + 1))) (rI μ275 0 0 (ix (v3 + 2))) (rI μ275 0 0 (ix (v3 + 3))) μ275) (by decide) (by decide +kernel) lk_13_188 yv_X12_hireAt rfl (by decide) rfl rfl rfl (Nat.le_of_ble_eq_true rfl) (fun x279 μ280 => ?_)
        refine sIc_eq oI (off := 374) (tgt := 1856) (by decide +kernel) (by decide) (fun _ => ?_) (fun _ => ?_)
        · exact L_law_J1856_ok ih v3 μ280
        · refine sBk (lo' := [(0, vr 0 0), (1, vr 12 0), (2, vr 13 0), (3, vi v3)]) (st' := [vi 0]) (μ' := μ280) (pc' := 1486) [(.iconst 0, 0, 0, 0, 0)] (by decide +kernel) rfl rfl ?_
          exact sRi (by decide +kernel) (fun _ => Or.inl rfl)
      refine sSc oI (fun _ => ?_) (fun _ => ?_)
      · refine sBk (lo' := [(0, vr 0 0), (1, vr 12 0), (2, vr 13 0), (3, vi v3)]) (st' := [vi (v3 + 1), vr 0 0, vr 12 0]) (μ' := μ) (pc' := 1492) [(.aload_n 1, 0, 0, 0, 0), (.aload_n 0, 0, 0, 0, 0), (.iload_n 3, 0, 0, 0, 0), (.iconst 1, 0, 0, 1, 0), (.iadd, 0, 0, 0, 0)] (by decide +kernel) rfl rfl ?_
        refine sCk oI rfl (fun h281 => ?_)
        refine sSl (by decide +kernel) h281 ?_
        refine sBk (lo' := [(0, vr 0 0), (1, vr 12 0), (2, vr 13 0), (3, vi v3)]) (st' := [vi (v3 + 2), vr 0 0, vi (rI μ 0 0 (ix (v3 + 1))), vr 12 0]) (μ' := μ) (pc' := 1497) [(.aload_n 0, 0, 0, 0, 0), (.iload_n 3, 0, 0, 0, 0), (.iconst 2, 0, 0, 2, 0), (.iadd, 0, 0, 0, 0)] (by decide +kernel) rfl rfl ?_
        refine sCk oI rfl (fun h282 => ?_)
        refine sSl (by decide +kernel) h282 ?_
        refine sCvI oI rfl (ci := 11) (q := (12, 0)) (avs := [vi (rI μ 0 0 (ix (v3 + 1))), vi (rI μ 0 0 (ix (v3 + 2)))]) (rest := []) (tX11_wound (rI μ 0 0 (ix (v3 + 1))) (rI μ 0 0 (ix (v3 + 2))) μ) (by decide) (by decide +kernel) lk_13_189 yv_X11_wound rfl (by decide) rfl rfl rfl (Nat.le_of_ble_eq_true rfl) (fun x283 μ284 => ?_)
        refine sBk (lo' := [(0, vr 0 0), (1, vr 12 0), (2, vr 13 0), (3, vi v3)]) (st' := [vi (v3 + 1), vr 0 0, vr 13 0, vi x283]) (μ' := μ284) (pc' := 1506) [(.aload_n 2, 0, 0, 0, 0), (.aload_n 0, 0, 0, 0, 0), (.iload_n 3, 0, 0, 0, 0), (.iconst 1, 0, 0, 1, 0), (.iadd, 0, 0, 0, 0)] (by decide +kernel) rfl rfl ?_
        refine sCk oI rfl (fun h285 => ?_)
        refine sSl (by decide +kernel) h285 ?_
        refine sBk (lo' := [(0, vr 0 0), (1, vr 12 0), (2, vr 13 0), (3, vi v3)]) (st' := [vi (v3 + 2), vr 0 0, vi (rI μ284 0 0 (ix (v3 + 1))), vr 13 0, vi x283]) (μ' := μ284) (pc' := 1511) [(.aload_n 0, 0, 0, 0, 0), (.iload_n 3, 0, 0, 0, 0), (.iconst 2, 0, 0, 2, 0), (.iadd, 0, 0, 0, 0)] (by decide +kernel) rfl rfl ?_
        refine sCk oI rfl (fun h286 => ?_)
        refine sSl (by decide +kernel) h286 ?_
        refine sCvI oI rfl (ci := 12) (q := (13, 0)) (avs := [vi (rI μ284 0 0 (ix (v3 + 1))), vi (rI μ284 0 0 (ix (v3 + 2)))]) (rest := [vi x283]) (tX12_wound (rI μ284 0 0 (ix (v3 + 1))) (rI μ284 0 0 (ix (v3 + 2))) μ284) (by decide) (by decide +kernel) lk_13_192 yv_X12_wound rfl (by decide) rfl rfl rfl (Nat.le_of_ble_eq_true rfl) (fun x287 μ288 => ?_)
        refine sIc_eq oI (off := 341) (tgt := 1856) (by decide +kernel) (by decide) (fun _ => ?_) (fun _ => ?_)
        · exact L_law_J1856_ok ih v3 μ288
        · refine sBk (lo' := [(0, vr 0 0), (1, vr 12 0), (2, vr 13 0), (3, vi v3)]) (st' := [vi 0]) (μ' := μ288) (pc' := 1519) [(.iconst 0, 0, 0, 0, 0)] (by decide +kernel) rfl rfl ?_
          exact sRi (by decide +kernel) (fun _ => Or.inl rfl)
      refine sSc oI (fun _ => ?_) (fun _ => ?_)
      · refine sBk (lo' := [(0, vr 0 0), (1, vr 12 0), (2, vr 13 0), (3, vi v3)]) (st' := [vi (v3 + 1), vr 0 0, vr 12 0]) (μ' := μ) (pc' := 1525) [(.aload_n 1, 0, 0, 0, 0), (.aload_n 0, 0, 0, 0, 0), (.iload_n 3, 0, 0, 0, 0), (.iconst 1, 0, 0, 1, 0), (.iadd, 0, 0, 0, 0)] (by decide +kernel) rfl rfl ?_
        refine sCk oI rfl (fun h289 => ?_)
        refine sSl (by decide +kernel) h289 ?_
        refine sBk (lo' := [(0, vr 0 0), (1, vr 12 0), (2, vr 13 0), (3, vi v3)]) (st' := [vi (v3 + 2), vr 0 0, vi (rI μ 0 0 (ix (v3 + 1))), vr 12 0]) (μ' := μ) (pc' := 1530) [(.aload_n 0, 0, 0, 0, 0), (.iload_n 3, 0, 0, 0, 0), (.iconst 2, 0, 0, 2, 0), (.iadd, 0, 0, 0, 0)] (by decide +kernel) rfl rfl ?_
        refine sCk oI rfl (fun h290 => ?_)
        refine sSl (by decide +kernel) h290 ?_
        refine sCvI oI rfl (ci := 11) (q := (12, 0)) (avs := [vi (rI μ 0 0 (ix (v3 + 1))), vi (rI μ 0 0 (ix (v3 + 2)))]) (rest := []) (tX11_sure (rI μ 0 0 (ix (v3 + 1))) (rI μ 0 0 (ix (v3 + 2))) μ) (by decide) (by decide +kernel) lk_13_193 yv_X11_sure rfl (by decide) rfl rfl rfl (Nat.le_of_ble_eq_true rfl) (fun x291 μ292 => ?_)
        refine sBk (lo' := [(0, vr 0 0), (1, vr 12 0), (2, vr 13 0), (3, vi v3)]) (st' := [vi (v3 + 1), vr 0 0, vr 13 0, vi x291]) (μ' := μ292) (pc' := 1539) [(.aload_n 2, 0, 0, 0, 0), (.aload_n 0, 0, 0, 0, 0), (.iload_n 3, 0, 0, 0, 0), (.iconst 1, 0, 0, 1, 0), (.iadd, 0, 0, 0, 0)] (by decide +kernel) rfl rfl ?_
        refine sCk oI rfl (fun h293 => ?_)
        refine sSl (by decide +kernel) h293 ?_
        refine sBk (lo' := [(0, vr 0 0), (1, vr 12 0), (2, vr 13 0), (3, vi v3)]) (st' := [vi (v3 + 2), vr 0 0, vi (rI μ292 0 0 (ix (v3 + 1))), vr 13 0, vi x291]) (μ' := μ292) (pc' := 1544) [(.aload_n 0, 0, 0, 0, 0), (.iload_n 3, 0, 0, 0, 0), (.iconst 2, 0, 0, 2, 0), (.iadd, 0, 0, 0, 0)] (by decide +kernel) rfl rfl ?_
        refine sCk oI rfl (fun h294 => ?_)
        refine sSl (by decide +kernel) h294 ?_
        refine sCvI oI rfl (ci := 12) (q := (13, 0)) (avs := [vi (rI μ292 0 0 (ix (v3 + 1))), vi (rI μ292 0 0 (ix (v3 + 2)))]) (rest := [vi x291]) (tX12_sure (rI μ292 0 0 (ix (v3 + 1))) (rI μ292 0 0 (ix (v3 + 2))) μ292) (by decide) (by decide +kernel) lk_13_196 yv_X12_sure rfl (by decide) rfl rfl rfl (Nat.le_of_ble_eq_true rfl) (fun x295 μ296 => ?_)
        refine sIc_eq oI (off := 308) (tgt := 1856) (by decide +kernel) (by decide) (fun _ => ?_) (fun _ => ?_)
        · exact L_law_J1856_ok ih v3 μ296
        · refine sBk (lo' := [(0, vr 0 0), (1, vr 12 0), (2, vr 13 0), (3, vi v3)]) (st' := [vi 0]) (μ' := μ296) (pc' := 1552) [(.iconst 0, 0, 0, 0, 0)] (by decide +kernel) rfl rfl ?_
          exact sRi (by decide +kernel) (fun _ => Or.inl rfl)
      refine sSc oI (fun _ => ?_) (fun _ => ?_)
      · refine sBk (lo' := [(0, vr 0 0), (1, vr 12 0), (2, vr 13 0), (3, vi v3)]) (st' := [vi (v3 + 1), vr 0 0, vr 12 0]) (μ' := μ) (pc' := 1558) [(.aload_n 1, 0, 0, 0, 0), (.aload_n 0, 0, 0, 0, 0), (.iload_n 3, 0, 0, 0, 0), (.iconst 1, 0, 0, 1, 0), (.iadd, 0, 0, 0, 0)] (by decide +kernel) rfl rfl ?_
        refine sCk oI rfl (fun h297 => ?_)
        refine sSl (by decide +kernel) h297 ?_
        refine sBk (lo' := [(0, vr 0 0), (1, vr 12 0), (2, vr 13 0), (3, vi v3)]) (st' := [vi (v3 + 2), vr 0 0, vi (rI μ 0 0 (ix (v3 + 1))), vr 12 0]) (μ' := μ) (pc' := 1563) [(.aload_n 0, 0, 0, 0, 0), (.iload_n 3, 0, 0, 0, 0), (.iconst 2, 0, 0, 2, 0), (.iadd, 0, 0, 0, 0)] (by decide +kernel) rfl rfl ?_
        refine sCk oI rfl (fun h298 => ?_)
        refine sSl (by decide +kernel) h298 ?_
        refine sCvI oI rfl (ci := 11) (q := (12, 0)) (avs := [vi (rI μ 0 0 (ix (v3 + 1))), vi (rI μ 0 0 (ix (v3 + 2)))]) (rest := []) (tX11_cheapest (rI μ 0 0 (ix (v3 + 1))) (rI μ 0 0 (ix (v3 + 2))) μ) (by decide) (by decide +kernel) lk_13_197 yv_X11_cheapest rfl (by decide) rfl rfl rfl (Nat.le_of_ble_eq_true rfl) (fun x299 μ300 => ?_)
        refine sBk (lo' := [(0, vr 0 0), (1, vr 12 0), (2, vr 13 0), (3, vi v3)]) (st' := [vi (v3 + 1), vr 0 0, vr 13 0, vi x299]) (μ' := μ300) (pc' := 1572) [(.aload_n 2, 0, 0, 0, 0), (.aload_n 0, 0, 0, 0, 0), (.iload_n 3, 0, 0, 0, 0), (.iconst 1, 0, 0, 1, 0), (.iadd, 0, 0, 0, 0)] (by decide +kernel) rfl rfl ?_
        refine sCk oI rfl (fun h301 => ?_)
        refine sSl (by decide +kernel) h301 ?_
        refine sBk (lo' := [(0, vr 0 0), (1, vr 12 0), (2, vr 13 0), (3, vi v3)]) (st' := [vi (v3 + 2), vr 0 0, vi (rI μ300 0 0 (ix (v3 + 1))), vr 13 0, vi x299]) (μ' := μ300) (pc' := 1577) [(.aload_n 0, 0, 0, 0, 0), (.iload_n 3, 0, 0, 0, 0), (.iconst 2, 0, 0, 2, 0), (.iadd, 0, 0, 0, 0)] (by decide +kernel) rfl rfl ?_
        refine sCk oI rfl (fun h302 => ?_)
        refine sSl (by decide +kernel) h302 ?_
        refine sCvI oI rfl (ci := 12) (q := (13, 0)) (avs := [vi (rI μ300 0 0 (ix (v3 + 1))), vi (rI μ300 0 0 (ix (v3 + 2)))]) (rest := [vi x299]) (tX12_cheapest (rI μ300 0 0 (ix (v3 + 1))) (rI μ300 0 0 (ix (v3 + 2))) μ300) (by decide) (by decide +kernel) lk_13_200 yv_X12_cheapest rfl (by decide) rfl rfl rfl (Nat.le_of_ble_eq_true rfl) (fun x303 μ304 => ?_)
        refine sIc_eq oI (off := 275) (tgt := 1856) (by decide +kernel) (by decide) (fun _ => ?_) (fun _ => ?_)
        · exact L_law_J1856_ok ih v3 μ304
        · refine sBk (lo' := [(0, vr 0 0), (1, vr 12 0), (2, vr 13 0), (3, vi v3)]) (st' := [vi 0]) (μ' := μ304) (pc' := 1585) [(.iconst 0, 0, 0, 0, 0)] (by decide +kernel) rfl rfl ?_
          exact sRi (by decide +kernel) (fun _ => Or.inl rfl)
      refine sSc oI (fun _ => ?_) (fun _ => ?_)
      · refine sBk (lo' := [(0, vr 0 0), (1, vr 12 0), (2, vr 13 0), (3, vi v3)]) (st' := [vi (v3 + 1), vr 0 0, vr 12 0]) (μ' := μ) (pc' := 1591) [(.aload_n 1, 0, 0, 0, 0), (.aload_n 0, 0, 0, 0, 0), (.iload_n 3, 0, 0, 0, 0), (.iconst 1, 0, 0, 1, 0), (.iadd, 0, 0, 0, 0)] (by decide +kernel) rfl rfl ?_
        refine sCk oI rfl (fun h305 => ?_)
        refine sSl (by decide +kernel) h305 ?_
        refine sBk (lo' := [(0, vr 0 0), (1, vr 12 0), (2, vr 13 0), (3, vi v3)]) (st' := [vi (v3 + 2), vr 0 0, vi (rI μ 0 0 (ix (v3 + 1))), vr 12 0]) (μ' := μ) (pc' := 1596) [(.aload_n 0, 0, 0, 0, 0), (.iload_n 3, 0, 0, 0, 0), (.iconst 2, 0, 0, 2, 0), (.iadd, 0, 0, 0, 0)] (by decide +kernel) rfl rfl ?_
        refine sCk oI rfl (fun h306 => ?_)
        refine sSl (by decide +kernel) h306 ?_
        refine sBk (lo' := [(0, vr 0 0), (1, vr 12 0), (2, vr 13 0), (3, vi v3)]) (st' := [vi (v3 + 3), vr 0 0, vi (rI μ 0 0 (ix (v3 + 2))), vi (rI μ 0 0 (ix (v3 + 1))), vr 12 0]) (μ' := μ) (pc' := 1601) [(.aload_n 0, 0, 0, 0, 0), (.iload_n 3, 0, 0, 0, 0), (.iconst 3, 0, 0, 3, 0), (.iadd, 0, 0, 0, 0)] (by decide +kernel) rfl rfl ?_
        refine sCk oI rfl (fun h307 => ?_)
        refine sSl (by decide +kernel) h307 ?_
        refine sCvI oI rfl (ci := 11) (q := (12, 0)) (avs := [vi (rI μ 0 0 (ix (v3 + 1))), vi (rI μ 0 0 (ix (v3 + 2))), vi (rI μ 0 0 (ix (v3 + 3)))]) (rest := []) (tX11_game (rI μ 0 0 (ix (v3 + 1))) (rI μ 0 0 (ix (v3 + 2))) (rI μ 0 0 (ix (v3 + 3))) μ) (by decide) (by decide +kernel) lk_13_201 yv_X11_game rfl (by decide) rfl rfl rfl (Nat.le_of_ble_eq_true rfl) (fun x308 μ309 => ?_)
        refine sBk (lo' := [(0, vr 0 0), (1, vr 12 0), (2, vr 13 0), (3, vi v3)]) (st' := [vi (v3 + 1), vr 0 0, vr 13 0, vi x308]) (μ' := μ309) (pc' := 1610) [(.aload_n 2, 0, 0, 0, 0), (.aload_n 0, 0, 0, 0, 0), (.iload_n 3, 0, 0, 0, 0), (.iconst 1, 0, 0, 1, 0), (.iadd, 0, 0, 0, 0)] (by decide +kernel) rfl rfl ?_
        refine sCk oI rfl (fun h310 => ?_)
        refine sSl (by decide +kernel) h310 ?_
        refine sBk (lo' := [(0, vr 0 0), (1, vr 12 0), (2, vr 13 0), (3, vi v3)]) (st' := [vi (v3 + 2), vr 0 0, vi (rI μ309 0 0 (ix (v3 + 1))), vr 13 0, vi x308]) (μ' := μ309) (pc' := 1615) [(.aload_n 0, 0, 0, 0, 0), (.iload_n 3, 0, 0, 0, 0), (.iconst 2, 0, 0, 2, 0), (.iadd, 0, 0, 0, 0)] (by decide +kernel) rfl rfl ?_
        refine sCk oI rfl (fun h311 => ?_)
        refine sSl (by decide +kernel) h311 ?_
        refine sBk (lo' := [(0, vr 0 0), (1, vr 12 0), (2, vr 13 0), (3, vi v3)]) (st' := [vi (v3 + 3), vr 0 0, vi (rI μ309 0 0 (ix (v3 + 2))), vi (rI μ309 0 0 (ix (v3 + 1))), vr 13 0, vi x308]) (μ' := μ309) (pc' := 1620) [(.aload_n 0, 0, 0, 0, 0), (.iload_n 3, 0, 0, 0, 0), (.iconst 3, 0, 0, 3, 0), (.iadd, 0, 0, 0, 0)] (by decide +kernel) rfl rfl ?_
        refine sCk oI rfl (fun h312 => ?_)
        refine sSl (by decide +kernel) h312 ?_
        refine sCvI oI rfl (ci := 12) (q := (13, 0)) (avs := [vi (rI μ309 0 0 (ix (v3 + 1))), vi (rI μ309 0 0 (ix (v3 + 2))), vi (rI μ309 0 0 (ix (v3 + 3)))]) (rest := [vi x308]) (tX12_game (rI μ309 0 0 (ix (v3 + 1))) (rI μ309 0 0 (ix (v3 + 2))) (rI μ309 0 0 (ix (v3 + 3))) μ309) (by decide) (by decide +kernel) lk_13_204 yv_X12_game rfl (by decide) rfl rfl rfl (Nat.le_of_ble_eq_true rfl) (fun x313 μ314 => ?_)
        refine sIc_eq oI (off := 232) (tgt := 1856) (by decide +kernel) (by decide) (fun _ => ?_) (fun _ => ?_)
        · exact L_law_J1856_ok ih v3 μ314
        · refine sBk (lo' := [(0, vr 0 0), (1, vr 12 0), (2, vr 13 0), (3, vi v3)]) (st' := [vi 0]) (μ' := μ314) (pc' := 1628) [(.iconst 0, 0, 0, 0, 0)] (by decide +kernel) rfl rfl ?_
          exact sRi (by decide +kernel) (fun _ => Or.inl rfl)
      refine sSc oI (fun _ => ?_) (fun _ => ?_)
      · refine sBk (lo' := [(0, vr 0 0), (1, vr 12 0), (2, vr 13 0), (3, vi v3)]) (st' := [vi (v3 + 1), vr 0 0, vr 12 0]) (μ' := μ) (pc' := 1634) [(.aload_n 1, 0, 0, 0, 0), (.aload_n 0, 0, 0, 0, 0), (.iload_n 3, 0, 0, 0, 0), (.iconst 1, 0, 0, 1, 0), (.iadd, 0, 0, 0, 0)] (by decide +kernel) rfl rfl ?_
        refine sCk oI rfl (fun h315 => ?_)
        refine sSl (by decide +kernel) h315 ?_
        refine sBk (lo' := [(0, vr 0 0), (1, vr 12 0), (2, vr 13 0), (3, vi v3)]) (st' := [vi (v3 + 2), vr 0 0, vi (rI μ 0 0 (ix (v3 + 1))), vr 12 0]) (μ' := μ) (pc' := 1639) [(.aload_n 0, 0, 0, 0, 0), (.iload_n 3, 0, 0, 0, 0), (.iconst 2, 0, 0, 2, 0), (.iadd, 0, 0, 0, 0)] (by decide +kernel) rfl rfl ?_
        refine sCk oI rfl (fun h316 => ?_)
        refine sSl (by decide +kernel) h316 ?_
        refine sBk (lo' := [(0, vr 0 0), (1, vr 12 0), (2, vr 13 0), (3, vi v3)]) (st' := [vi (v3 + 3), vr 0 0, vi (rI μ 0 0 (ix (v3 + 2))), vi (rI μ 0 0 (ix (v3 + 1))), vr 12 0]) (μ' := μ) (pc' := 1644) [(.aload_n 0, 0, 0, 0, 0), (.iload_n 3, 0, 0, 0, 0), (.iconst 3, 0, 0, 3, 0), (.iadd, 0, 0, 0, 0)] (by decide +kernel) rfl rfl ?_
        refine sCk oI rfl (fun h317 => ?_)
        refine sSl (by decide +kernel) h317 ?_
        refine sCvI oI rfl (ci := 11) (q := (12, 0)) (avs := [vi (rI μ 0 0 (ix (v3 + 1))), vi (rI μ 0 0 (ix (v3 + 2))), vi (rI μ 0 0 (ix (v3 + 3)))]) (rest := []) (tX11_moveOf (rI μ 0 0 (ix (v3 + 1))) (rI μ 0 0 (ix (v3 + 2))) (rI μ 0 0 (ix (v3 + 3))) μ) (by decide) (by decide +kernel) lk_13_205 yv_X11_moveOf rfl (by decide) rfl rfl rfl (Nat.le_of_ble_eq_true rfl) (fun x318 μ319 => ?_)
        refine sBk (lo' := [(0, vr 0 0), (1, vr 12 0), (2, vr 13 0), (3, vi v3)]) (st' := [vi (v3 + 1), vr 0 0, vr 13 0, vi x318]) (μ' := μ319) (pc' := 1653) [(.aload_n 2, 0, 0, 0, 0), (.aload_n 0, 0, 0, 0, 0), (.iload_n 3, 0, 0, 0, 0), (.iconst 1, 0, 0, 1, 0), (.iadd, 0, 0, 0, 0)] (by decide +kernel) rfl rfl ?_
        refine sCk oI rfl (fun h320 => ?_)
        refine sSl (by decide +kernel) h320 ?_
        refine sBk (lo' := [(0, vr 0 0), (1, vr 12 0), (2, vr 13 0), (3, vi v3)]) (st' := [vi (v3 + 2), vr 0 0, vi (rI μ319 0 0 (ix (v3 + 1))), vr 13 0, vi x318]) (μ' := μ319) (pc' := 1658) [(.aload_n 0, 0, 0, 0, 0), (.iload_n 3, 0, 0, 0, 0), (.iconst 2, 0, 0, 2, 0), (.iadd, 0, 0, 0, 0)] (by decide +kernel) rfl rfl ?_
        refine sCk oI rfl (fun h321 => ?_)
        refine sSl (by decide +kernel) h321 ?_
        refine sBk (lo' := [(0, vr 0 0), (1, vr 12 0), (2, vr 13 0), (3, vi v3)]) (st' := [vi (v3 + 3), vr 0 0, vi (rI μ319 0 0 (ix (v3 + 2))), vi (rI μ319 0 0 (ix (v3 + 1))), vr 13 0, vi x318]) (μ' := μ319) (pc' := 1663) [(.aload_n 0, 0, 0, 0, 0), (.iload_n 3, 0, 0, 0, 0), (.iconst 3, 0, 0, 3, 0), (.iadd, 0, 0, 0, 0)] (by decide +kernel) rfl rfl ?_
        refine sCk oI rfl (fun h322 => ?_)
        refine sSl (by decide +kernel) h322 ?_
        refine sCvI oI rfl (ci := 12) (q := (13, 0)) (avs := [vi (rI μ319 0 0 (ix (v3 + 1))), vi (rI μ319 0 0 (ix (v3 + 2))), vi (rI μ319 0 0 (ix (v3 + 3)))]) (rest := [vi x318]) (tX12_moveOf (rI μ319 0 0 (ix (v3 + 1))) (rI μ319 0 0 (ix (v3 + 2))) (rI μ319 0 0 (ix (v3 + 3))) μ319) (by decide) (by decide +kernel) lk_13_208 yv_X12_moveOf rfl (by decide) rfl rfl rfl (Nat.le_of_ble_eq_true rfl) (fun x323 μ324 => ?_)
        refine sIc_eq oI (off := 189) (tgt := 1856) (by decide +kernel) (by decide) (fun _ => ?_) (fun _ => ?_)
        · exact L_law_J1856_ok ih v3 μ324
        · refine sBk (lo' := [(0, vr 0 0), (1, vr 12 0), (2, vr 13 0), (3, vi v3)]) (st' := [vi 0]) (μ' := μ324) (pc' := 1671) [(.iconst 0, 0, 0, 0, 0)] (by decide +kernel) rfl rfl ?_
          exact sRi (by decide +kernel) (fun _ => Or.inl rfl)
      refine sSc oI (fun _ => ?_) (fun _ => ?_)
      · refine sBk (lo' := [(0, vr 0 0), (1, vr 12 0), (2, vr 13 0), (3, vi v3)]) (st' := [vi (v3 + 1), vr 0 0, vr 12 0]) (μ' := μ) (pc' := 1677) [(.aload_n 1, 0, 0, 0, 0), (.aload_n 0, 0, 0, 0, 0), (.iload_n 3, 0, 0, 0, 0), (.iconst 1, 0, 0, 1, 0), (.iadd, 0, 0, 0, 0)] (by decide +kernel) rfl rfl ?_
        refine sCk oI rfl (fun h325 => ?_)
        refine sSl (by decide +kernel) h325 ?_
        refine sCvI oI rfl (ci := 11) (q := (12, 0)) (avs := [vi (rI μ 0 0 (ix (v3 + 1)))]) (rest := []) (tX11_share (rI μ 0 0 (ix (v3 + 1))) μ) (by decide) (by decide +kernel) lk_13_209 yv_X11_share rfl (by decide) rfl rfl rfl (Nat.le_of_ble_eq_true rfl) (fun x326 μ327 => ?_)
        refine sBk (lo' := [(0, vr 0 0), (1, vr 12 0), (2, vr 13 0), (3, vi v3)]) (st' := [vi (v3 + 1), vr 0 0, vr 13 0, vi x326]) (μ' := μ327) (pc' := 1686) [(.aload_n 2, 0, 0, 0, 0), (.aload_n 0, 0, 0, 0, 0), (.iload_n 3, 0, 0, 0, 0), (.iconst 1, 0, 0, 1, 0), (.iadd, 0, 0, 0, 0)] (by decide +kernel) rfl rfl ?_
        refine sCk oI rfl (fun h328 => ?_)
        refine sSl (by decide +kernel) h328 ?_
        refine sCvI oI rfl (ci := 12) (q := (13, 0)) (avs := [vi (rI μ327 0 0 (ix (v3 + 1)))]) (rest := [vi x326]) (tX12_share (rI μ327 0 0 (ix (v3 + 1))) μ327) (by decide) (by decide +kernel) lk_13_213 yv_X12_share rfl (by decide) rfl rfl rfl (Nat.le_of_ble_eq_true rfl) (fun x329 μ330 => ?_)
        refine sIc_eq oI (off := 166) (tgt := 1856) (by decide +kernel) (by decide) (fun _ => ?_) (fun _ => ?_)
        · exact L_law_J1856_ok ih v3 μ330
        · refine sBk (lo' := [(0, vr 0 0), (1, vr 12 0), (2, vr 13 0), (3, vi v3)]) (st' := [vi 0]) (μ' := μ330) (pc' := 1694) [(.iconst 0, 0, 0, 0, 0)] (by decide +kernel) rfl rfl ?_
          exact sRi (by decide +kernel) (fun _ => Or.inl rfl)
      refine sSc oI (fun _ => ?_) (fun _ => ?_)
      · refine sBk (lo' := [(0, vr 0 0), (1, vr 12 0), (2, vr 13 0), (3, vi v3)]) (st' := [vi (v3 + 1), vr 0 0, vr 12 0]) (μ' := μ) (pc' := 1700) [(.aload_n 1, 0, 0, 0, 0), (.aload_n 0, 0, 0, 0, 0), (.iload_n 3, 0, 0, 0, 0), (.iconst 1, 0, 0, 1, 0), (.iadd, 0, 0, 0, 0)] (by decide +kernel) rfl rfl ?_
        refine sCk oI rfl (fun h331 => ?_)
        refine sSl (by decide +kernel) h331 ?_
        refine sCvI oI rfl (ci := 11) (q := (12, 0)) (avs := [vi (rI μ 0 0 (ix (v3 + 1)))]) (rest := []) (tX11_price (rI μ 0 0 (ix (v3 + 1))) μ) (by decide) (by decide +kernel) lk_13_214 yv_X11_price rfl (by decide) rfl rfl rfl (Nat.le_of_ble_eq_true rfl) (fun x332 μ333 => ?_)
        refine sBk (lo' := [(0, vr 0 0), (1, vr 12 0), (2, vr 13 0), (3, vi v3)]) (st' := [vi (v3 + 1), vr 0 0, vr 13 0, vi x332]) (μ' := μ333) (pc' := 1709) [(.aload_n 2, 0, 0, 0, 0), (.aload_n 0, 0, 0, 0, 0), (.iload_n 3, 0, 0, 0, 0), (.iconst 1, 0, 0, 1, 0), (.iadd, 0, 0, 0, 0)] (by decide +kernel) rfl rfl ?_
        refine sCk oI rfl (fun h334 => ?_)
        refine sSl (by decide +kernel) h334 ?_
        refine sCvI oI rfl (ci := 12) (q := (13, 0)) (avs := [vi (rI μ333 0 0 (ix (v3 + 1)))]) (rest := [vi x332]) (tX12_price (rI μ333 0 0 (ix (v3 + 1))) μ333) (by decide) (by decide +kernel) lk_13_217 yv_X12_price rfl (by decide) rfl rfl rfl (Nat.le_of_ble_eq_true rfl) (fun x335 μ336 => ?_)
        refine sIc_eq oI (off := 143) (tgt := 1856) (by decide +kernel) (by decide) (fun _ => ?_) (fun _ => ?_)
        · exact L_law_J1856_ok ih v3 μ336
        · refine sBk (lo' := [(0, vr 0 0), (1, vr 12 0), (2, vr 13 0), (3, vi v3)]) (st' := [vi 0]) (μ' := μ336) (pc' := 1717) [(.iconst 0, 0, 0, 0, 0)] (by decide +kernel) rfl rfl ?_
          exact sRi (by decide +kernel) (fun _ => Or.inl rfl)
      refine sSc oI (fun _ => ?_) (fun _ => ?_)
      · refine sBk (lo' := [(0, vr 0 0), (1, vr 12 0), (2, vr 13 0), (3, vi v3)]) (st' := [vi (v3 + 1), vr 0 0, vr 12 0]) (μ' := μ) (pc' := 1723) [(.aload_n 1, 0, 0, 0, 0), (.aload_n 0, 0, 0, 0, 0), (.iload_n 3, 0, 0, 0, 0), (.iconst 1, 0, 0, 1, 0), (.iadd, 0, 0, 0, 0)] (by decide +kernel) rfl rfl ?_
        refine sCk oI rfl (fun h337 => ?_)
        refine sSl (by decide +kernel) h337 ?_
        refine sBk (lo' := [(0, vr 0 0), (1, vr 12 0), (2, vr 13 0), (3, vi v3)]) (st' := [vi (v3 + 2), vr 0 0, vi (rI μ 0 0 (ix (v3 + 1))), vr 12 0]) (μ' := μ) (pc' := 1728) [(.aload_n 0, 0, 0, 0, 0), (.iload_n 3, 0, 0, 0, 0), (.iconst 2, 0, 0, 2, 0), (.iadd, 0, 0, 0, 0)] (by decide +kernel) rfl rfl ?_
        refine sCk oI rfl (fun h338 => ?_)
        refine sSl (by decide +kernel) h338 ?_
        refine sCvI oI rfl (ci := 11) (q := (12, 0)) (avs := [vi (rI μ 0 0 (ix (v3 + 1))), vi (rI μ 0 0 (ix (v3 + 2)))]) (rest := []) (tX11_wet (rI μ 0 0 (ix (v3 + 1))) (rI μ 0 0 (ix (v3 + 2))) μ) (by decide) (by decide +kernel) lk_13_218 yv_X11_wet rfl (by decide) rfl rfl rfl (Nat.le_of_ble_eq_true rfl) (fun x339 μ340 => ?_)
        refine sBk (lo' := [(0, vr 0 0), (1, vr 12 0), (2, vr 13 0), (3, vi v3)]) (st' := [vi (v3 + 1), vr 0 0, vr 13 0, vi x339]) (μ' := μ340) (pc' := 1737) [(.aload_n 2, 0, 0, 0, 0), (.aload_n 0, 0, 0, 0, 0), (.iload_n 3, 0, 0, 0, 0), (.iconst 1, 0, 0, 1, 0), (.iadd, 0, 0, 0, 0)] (by decide +kernel) rfl rfl ?_
        refine sCk oI rfl (fun h341 => ?_)
        refine sSl (by decide +kernel) h341 ?_
        refine sBk (lo' := [(0, vr 0 0), (1, vr 12 0), (2, vr 13 0), (3, vi v3)]) (st' := [vi (v3 + 2), vr 0 0, vi (rI μ340 0 0 (ix (v3 + 1))), vr 13 0, vi x339]) (μ' := μ340) (pc' := 1742) [(.aload_n 0, 0, 0, 0, 0), (.iload_n 3, 0, 0, 0, 0), (.iconst 2, 0, 0, 2, 0), (.iadd, 0, 0, 0, 0)] (by decide +kernel) rfl rfl ?_
        refine sCk oI rfl (fun h342 => ?_)
        refine sSl (by decide +kernel) h342 ?_
        refine sCvI oI rfl (ci := 12) (q := (13, 0)) (avs := [vi (rI μ340 0 0 (ix (v3 + 1))), vi (rI μ340 0 0 (ix (v3 + 2)))]) (rest := [vi x339]) (tX12_wet (rI μ340 0 0 (ix (v3 + 1))) (rI μ340 0 0 (ix (v3 + 2))) μ340) (by decide) (by decide +kernel) lk_13_221 yv_X12_wet rfl (by decide) rfl rfl rfl (Nat.le_of_ble_eq_true rfl) (fun x343 μ344 => ?_)
        refine sIc_eq oI (off := 110) (tgt := 1856) (by decide +kernel) (by decide) (fun _ => ?_) (fun _ => ?_)
        · exact L_law_J1856_ok ih v3 μ344
        · refine sBk (lo' := [(0, vr 0 0), (1, vr 12 0), (2, vr 13 0), (3, vi v3)]) (st' := [vi 0]) (μ' := μ344) (pc' := 1750) [(.iconst 0, 0, 0, 0, 0)] (by decide +kernel) rfl rfl ?_
          exact sRi (by decide +kernel) (fun _ => Or.inl rfl)
      refine sSc oI (fun _ => ?_) (fun _ => ?_)
      · refine sBk (lo' := [(0, vr 0 0), (1, vr 12 0), (2, vr 13 0), (3, vi v3)]) (st' := [vi (v3 + 1), vr 0 0, vr 12 0]) (μ' := μ) (pc' := 1756) [(.aload_n 1, 0, 0, 0, 0), (.aload_n 0, 0, 0, 0, 0), (.iload_n 3, 0, 0, 0, 0), (.iconst 1, 0, 0, 1, 0), (.iadd, 0, 0, 0, 0)] (by decide +kernel) rfl rfl ?_
        refine sCk oI rfl (fun h345 => ?_)
        refine sSl (by decide +kernel) h345 ?_
        refine sCvI oI rfl (ci := 11) (q := (12, 0)) (avs := [vi (rI μ 0 0 (ix (v3 + 1)))]) (rest := []) (tX11_live (rI μ 0 0 (ix (v3 + 1))) μ) (by decide) (by decide +kernel) lk_13_222 yv_X11_live rfl (by decide) rfl rfl rfl (Nat.le_of_ble_eq_true rfl) (fun x346 μ347 => ?_)
        refine sBk (lo' := [(0, vr 0 0), (1, vr 12 0), (2, vr 13 0), (3, vi v3)]) (st' := [vi (v3 + 1), vr 0 0, vr 13 0, vi x346]) (μ' := μ347) (pc' := 1765) [(.aload_n 2, 0, 0, 0, 0), (.aload_n 0, 0, 0, 0, 0), (.iload_n 3, 0, 0, 0, 0), (.iconst 1, 0, 0, 1, 0), (.iadd, 0, 0, 0, 0)] (by decide +kernel) rfl rfl ?_
        refine sCk oI rfl (fun h348 => ?_)
        refine sSl (by decide +kernel) h348 ?_
        refine sCvI oI rfl (ci := 12) (q := (13, 0)) (avs := [vi (rI μ347 0 0 (ix (v3 + 1)))]) (rest := [vi x346]) (tX12_live (rI μ347 0 0 (ix (v3 + 1))) μ347) (by decide) (by decide +kernel) lk_13_225 yv_X12_live rfl (by decide) rfl rfl rfl (Nat.le_of_ble_eq_true rfl) (fun x349 μ350 => ?_)
        refine sIc_eq oI (off := 87) (tgt := 1856) (by decide +kernel) (by decide) (fun _ => ?_) (fun _ => ?_)
        · exact L_law_J1856_ok ih v3 μ350
        · refine sBk (lo' := [(0, vr 0 0), (1, vr 12 0), (2, vr 13 0), (3, vi v3)]) (st' := [vi 0]) (μ' := μ350) (pc' := 1773) [(.iconst 0, 0, 0, 0, 0)] (by decide +kernel) rfl rfl ?_
          exact sRi (by decide +kernel) (fun _ => Or.inl rfl)
      refine sSc oI (fun _ => ?_) (fun _ => ?_)
      · refine sBk (lo' := [(0, vr 0 0), (1, vr 12 0), (2, vr 13 0), (3, vi v3)]) (st' := [vi (v3 + 1), vr 0 0, vr 12 0]) (μ' := μ) (pc' := 1779) [(.aload_n 1, 0, 0, 0, 0), (.aload_n 0, 0, 0, 0, 0), (.iload_n 3, 0, 0, 0, 0), (.iconst 1, 0, 0, 1, 0), (.iadd, 0, 0, 0, 0)] (by decide +kernel) rfl rfl ?_
        refine sCk oI rfl (fun h351 => ?_)
        refine sSl (by decide +kernel) h351 ?_
        refine sCvI oI rfl (ci := 11) (q := (12, 0)) (avs := [vi (rI μ 0 0 (ix (v3 + 1)))]) (rest := []) (tX11_lived (rI μ 0 0 (ix (v3 + 1))) μ) (by decide) (by decide +kernel) lk_13_226 yv_X11_lived rfl (by decide) rfl rfl rfl (Nat.le_of_ble_eq_true rfl) (fun x352 μ353 => ?_)
        refine sBk (lo' := [(0, vr 0 0), (1, vr 12 0), (2, vr 13 0), (3, vi v3)]) (st' := [vi (v3 + 1), vr 0 0, vr 13 0, vi x352]) (μ' := μ353) (pc' := 1788) [(.aload_n 2, 0, 0, 0, 0), (.aload_n 0, 0, 0, 0, 0), (.iload_n 3, 0, 0, 0, 0), (.iconst 1, 0, 0, 1, 0), (.iadd, 0, 0, 0, 0)] (by decide +kernel) rfl rfl ?_
        refine sCk oI rfl (fun h354 => ?_)
        refine sSl (by decide +kernel) h354 ?_
        refine sCvI oI rfl (ci := 12) (q := (13, 0)) (avs := [vi (rI μ353 0 0 (ix (v3 + 1)))]) (rest := [vi x352]) (tX12_lived (rI μ353 0 0 (ix (v3 + 1))) μ353) (by decide) (by decide +kernel) lk_13_229 yv_X12_lived rfl (by decide) rfl rfl rfl (Nat.le_of_ble_eq_true rfl) (fun x355 μ356 => ?_)
        refine sIc_eq oI (off := 64) (tgt := 1856) (by decide +kernel) (by decide) (fun _ => ?_) (fun _ => ?_)
        · exact L_law_J1856_ok ih v3 μ356
        · refine sBk (lo' := [(0, vr 0 0), (1, vr 12 0), (2, vr 13 0), (3, vi v3)]) (st' := [vi 0]) (μ' := μ356) (pc' := 1796) [(.iconst 0, 0, 0, 0, 0)] (by decide +kernel) rfl rfl ?_
          exact sRi (by decide +kernel) (fun _ => Or.inl rfl)
      refine sSc oI (fun _ => ?_) (fun _ => ?_)
      · refine sBk (lo' := [(0, vr 0 0), (1, vr 12 0), (2, vr 13 0), (3, vi v3)]) (st' := [vi (v3 + 1), vr 0 0, vr 12 0]) (μ' := μ) (pc' := 1802) [(.aload_n 1, 0, 0, 0, 0), (.aload_n 0, 0, 0, 0, 0), (.iload_n 3, 0, 0, 0, 0), (.iconst 1, 0, 0, 1, 0), (.iadd, 0, 0, 0, 0)] (by decide +kernel) rfl rfl ?_
        refine sCk oI rfl (fun h357 => ?_)
        refine sSl (by decide +kernel) h357 ?_
        refine sBk (lo' := [(0, vr 0 0), (1, vr 12 0), (2, vr 13 0), (3, vi v3)]) (st' := [vi (v3 + 2), vr 0 0, vi (rI μ 0 0 (ix (v3 + 1))), vr 12 0]) (μ' := μ) (pc' := 1807) [(.aload_n 0, 0, 0, 0, 0), (.iload_n 3, 0, 0, 0, 0), (.iconst 2, 0, 0, 2, 0), (.iadd, 0, 0, 0, 0)] (by decide +kernel) rfl rfl ?_
        refine sCk oI rfl (fun h358 => ?_)
        refine sSl (by decide +kernel) h358 ?_
        refine sCvI oI rfl (ci := 11) (q := (12, 0)) (avs := [vi (rI μ 0 0 (ix (v3 + 1))), vi (rI μ 0 0 (ix (v3 + 2)))]) (rest := []) (tX11_mean (rI μ 0 0 (ix (v3 + 1))) (rI μ 0 0 (ix (v3 + 2))) μ) (by decide) (by decide +kernel) lk_13_230 yv_X11_mean rfl (by decide) rfl rfl rfl (Nat.le_of_ble_eq_true rfl) (fun x359 μ360 => ?_)
        refine sBk (lo' := [(0, vr 0 0), (1, vr 12 0), (2, vr 13 0), (3, vi v3)]) (st' := [vi (v3 + 1), vr 0 0, vr 13 0, vi x359]) (μ' := μ360) (pc' := 1816) [(.aload_n 2, 0, 0, 0, 0), (.aload_n 0, 0, 0, 0, 0), (.iload_n 3, 0, 0, 0, 0), (.iconst 1, 0, 0, 1, 0), (.iadd, 0, 0, 0, 0)] (by decide +kernel) rfl rfl ?_
        refine sCk oI rfl (fun h361 => ?_)
        refine sSl (by decide +kernel) h361 ?_
        refine sBk (lo' := [(0, vr 0 0), (1, vr 12 0), (2, vr 13 0), (3, vi v3)]) (st' := [vi (v3 + 2), vr 0 0, vi (rI μ360 0 0 (ix (v3 + 1))), vr 13 0, vi x359]) (μ' := μ360) (pc' := 1821) [(.aload_n 0, 0, 0, 0, 0), (.iload_n 3, 0, 0, 0, 0), (.iconst 2, 0, 0, 2, 0), (.iadd, 0, 0, 0, 0)] (by decide +kernel) rfl rfl ?_
        refine sCk oI rfl (fun h362 => ?_)
        refine sSl (by decide +kernel) h362 ?_
        refine sCvI oI rfl (ci := 12) (q := (13, 0)) (avs := [vi (rI μ360 0 0 (ix (v3 + 1))), vi (rI μ360 0 0 (ix (v3 + 2)))]) (rest := [vi x359]) (tX12_mean (rI μ360 0 0 (ix (v3 + 1))) (rI μ360 0 0 (ix (v3 + 2))) μ360) (by decide) (by decide +kernel) lk_13_233 yv_X12_mean rfl (by decide) rfl rfl rfl (Nat.le_of_ble_eq_true rfl) (fun x363 μ364 => ?_)
        refine sIc_eq oI (off := 31) (tgt := 1856) (by decide +kernel) (by decide) (fun _ => ?_) (fun _ => ?_)
        · exact L_law_J1856_ok ih v3 μ364
        · refine sBk (lo' := [(0, vr 0 0), (1, vr 12 0), (2, vr 13 0), (3, vi v3)]) (st' := [vi 0]) (μ' := μ364) (pc' := 1829) [(.iconst 0, 0, 0, 0, 0)] (by decide +kernel) rfl rfl ?_
          exact sRi (by decide +kernel) (fun _ => Or.inl rfl)
      refine sSc oI (fun _ => ?_) (fun _ => ?_)
      · refine sBk (lo' := [(0, vr 0 0), (1, vr 12 0), (2, vr 13 0), (3, vi v3)]) (st' := [vr 12 0]) (μ' := μ) (pc' := 1831) [(.aload_n 1, 0, 0, 0, 0)] (by decide +kernel) rfl rfl ?_
        refine sCvI oI rfl (ci := 11) (q := (12, 0)) (avs := []) (rest := []) (tX11_mark μ) (by decide) (by decide +kernel) lk_13_234 yv_X11_mark rfl (by decide) rfl rfl rfl (Nat.le_of_ble_eq_true rfl) (fun x365 μ366 => ?_)
        refine sBk (lo' := [(0, vr 0 0), (1, vr 12 0), (2, vr 13 0), (3, vi v3)]) (st' := [vr 13 0, vi x365]) (μ' := μ366) (pc' := 1835) [(.aload_n 2, 0, 0, 0, 0)] (by decide +kernel) rfl rfl ?_
        refine sCvI oI rfl (ci := 12) (q := (13, 0)) (avs := []) (rest := [vi x365]) (tX12_mark μ366) (by decide) (by decide +kernel) lk_13_237 yv_X12_mark rfl (by decide) rfl rfl rfl (Nat.le_of_ble_eq_true rfl) (fun x367 μ368 => ?_)
        refine sIc_eq oI (off := 18) (tgt := 1856) (by decide +kernel) (by decide) (fun _ => ?_) (fun _ => ?_)
        · exact L_law_J1856_ok ih v3 μ368
        · refine sBk (lo' := [(0, vr 0 0), (1, vr 12 0), (2, vr 13 0), (3, vi v3)]) (st' := [vi 0]) (μ' := μ368) (pc' := 1842) [(.iconst 0, 0, 0, 0, 0)] (by decide +kernel) rfl rfl ?_
          exact sRi (by decide +kernel) (fun _ => Or.inl rfl)
      refine sSc oI (fun _ => ?_) (fun _ => ?_)
      · refine sBk (lo' := [(0, vr 0 0), (1, vr 12 0), (2, vr 13 0), (3, vi v3)]) (st' := [vr 12 0]) (μ' := μ) (pc' := 1844) [(.aload_n 1, 0, 0, 0, 0)] (by decide +kernel) rfl rfl ?_
        refine sCvI oI rfl (ci := 11) (q := (12, 0)) (avs := []) (rest := []) (tX11_back μ) (by decide) (by decide +kernel) lk_13_238 yv_X11_back rfl (by decide) rfl rfl rfl (Nat.le_of_ble_eq_true rfl) (fun x369 μ370 => ?_)
        refine sBk (lo' := [(0, vr 0 0), (1, vr 12 0), (2, vr 13 0), (3, vi v3)]) (st' := [vr 13 0, vi x369]) (μ' := μ370) (pc' := 1848) [(.aload_n 2, 0, 0, 0, 0)] (by decide +kernel) rfl rfl ?_
        refine sCvI oI rfl (ci := 12) (q := (13, 0)) (avs := []) (rest := [vi x369]) (tX12_back μ370) (by decide) (by decide +kernel) lk_13_241 yv_X12_back rfl (by decide) rfl rfl rfl (Nat.le_of_ble_eq_true rfl) (fun x371 μ372 => ?_)
        refine sIc_eq oI (off := 5) (tgt := 1856) (by decide +kernel) (by decide) (fun _ => ?_) (fun _ => ?_)
        · exact L_law_J1856_ok ih v3 μ372
        · refine sBk (lo' := [(0, vr 0 0), (1, vr 12 0), (2, vr 13 0), (3, vi v3)]) (st' := [vi 0]) (μ' := μ372) (pc' := 1855) [(.iconst 0, 0, 0, 0, 0)] (by decide +kernel) rfl rfl ?_
          exact sRi (by decide +kernel) (fun _ => Or.inl rfl)
      refine sSd ?_
      exact L_law_J1856_ok ih v3 μ
