theorem zc_b_m2 : (Int8.ofInt (-2)).toInt32 = ((-2) : Int32) := by decide +kernel
theorem zc_b_6 : (Int8.ofInt 6).toInt32 = (6 : Int32) := by decide +kernel
theorem zc_b_7 : (Int8.ofInt 7).toInt32 = (7 : Int32) := by decide +kernel
theorem zc_b_8 : (Int8.ofInt 8).toInt32 = (8 : Int32) := by decide +kernel
theorem zc_b_9 : (Int8.ofInt 9).toInt32 = (9 : Int32) := by decide +kernel
theorem zc_b_10 : (Int8.ofInt 10).toInt32 = (10 : Int32) := by decide +kernel
theorem zc_b_11 : (Int8.ofInt 11).toInt32 = (11 : Int32) := by decide +kernel
theorem zc_b_12 : (Int8.ofInt 12).toInt32 = (12 : Int32) := by decide +kernel
theorem zc_b_13 : (Int8.ofInt 13).toInt32 = (13 : Int32) := by decide +kernel
theorem zc_b_14 : (Int8.ofInt 14).toInt32 = (14 : Int32) := by decide +kernel
theorem zc_b_15 : (Int8.ofInt 15).toInt32 = (15 : Int32) := by decide +kernel
theorem zc_b_16 : (Int8.ofInt 16).toInt32 = (16 : Int32) := by decide +kernel
theorem zc_b_17 : (Int8.ofInt 17).toInt32 = (17 : Int32) := by decide +kernel
theorem zc_b_18 : (Int8.ofInt 18).toInt32 = (18 : Int32) := by decide +kernel
theorem zc_b_19 : (Int8.ofInt 19).toInt32 = (19 : Int32) := by decide +kernel
theorem zc_b_20 : (Int8.ofInt 20).toInt32 = (20 : Int32) := by decide +kernel
theorem zc_b_21 : (Int8.ofInt 21).toInt32 = (21 : Int32) := by decide +kernel
theorem zc_b_22 : (Int8.ofInt 22).toInt32 = (22 : Int32) := by decide +kernel
theorem zc_b_23 : (Int8.ofInt 23).toInt32 = (23 : Int32) := by decide +kernel
theorem zc_b_24 : (Int8.ofInt 24).toInt32 = (24 : Int32) := by decide +kernel
theorem zc_b_25 : (Int8.ofInt 25).toInt32 = (25 : Int32) := by decide +kernel
theorem zc_b_26 : (Int8.ofInt 26).toInt32 = (26 : Int32) := by decide +kernel
theorem zc_b_27 : (Int8.ofInt 27).toInt32 = (27 : Int32) := by decide +kernel
theorem zc_b_28 : (Int8.ofInt 28).toInt32 = (28 : Int32) := by decide +kernel
theorem zc_b_29 : (Int8.ofInt 29).toInt32 = (29 : Int32) := by decide +kernel
theorem zc_b_30 : (Int8.ofInt 30).toInt32 = (30 : Int32) := by decide +kernel
theorem zc_b_32 : (Int8.ofInt 32).toInt32 = (32 : Int32) := by decide +kernel
theorem zc_b_33 : (Int8.ofInt 33).toInt32 = (33 : Int32) := by decide +kernel
theorem zc_b_35 : (Int8.ofInt 35).toInt32 = (35 : Int32) := by decide +kernel
theorem zc_b_37 : (Int8.ofInt 37).toInt32 = (37 : Int32) := by decide +kernel
theorem zc_b_39 : (Int8.ofInt 39).toInt32 = (39 : Int32) := by decide +kernel
theorem zc_b_40 : (Int8.ofInt 40).toInt32 = (40 : Int32) := by decide +kernel
theorem zc_b_41 : (Int8.ofInt 41).toInt32 = (41 : Int32) := by decide +kernel
theorem zc_b_42 : (Int8.ofInt 42).toInt32 = (42 : Int32) := by decide +kernel
theorem zc_b_43 : (Int8.ofInt 43).toInt32 = (43 : Int32) := by decide +kernel
theorem zc_b_44 : (Int8.ofInt 44).toInt32 = (44 : Int32) := by decide +kernel
theorem zc_b_45 : (Int8.ofInt 45).toInt32 = (45 : Int32) := by decide +kernel
theorem zc_b_46 : (Int8.ofInt 46).toInt32 = (46 : Int32) := by decide +kernel
theorem zc_b_47 : (Int8.ofInt 47).toInt32 = (47 : Int32) := by decide +kernel
theorem zc_b_48 : (Int8.ofInt 48).toInt32 = (48 : Int32) := by decide +kernel
theorem zc_b_49 : (Int8.ofInt 49).toInt32 = (49 : Int32) := by decide +kernel
theorem zc_b_50 : (Int8.ofInt 50).toInt32 = (50 : Int32) := by decide +kernel
theorem zc_b_52 : (Int8.ofInt 52).toInt32 = (52 : Int32) := by decide +kernel
theorem zc_b_57 : (Int8.ofInt 57).toInt32 = (57 : Int32) := by decide +kernel
theorem zc_b_58 : (Int8.ofInt 58).toInt32 = (58 : Int32) := by decide +kernel
theorem zc_b_59 : (Int8.ofInt 59).toInt32 = (59 : Int32) := by decide +kernel
theorem zc_b_60 : (Int8.ofInt 60).toInt32 = (60 : Int32) := by decide +kernel
theorem zc_b_61 : (Int8.ofInt 61).toInt32 = (61 : Int32) := by decide +kernel
theorem zc_b_63 : (Int8.ofInt 63).toInt32 = (63 : Int32) := by decide +kernel
theorem zc_b_97 : (Int8.ofInt 97).toInt32 = (97 : Int32) := by decide +kernel
theorem zc_b_120 : (Int8.ofInt 120).toInt32 = (120 : Int32) := by decide +kernel
theorem zc_b_122 : (Int8.ofInt 122).toInt32 = (122 : Int32) := by decide +kernel
theorem zc_i_m8 : Int32.ofInt (-8) = ((-8) : Int32) := by decide +kernel
theorem zc_i_m1 : Int32.ofInt (-1) = ((-1) : Int32) := by decide +kernel
theorem zc_i_0 : Int32.ofInt 0 = (0 : Int32) := by decide +kernel
theorem zc_i_1 : Int32.ofInt 1 = (1 : Int32) := by decide +kernel
theorem zc_i_2 : Int32.ofInt 2 = (2 : Int32) := by decide +kernel
theorem zc_i_3 : Int32.ofInt 3 = (3 : Int32) := by decide +kernel
theorem zc_i_4 : Int32.ofInt 4 = (4 : Int32) := by decide +kernel
theorem zc_i_5 : Int32.ofInt 5 = (5 : Int32) := by decide +kernel
theorem zc_l_0 : Int64.ofNat ((0 : Fin 2) : Nat) = (0 : Int64) := by decide +kernel
theorem zc_l_1 : Int64.ofNat ((1 : Fin 2) : Nat) = (1 : Int64) := by decide +kernel
theorem zc_s_144 : (Int16.ofInt 144).toInt32 = (144 : Int32) := by decide +kernel
theorem zc_s_200 : (Int16.ofInt 200).toInt32 = (200 : Int32) := by decide +kernel
theorem zc_s_255 : (Int16.ofInt 255).toInt32 = (255 : Int32) := by decide +kernel
theorem zc_s_300 : (Int16.ofInt 300).toInt32 = (300 : Int32) := by decide +kernel
theorem zc_s_500 : (Int16.ofInt 500).toInt32 = (500 : Int32) := by decide +kernel
theorem zc_s_520 : (Int16.ofInt 520).toInt32 = (520 : Int32) := by decide +kernel
theorem zc_s_1000 : (Int16.ofInt 1000).toInt32 = (1000 : Int32) := by decide +kernel
theorem zc_s_2000 : (Int16.ofInt 2000).toInt32 = (2000 : Int32) := by decide +kernel
theorem zc_s_12000 : (Int16.ofInt 12000).toInt32 = (12000 : Int32) := by decide +kernel
theorem lk_CutStones_Drawing_15 : zw_FL "CutStones$Drawing" 15 0 1 false := ⟨_, rfl, by decide, (zw_mG (List.mem_of_getElem? (i := 197) (by decide +kernel)) rfl), rfl⟩
theorem lk_CutStones_Drawing_19 : zw_FL "CutStones$Drawing" 19 0 2 false := ⟨_, rfl, by decide, (zw_mG (List.mem_of_getElem? (i := 202) (by decide +kernel)) rfl), rfl⟩
theorem lk_CutStones_Drawing_9 : zw_FL "CutStones$Drawing" 9 0 0 true := ⟨_, rfl, by decide, (zw_mG (List.mem_of_getElem? (i := 196) (by decide +kernel)) rfl), rfl⟩
theorem lk_CutStones_26 : zw_FL "CutStones" 26 10 2 false := ⟨_, rfl, by decide, (zw_mG (List.mem_of_getElem? (i := 483) (by decide +kernel)) rfl), rfl⟩
theorem lk_CutStones_261 : zw_FL "CutStones" 261 1 3 false := ⟨_, rfl, by decide, (zw_mG (List.mem_of_getElem? (i := 263) (by decide +kernel)) rfl), rfl⟩
theorem lk_CutStones_10 : zw_FL "CutStones" 10 10 0 true := ⟨_, rfl, by decide, (zw_mG (List.mem_of_getElem? (i := 481) (by decide +kernel)) rfl), rfl⟩
theorem lk_CutStones_88 : zw_FL "CutStones" 88 8 1 false := ⟨_, rfl, by decide, (zw_mG (List.mem_of_getElem? (i := 132) (by decide +kernel)) rfl), rfl⟩
theorem lk_CutStones_48 : zw_FL "CutStones" 48 10 6 false := ⟨_, rfl, by decide, (zw_mG (List.mem_of_getElem? (i := 487) (by decide +kernel)) rfl), rfl⟩
theorem lk_CutStones_44 : zw_FL "CutStones" 44 10 5 true := ⟨_, rfl, by decide, (zw_mG (List.mem_of_getElem? (i := 486) (by decide +kernel)) rfl), rfl⟩
theorem lk_CutStones_192 : zw_FL "CutStones" 192 6 2 false := ⟨_, rfl, by decide, (zw_mG (List.mem_of_getElem? (i := 403) (by decide +kernel)) rfl), rfl⟩
theorem lk_CutStones_195 : zw_FL "CutStones" 195 6 1 true := ⟨_, rfl, by decide, (zw_mG (List.mem_of_getElem? (i := 401) (by decide +kernel)) rfl), rfl⟩
theorem lk_CutStones_198 : zw_FL "CutStones" 198 2 3 true := ⟨_, rfl, by decide, (zw_mG (List.mem_of_getElem? (i := 355) (by decide +kernel)) rfl), rfl⟩
theorem lk_CutStones_141 : zw_FL "CutStones" 141 1 2 true := ⟨_, rfl, by decide, (zw_mG (List.mem_of_getElem? (i := 260) (by decide +kernel)) rfl), rfl⟩
theorem lk_CutStones_211 : zw_FL "CutStones" 211 1 4 true := ⟨_, rfl, by decide, (zw_mG (List.mem_of_getElem? (i := 265) (by decide +kernel)) rfl), rfl⟩
theorem lk_CutStones_270 : zw_FL "CutStones" 270 1 5 false := ⟨_, rfl, by decide, (zw_mG (List.mem_of_getElem? (i := 268) (by decide +kernel)) rfl), rfl⟩
theorem lk_CutStones_267 : zw_FL "CutStones" 267 1 1 false := ⟨_, rfl, by decide, (zw_mG (List.mem_of_getElem? (i := 258) (by decide +kernel)) rfl), rfl⟩
theorem lk_CutStones_65 : zw_FL "CutStones" 65 10 10 true := ⟨_, rfl, by decide, (zw_mG (List.mem_of_getElem? (i := 491) (by decide +kernel)) rfl), rfl⟩
theorem lk_CutStones_19 : zw_FL "CutStones" 19 10 1 true := ⟨_, rfl, by decide, (zw_mG (List.mem_of_getElem? (i := 482) (by decide +kernel)) rfl), rfl⟩
theorem lk_CutStones_113 : zw_FL "CutStones" 113 3 1 false := ⟨_, rfl, by decide, (zw_mG (List.mem_of_getElem? (i := 320) (by decide +kernel)) rfl), rfl⟩
theorem lk_CutStones_191 : zw_FL "CutStones" 191 6 0 true := ⟨_, rfl, by decide, (zw_mG (List.mem_of_getElem? (i := 399) (by decide +kernel)) rfl), rfl⟩
theorem lk_CutStones_37 : zw_FL "CutStones" 37 10 4 false := ⟨_, rfl, by decide, (zw_mG (List.mem_of_getElem? (i := 485) (by decide +kernel)) rfl), rfl⟩
theorem lk_CutStones_33 : zw_FL "CutStones" 33 10 3 true := ⟨_, rfl, by decide, (zw_mG (List.mem_of_getElem? (i := 484) (by decide +kernel)) rfl), rfl⟩
theorem lk_CutStones_177 : zw_FL "CutStones" 177 2 2 true := ⟨_, rfl, by decide, (zw_mG (List.mem_of_getElem? (i := 352) (by decide +kernel)) rfl), rfl⟩
theorem lk_CutStones_171 : zw_FL "CutStones" 171 2 1 false := ⟨_, rfl, by decide, (zw_mG (List.mem_of_getElem? (i := 349) (by decide +kernel)) rfl), rfl⟩
theorem lk_CutStones_174 : zw_FL "CutStones" 174 2 0 true := ⟨_, rfl, by decide, (zw_mG (List.mem_of_getElem? (i := 347) (by decide +kernel)) rfl), rfl⟩
theorem lk_CutStonesModel_119 : zw_FL "CutStonesModel" 119 11 49 true := ⟨_, rfl, by decide, (zw_mG (List.mem_of_getElem? (i := 1208) (by decide +kernel)) rfl), rfl⟩
theorem lk_CutStonesModel_140 : zw_FL "CutStonesModel" 140 11 67 true := ⟨_, rfl, by decide, (zw_mG (List.mem_of_getElem? (i := 1226) (by decide +kernel)) rfl), rfl⟩
theorem lk_CutStonesModel_177 : zw_FL "CutStonesModel" 177 11 2 false := ⟨_, rfl, by decide, (zw_mG (List.mem_of_getElem? (i := 1161) (by decide +kernel)) rfl), rfl⟩
theorem lk_CutStonesModel_184 : zw_FL "CutStonesModel" 184 11 4 false := ⟨_, rfl, by decide, (zw_mG (List.mem_of_getElem? (i := 1163) (by decide +kernel)) rfl), rfl⟩
theorem lk_CutStonesModel_17 : zw_FL "CutStonesModel" 17 11 3 true := ⟨_, rfl, by decide, (zw_mG (List.mem_of_getElem? (i := 1162) (by decide +kernel)) rfl), rfl⟩
theorem lk_CutStonesModel_64 : zw_FL "CutStonesModel" 64 11 28 true := ⟨_, rfl, by decide, (zw_mG (List.mem_of_getElem? (i := 1187) (by decide +kernel)) rfl), rfl⟩
theorem lk_CutStonesModel_67 : zw_FL "CutStonesModel" 67 11 29 true := ⟨_, rfl, by decide, (zw_mG (List.mem_of_getElem? (i := 1188) (by decide +kernel)) rfl), rfl⟩
theorem lk_CutStonesModel_70 : zw_FL "CutStonesModel" 70 11 30 true := ⟨_, rfl, by decide, (zw_mG (List.mem_of_getElem? (i := 1189) (by decide +kernel)) rfl), rfl⟩
theorem lk_CutStonesModel_125 : zw_FL "CutStonesModel" 125 11 52 true := ⟨_, rfl, by decide, (zw_mG (List.mem_of_getElem? (i := 1211) (by decide +kernel)) rfl), rfl⟩
theorem lk_CutStonesModel_128 : zw_FL "CutStonesModel" 128 11 53 true := ⟨_, rfl, by decide, (zw_mG (List.mem_of_getElem? (i := 1212) (by decide +kernel)) rfl), rfl⟩
theorem lk_CutStonesModel_328 : zw_FL "CutStonesModel" 328 11 54 false := ⟨_, rfl, by decide, (zw_mG (List.mem_of_getElem? (i := 1213) (by decide +kernel)) rfl), rfl⟩
theorem lk_CutStonesModel_331 : zw_FL "CutStonesModel" 331 11 55 false := ⟨_, rfl, by decide, (zw_mG (List.mem_of_getElem? (i := 1214) (by decide +kernel)) rfl), rfl⟩
theorem lk_CutStonesModel_334 : zw_FL "CutStonesModel" 334 11 56 false := ⟨_, rfl, by decide, (zw_mG (List.mem_of_getElem? (i := 1215) (by decide +kernel)) rfl), rfl⟩
theorem lk_CutStonesModel_337 : zw_FL "CutStonesModel" 337 11 57 false := ⟨_, rfl, by decide, (zw_mG (List.mem_of_getElem? (i := 1216) (by decide +kernel)) rfl), rfl⟩
theorem lk_CutStonesModel_340 : zw_FL "CutStonesModel" 340 11 58 false := ⟨_, rfl, by decide, (zw_mG (List.mem_of_getElem? (i := 1217) (by decide +kernel)) rfl), rfl⟩
theorem lk_CutStonesModel_343 : zw_FL "CutStonesModel" 343 11 59 false := ⟨_, rfl, by decide, (zw_mG (List.mem_of_getElem? (i := 1218) (by decide +kernel)) rfl), rfl⟩
theorem lk_CutStonesModel_110 : zw_FL "CutStonesModel" 110 11 45 true := ⟨_, rfl, by decide, (zw_mG (List.mem_of_getElem? (i := 1204) (by decide +kernel)) rfl), rfl⟩
theorem lk_CutStonesModel_257 : zw_FL "CutStonesModel" 257 11 44 false := ⟨_, rfl, by decide, (zw_mG (List.mem_of_getElem? (i := 1203) (by decide +kernel)) rfl), rfl⟩
theorem lk_CutStonesModel_113 : zw_FL "CutStonesModel" 113 11 46 true := ⟨_, rfl, by decide, (zw_mG (List.mem_of_getElem? (i := 1205) (by decide +kernel)) rfl), rfl⟩
theorem lk_CutStonesModel_218 : zw_FL "CutStonesModel" 218 11 13 false := ⟨_, rfl, by decide, (zw_mG (List.mem_of_getElem? (i := 1172) (by decide +kernel)) rfl), rfl⟩
theorem lk_CutStonesModel_24 : zw_FL "CutStonesModel" 24 11 6 true := ⟨_, rfl, by decide, (zw_mG (List.mem_of_getElem? (i := 1165) (by decide +kernel)) rfl), rfl⟩
theorem lk_CutStonesModel_221 : zw_FL "CutStonesModel" 221 11 11 false := ⟨_, rfl, by decide, (zw_mG (List.mem_of_getElem? (i := 1170) (by decide +kernel)) rfl), rfl⟩
theorem lk_CutStonesModel_224 : zw_FL "CutStonesModel" 224 11 14 false := ⟨_, rfl, by decide, (zw_mG (List.mem_of_getElem? (i := 1173) (by decide +kernel)) rfl), rfl⟩
theorem lk_CutStonesModel_20 : zw_FL "CutStonesModel" 20 11 5 true := ⟨_, rfl, by decide, (zw_mG (List.mem_of_getElem? (i := 1164) (by decide +kernel)) rfl), rfl⟩
theorem lk_CutStonesModel_161 : zw_FL "CutStonesModel" 161 11 76 true := ⟨_, rfl, by decide, (zw_mG (List.mem_of_getElem? (i := 1235) (by decide +kernel)) rfl), rfl⟩
theorem lk_CutStonesModel_37 : zw_FL "CutStonesModel" 37 11 17 false := ⟨_, rfl, by decide, (zw_mG (List.mem_of_getElem? (i := 1176) (by decide +kernel)) rfl), rfl⟩
theorem lk_CutStonesModel_13 : zw_FL "CutStonesModel" 13 11 1 true := ⟨_, rfl, by decide, (zw_mG (List.mem_of_getElem? (i := 1160) (by decide +kernel)) rfl), rfl⟩
theorem lk_CutStonesModel_318 : zw_FL "CutStonesModel" 318 11 51 false := ⟨_, rfl, by decide, (zw_mG (List.mem_of_getElem? (i := 1210) (by decide +kernel)) rfl), rfl⟩
theorem lk_CutStonesModel_122 : zw_FL "CutStonesModel" 122 11 50 true := ⟨_, rfl, by decide, (zw_mG (List.mem_of_getElem? (i := 1209) (by decide +kernel)) rfl), rfl⟩
theorem lk_CutStonesModel_193 : zw_FL "CutStonesModel" 193 11 10 false := ⟨_, rfl, by decide, (zw_mG (List.mem_of_getElem? (i := 1169) (by decide +kernel)) rfl), rfl⟩
theorem lk_CutStonesModel_27 : zw_FL "CutStonesModel" 27 11 7 true := ⟨_, rfl, by decide, (zw_mG (List.mem_of_getElem? (i := 1166) (by decide +kernel)) rfl), rfl⟩
theorem lk_CutStonesModel_30 : zw_FL "CutStonesModel" 30 11 8 true := ⟨_, rfl, by decide, (zw_mG (List.mem_of_getElem? (i := 1167) (by decide +kernel)) rfl), rfl⟩
theorem lk_CutStonesModel_227 : zw_FL "CutStonesModel" 227 11 15 false := ⟨_, rfl, by decide, (zw_mG (List.mem_of_getElem? (i := 1174) (by decide +kernel)) rfl), rfl⟩
theorem lk_CutStonesModel_230 : zw_FL "CutStonesModel" 230 11 16 false := ⟨_, rfl, by decide, (zw_mG (List.mem_of_getElem? (i := 1175) (by decide +kernel)) rfl), rfl⟩
theorem lk_CutStones_House_65 : zw_FL "CutStones$House" 65 1 14 false := ⟨_, rfl, by decide, (zw_mG (List.mem_of_getElem? (i := 283) (by decide +kernel)) rfl), rfl⟩
theorem lk_CutStones_House_58 : zw_FL "CutStones$House" 58 1 12 true := ⟨_, rfl, by decide, (zw_mG (List.mem_of_getElem? (i := 279) (by decide +kernel)) rfl), rfl⟩
theorem lk_CutStones_House_62 : zw_FL "CutStones$House" 62 1 13 true := ⟨_, rfl, by decide, (zw_mG (List.mem_of_getElem? (i := 281) (by decide +kernel)) rfl), rfl⟩
theorem lk_CutStones_House_38 : zw_FL "CutStones$House" 38 1 6 true := ⟨_, rfl, by decide, (zw_mG (List.mem_of_getElem? (i := 269) (by decide +kernel)) rfl), rfl⟩
theorem lk_CutStones_House_42 : zw_FL "CutStones$House" 42 1 7 false := ⟨_, rfl, by decide, (zw_mG (List.mem_of_getElem? (i := 270) (by decide +kernel)) rfl), rfl⟩
theorem lk_CutStones_House_55 : zw_FL "CutStones$House" 55 1 11 false := ⟨_, rfl, by decide, (zw_mG (List.mem_of_getElem? (i := 278) (by decide +kernel)) rfl), rfl⟩
theorem lk_CutStones_House_51 : zw_FL "CutStones$House" 51 1 10 true := ⟨_, rfl, by decide, (zw_mG (List.mem_of_getElem? (i := 277) (by decide +kernel)) rfl), rfl⟩
theorem lk_CutStones_House_45 : zw_FL "CutStones$House" 45 1 8 true := ⟨_, rfl, by decide, (zw_mG (List.mem_of_getElem? (i := 273) (by decide +kernel)) rfl), rfl⟩
theorem lk_CutStones_House_48 : zw_FL "CutStones$House" 48 1 9 false := ⟨_, rfl, by decide, (zw_mG (List.mem_of_getElem? (i := 274) (by decide +kernel)) rfl), rfl⟩
theorem lk_CutStones_House_11 : zw_FL "CutStones$House" 11 1 0 true := ⟨_, rfl, by decide, (zw_mG (List.mem_of_getElem? (i := 254) (by decide +kernel)) rfl), rfl⟩
theorem lk_CutStones_House_17 : zw_FL "CutStones$House" 17 1 1 false := ⟨_, rfl, by decide, (zw_mG (List.mem_of_getElem? (i := 256) (by decide +kernel)) rfl), rfl⟩
theorem lk_CutStones_House_71 : zw_FL "CutStones$House" 71 7 2 false := ⟨_, rfl, by decide, (zw_mG (List.mem_of_getElem? (i := 182) (by decide +kernel)) rfl), rfl⟩
theorem lk_CutStones_House_27 : zw_FL "CutStones$House" 27 1 3 false := ⟨_, rfl, by decide, (zw_mG (List.mem_of_getElem? (i := 261) (by decide +kernel)) rfl), rfl⟩
theorem lk_CutStones_House_33 : zw_FL "CutStones$House" 33 1 5 false := ⟨_, rfl, by decide, (zw_mG (List.mem_of_getElem? (i := 266) (by decide +kernel)) rfl), rfl⟩
theorem lk_CutStones_Light_46 : zw_FL "CutStones$Light" 46 2 11 false := ⟨_, rfl, by decide, (zw_mG (List.mem_of_getElem? (i := 364) (by decide +kernel)) rfl), rfl⟩
theorem lk_CutStones_Light_19 : zw_FL "CutStones$Light" 19 2 2 true := ⟨_, rfl, by decide, (zw_mG (List.mem_of_getElem? (i := 350) (by decide +kernel)) rfl), rfl⟩
theorem lk_CutStones_Light_43 : zw_FL "CutStones$Light" 43 2 10 false := ⟨_, rfl, by decide, (zw_mG (List.mem_of_getElem? (i := 363) (by decide +kernel)) rfl), rfl⟩
theorem lk_CutStones_Light_22 : zw_FL "CutStones$Light" 22 2 3 true := ⟨_, rfl, by decide, (zw_mG (List.mem_of_getElem? (i := 353) (by decide +kernel)) rfl), rfl⟩
theorem lk_CutStones_Light_37 : zw_FL "CutStones$Light" 37 2 8 false := ⟨_, rfl, by decide, (zw_mG (List.mem_of_getElem? (i := 361) (by decide +kernel)) rfl), rfl⟩
theorem lk_CutStones_Reader_21 : zw_FL "CutStones$Reader" 21 3 2 false := ⟨_, rfl, by decide, (zw_mG (List.mem_of_getElem? (i := 321) (by decide +kernel)) rfl), rfl⟩
theorem lk_CutStones_Reader_9 : zw_FL "CutStones$Reader" 9 3 0 false := ⟨_, rfl, by decide, (zw_mG (List.mem_of_getElem? (i := 317) (by decide +kernel)) rfl), rfl⟩
theorem lk_CutStones_Reader_37 : zw_FL "CutStones$Reader" 37 8 2 true := ⟨_, rfl, by decide, (zw_mG (List.mem_of_getElem? (i := 134) (by decide +kernel)) rfl), rfl⟩
theorem lk_CutStones_Reader_25 : zw_FL "CutStones$Reader" 25 3 3 false := ⟨_, rfl, by decide, (zw_mG (List.mem_of_getElem? (i := 322) (by decide +kernel)) rfl), rfl⟩
theorem lk_CutStones_Reader_28 : zw_FL "CutStones$Reader" 28 3 4 false := ⟨_, rfl, by decide, (zw_mG (List.mem_of_getElem? (i := 323) (by decide +kernel)) rfl), rfl⟩
theorem lk_CutStones_Reader_31 : zw_FL "CutStones$Reader" 31 3 5 false := ⟨_, rfl, by decide, (zw_mG (List.mem_of_getElem? (i := 324) (by decide +kernel)) rfl), rfl⟩
theorem lk_CutStones_Reader_59 : zw_FL "CutStones$Reader" 59 8 3 true := ⟨_, rfl, by decide, (zw_mG (List.mem_of_getElem? (i := 136) (by decide +kernel)) rfl), rfl⟩
theorem lk_CutStones_Reader_15 : zw_FL "CutStones$Reader" 15 3 1 false := ⟨_, rfl, by decide, (zw_mG (List.mem_of_getElem? (i := 319) (by decide +kernel)) rfl), rfl⟩
theorem lk_CutStones_Reckoner_19 : zw_FL "CutStones$Reckoner" 19 4 2 false := ⟨_, rfl, by decide, (zw_mG (List.mem_of_getElem? (i := 440) (by decide +kernel)) rfl), rfl⟩
theorem lk_CutStones_Reckoner_15 : zw_FL "CutStones$Reckoner" 15 4 1 false := ⟨_, rfl, by decide, (zw_mG (List.mem_of_getElem? (i := 439) (by decide +kernel)) rfl), rfl⟩
theorem lk_CutStones_Reckoner_9 : zw_FL "CutStones$Reckoner" 9 4 0 true := ⟨_, rfl, by decide, (zw_mG (List.mem_of_getElem? (i := 438) (by decide +kernel)) rfl), rfl⟩
theorem lk_CutStones_Rule_7 : zw_FL "CutStones$Rule" 7 5 0 false := ⟨_, rfl, by decide, (zw_mG (List.mem_of_getElem? (i := 239) (by decide +kernel)) rfl), rfl⟩
theorem lk_CutStones_Rule_13 : zw_FL "CutStones$Rule" 13 5 1 false := ⟨_, rfl, by decide, (zw_mG (List.mem_of_getElem? (i := 241) (by decide +kernel)) rfl), rfl⟩
theorem lk_CutStones_Rule_16 : zw_FL "CutStones$Rule" 16 5 2 false := ⟨_, rfl, by decide, (zw_mG (List.mem_of_getElem? (i := 244) (by decide +kernel)) rfl), rfl⟩
theorem lk_CutStones_Shine_41 : zw_FL "CutStones$Shine" 41 6 8 false := ⟨_, rfl, by decide, (zw_mG (List.mem_of_getElem? (i := 409) (by decide +kernel)) rfl), rfl⟩
theorem lk_CutStones_Shine_44 : zw_FL "CutStones$Shine" 44 6 9 false := ⟨_, rfl, by decide, (zw_mG (List.mem_of_getElem? (i := 410) (by decide +kernel)) rfl), rfl⟩
theorem lk_CutStones_Shine_32 : zw_FL "CutStones$Shine" 32 6 5 false := ⟨_, rfl, by decide, (zw_mG (List.mem_of_getElem? (i := 406) (by decide +kernel)) rfl), rfl⟩
theorem lk_CutStones_Shine_35 : zw_FL "CutStones$Shine" 35 6 6 false := ⟨_, rfl, by decide, (zw_mG (List.mem_of_getElem? (i := 407) (by decide +kernel)) rfl), rfl⟩
theorem lk_CutStones_Shine_38 : zw_FL "CutStones$Shine" 38 6 7 false := ⟨_, rfl, by decide, (zw_mG (List.mem_of_getElem? (i := 408) (by decide +kernel)) rfl), rfl⟩
theorem lk_CutStones_Shine_26 : zw_FL "CutStones$Shine" 26 6 3 false := ⟨_, rfl, by decide, (zw_mG (List.mem_of_getElem? (i := 404) (by decide +kernel)) rfl), rfl⟩
theorem lk_CutStones_Shine_22 : zw_FL "CutStones$Shine" 22 6 2 false := ⟨_, rfl, by decide, (zw_mG (List.mem_of_getElem? (i := 402) (by decide +kernel)) rfl), rfl⟩
theorem lk_CutStones_Shine_29 : zw_FL "CutStones$Shine" 29 6 4 false := ⟨_, rfl, by decide, (zw_mG (List.mem_of_getElem? (i := 405) (by decide +kernel)) rfl), rfl⟩
theorem lk_CutStones_Shine_9 : zw_FL "CutStones$Shine" 9 6 0 true := ⟨_, rfl, by decide, (zw_mG (List.mem_of_getElem? (i := 398) (by decide +kernel)) rfl), rfl⟩
theorem lk_CutStones_Stuff_9 : zw_FL "CutStones$Stuff" 9 7 0 true := ⟨_, rfl, by decide, (zw_mG (List.mem_of_getElem? (i := 176) (by decide +kernel)) rfl), rfl⟩
theorem lk_CutStones_Stuff_15 : zw_FL "CutStones$Stuff" 15 7 1 true := ⟨_, rfl, by decide, (zw_mG (List.mem_of_getElem? (i := 178) (by decide +kernel)) rfl), rfl⟩
theorem lk_CutStones_Tape_15 : zw_FL "CutStones$Tape" 15 8 1 false := ⟨_, rfl, by decide, (zw_mG (List.mem_of_getElem? (i := 131) (by decide +kernel)) rfl), rfl⟩
theorem lk_CutStones_Tape_9 : zw_FL "CutStones$Tape" 9 8 0 true := ⟨_, rfl, by decide, (zw_mG (List.mem_of_getElem? (i := 130) (by decide +kernel)) rfl), rfl⟩
theorem lk_CutStones_Tests_9 : zw_FL "CutStones$Tests" 9 9 0 false := ⟨_, rfl, by decide, (zw_mG (List.mem_of_getElem? (i := 454) (by decide +kernel)) rfl), rfl⟩
theorem lk_CutStones_Tests_15 : zw_FL "CutStones$Tests" 15 9 1 true := ⟨_, rfl, by decide, (zw_mG (List.mem_of_getElem? (i := 456) (by decide +kernel)) rfl), rfl⟩
theorem lk_CutStones_Tests_19 : zw_FL "CutStones$Tests" 19 9 2 true := ⟨_, rfl, by decide, (zw_mG (List.mem_of_getElem? (i := 458) (by decide +kernel)) rfl), rfl⟩
theorem lk_CutStones_Tests_22 : zw_FL "CutStones$Tests" 22 9 3 true := ⟨_, rfl, by decide, (zw_mG (List.mem_of_getElem? (i := 460) (by decide +kernel)) rfl), rfl⟩
theorem lk_CutStones_Tests_25 : zw_FL "CutStones$Tests" 25 9 4 true := ⟨_, rfl, by decide, (zw_mG (List.mem_of_getElem? (i := 462) (by decide +kernel)) rfl), rfl⟩
theorem lk_CutStones_Drawing_31 : zw_FL "CutStones$Drawing" 31 0 6 false := ⟨_, rfl, by decide, (zw_mG (List.mem_of_getElem? (i := 214) (by decide +kernel)) rfl), rfl⟩
theorem lk_CutStones_Drawing_34 : zw_FL "CutStones$Drawing" 34 0 7 false := ⟨_, rfl, by decide, (zw_mG (List.mem_of_getElem? (i := 216) (by decide +kernel)) rfl), rfl⟩
theorem lk_CutStones_Drawing_28 : zw_FL "CutStones$Drawing" 28 0 5 false := ⟨_, rfl, by decide, (zw_mG (List.mem_of_getElem? (i := 212) (by decide +kernel)) rfl), rfl⟩
theorem lk_CutStones_Drawing_22 : zw_FL "CutStones$Drawing" 22 0 3 false := ⟨_, rfl, by decide, (zw_mG (List.mem_of_getElem? (i := 206) (by decide +kernel)) rfl), rfl⟩
theorem lk_CutStones_Drawing_25 : zw_FL "CutStones$Drawing" 25 0 4 false := ⟨_, rfl, by decide, (zw_mG (List.mem_of_getElem? (i := 210) (by decide +kernel)) rfl), rfl⟩
theorem lk_CutStones_71 : zw_FL "CutStones" 71 10 11 true := ⟨_, rfl, by decide, (zw_mG (List.mem_of_getElem? (i := 492) (by decide +kernel)) rfl), rfl⟩
theorem lk_CutStones_279 : zw_FL "CutStones" 279 9 0 false := ⟨_, rfl, by decide, (zw_mG (List.mem_of_getElem? (i := 455) (by decide +kernel)) rfl), rfl⟩
theorem lk_CutStones_75 : zw_FL "CutStones" 75 10 12 true := ⟨_, rfl, by decide, (zw_mG (List.mem_of_getElem? (i := 493) (by decide +kernel)) rfl), rfl⟩
theorem lk_CutStonesModel_273 : zw_FL "CutStonesModel" 273 11 75 false := ⟨_, rfl, by decide, (zw_mG (List.mem_of_getElem? (i := 1234) (by decide +kernel)) rfl), rfl⟩
theorem lk_CutStonesModel_267 : zw_FL "CutStonesModel" 267 11 65 false := ⟨_, rfl, by decide, (zw_mG (List.mem_of_getElem? (i := 1224) (by decide +kernel)) rfl), rfl⟩
theorem lk_CutStonesModel_416 : zw_FL "CutStonesModel" 416 11 66 false := ⟨_, rfl, by decide, (zw_mG (List.mem_of_getElem? (i := 1225) (by decide +kernel)) rfl), rfl⟩
theorem lk_CutStonesModel_146 : zw_FL "CutStonesModel" 146 11 69 true := ⟨_, rfl, by decide, (zw_mG (List.mem_of_getElem? (i := 1228) (by decide +kernel)) rfl), rfl⟩
theorem lk_CutStonesModel_306 : zw_FL "CutStonesModel" 306 11 48 false := ⟨_, rfl, by decide, (zw_mG (List.mem_of_getElem? (i := 1207) (by decide +kernel)) rfl), rfl⟩
theorem lk_CutStonesModel_116 : zw_FL "CutStonesModel" 116 11 47 true := ⟨_, rfl, by decide, (zw_mG (List.mem_of_getElem? (i := 1206) (by decide +kernel)) rfl), rfl⟩
theorem lk_CutStonesModel_58 : zw_FL "CutStonesModel" 58 11 26 true := ⟨_, rfl, by decide, (zw_mG (List.mem_of_getElem? (i := 1185) (by decide +kernel)) rfl), rfl⟩
theorem lk_CutStonesModel_248 : zw_FL "CutStonesModel" 248 11 18 false := ⟨_, rfl, by decide, (zw_mG (List.mem_of_getElem? (i := 1177) (by decide +kernel)) rfl), rfl⟩
theorem lk_CutStonesModel_101 : zw_FL "CutStonesModel" 101 11 41 true := ⟨_, rfl, by decide, (zw_mG (List.mem_of_getElem? (i := 1200) (by decide +kernel)) rfl), rfl⟩
theorem lk_CutStonesModel_104 : zw_FL "CutStonesModel" 104 11 42 true := ⟨_, rfl, by decide, (zw_mG (List.mem_of_getElem? (i := 1201) (by decide +kernel)) rfl), rfl⟩
theorem lk_CutStonesModel_107 : zw_FL "CutStonesModel" 107 11 43 true := ⟨_, rfl, by decide, (zw_mG (List.mem_of_getElem? (i := 1202) (by decide +kernel)) rfl), rfl⟩
theorem lk_CutStonesModel_91 : zw_FL "CutStonesModel" 91 11 38 true := ⟨_, rfl, by decide, (zw_mG (List.mem_of_getElem? (i := 1197) (by decide +kernel)) rfl), rfl⟩
theorem lk_CutStonesModel_94 : zw_FL "CutStonesModel" 94 11 39 true := ⟨_, rfl, by decide, (zw_mG (List.mem_of_getElem? (i := 1198) (by decide +kernel)) rfl), rfl⟩
theorem lk_CutStonesModel_270 : zw_FL "CutStonesModel" 270 11 70 false := ⟨_, rfl, by decide, (zw_mG (List.mem_of_getElem? (i := 1229) (by decide +kernel)) rfl), rfl⟩
theorem lk_CutStonesModel_149 : zw_FL "CutStonesModel" 149 11 71 true := ⟨_, rfl, by decide, (zw_mG (List.mem_of_getElem? (i := 1230) (by decide +kernel)) rfl), rfl⟩
theorem lk_CutStonesModel_61 : zw_FL "CutStonesModel" 61 11 27 true := ⟨_, rfl, by decide, (zw_mG (List.mem_of_getElem? (i := 1186) (by decide +kernel)) rfl), rfl⟩
theorem lk_CutStonesModel_143 : zw_FL "CutStonesModel" 143 11 68 true := ⟨_, rfl, by decide, (zw_mG (List.mem_of_getElem? (i := 1227) (by decide +kernel)) rfl), rfl⟩
theorem lk_CutStonesModel_263 : zw_FL "CutStonesModel" 263 11 61 false := ⟨_, rfl, by decide, (zw_mG (List.mem_of_getElem? (i := 1220) (by decide +kernel)) rfl), rfl⟩
theorem lk_CutStonesModel_137 : zw_FL "CutStonesModel" 137 11 64 true := ⟨_, rfl, by decide, (zw_mG (List.mem_of_getElem? (i := 1223) (by decide +kernel)) rfl), rfl⟩
theorem lk_CutStonesModel_407 : zw_FL "CutStonesModel" 407 11 62 false := ⟨_, rfl, by decide, (zw_mG (List.mem_of_getElem? (i := 1221) (by decide +kernel)) rfl), rfl⟩
theorem lk_CutStonesModel_134 : zw_FL "CutStonesModel" 134 11 63 true := ⟨_, rfl, by decide, (zw_mG (List.mem_of_getElem? (i := 1222) (by decide +kernel)) rfl), rfl⟩
theorem lk_CutStonesModel_46 : zw_FL "CutStonesModel" 46 11 22 true := ⟨_, rfl, by decide, (zw_mG (List.mem_of_getElem? (i := 1181) (by decide +kernel)) rfl), rfl⟩
theorem lk_CutStones_House_23 : zw_FL "CutStones$House" 23 1 2 true := ⟨_, rfl, by decide, (zw_mG (List.mem_of_getElem? (i := 259) (by decide +kernel)) rfl), rfl⟩
theorem lk_CutStones_House_30 : zw_FL "CutStones$House" 30 1 4 true := ⟨_, rfl, by decide, (zw_mG (List.mem_of_getElem? (i := 264) (by decide +kernel)) rfl), rfl⟩
theorem lk_CutStones_Light_15 : zw_FL "CutStones$Light" 15 2 1 false := ⟨_, rfl, by decide, (zw_mG (List.mem_of_getElem? (i := 348) (by decide +kernel)) rfl), rfl⟩
theorem lk_CutStones_Light_25 : zw_FL "CutStones$Light" 25 2 4 false := ⟨_, rfl, by decide, (zw_mG (List.mem_of_getElem? (i := 356) (by decide +kernel)) rfl), rfl⟩
theorem lk_CutStones_Light_55 : zw_FL "CutStones$Light" 55 7 0 true := ⟨_, rfl, by decide, (zw_mG (List.mem_of_getElem? (i := 177) (by decide +kernel)) rfl), rfl⟩
theorem lk_CutStones_Light_28 : zw_FL "CutStones$Light" 28 2 5 false := ⟨_, rfl, by decide, (zw_mG (List.mem_of_getElem? (i := 358) (by decide +kernel)) rfl), rfl⟩
theorem lk_CutStones_Light_59 : zw_FL "CutStones$Light" 59 7 1 true := ⟨_, rfl, by decide, (zw_mG (List.mem_of_getElem? (i := 179) (by decide +kernel)) rfl), rfl⟩
theorem lk_CutStones_Light_31 : zw_FL "CutStones$Light" 31 2 6 false := ⟨_, rfl, by decide, (zw_mG (List.mem_of_getElem? (i := 359) (by decide +kernel)) rfl), rfl⟩
theorem lk_CutStones_Light_61 : zw_FL "CutStones$Light" 61 7 2 false := ⟨_, rfl, by decide, (zw_mG (List.mem_of_getElem? (i := 181) (by decide +kernel)) rfl), rfl⟩
theorem lk_CutStones_Light_34 : zw_FL "CutStones$Light" 34 2 7 false := ⟨_, rfl, by decide, (zw_mG (List.mem_of_getElem? (i := 360) (by decide +kernel)) rfl), rfl⟩
theorem lk_CutStones_Light_40 : zw_FL "CutStones$Light" 40 2 9 false := ⟨_, rfl, by decide, (zw_mG (List.mem_of_getElem? (i := 362) (by decide +kernel)) rfl), rfl⟩
theorem lk_CutStones_Light_70 : zw_FL "CutStones$Light" 70 0 1 false := ⟨_, rfl, by decide, (zw_mG (List.mem_of_getElem? (i := 199) (by decide +kernel)) rfl), rfl⟩
theorem lk_CutStones_Light_9 : zw_FL "CutStones$Light" 9 2 0 true := ⟨_, rfl, by decide, (zw_mG (List.mem_of_getElem? (i := 346) (by decide +kernel)) rfl), rfl⟩
theorem lk_CutStones_Reader_62 : zw_FL "CutStones$Reader" 62 8 4 true := ⟨_, rfl, by decide, (zw_mG (List.mem_of_getElem? (i := 138) (by decide +kernel)) rfl), rfl⟩
theorem lk_CutStones_Shine_18 : zw_FL "CutStones$Shine" 18 6 1 true := ⟨_, rfl, by decide, (zw_mG (List.mem_of_getElem? (i := 400) (by decide +kernel)) rfl), rfl⟩
theorem lk_CutStones_Shine_78 : zw_FL "CutStones$Shine" 78 2 3 true := ⟨_, rfl, by decide, (zw_mG (List.mem_of_getElem? (i := 354) (by decide +kernel)) rfl), rfl⟩
theorem lk_CutStones_Shine_87 : zw_FL "CutStones$Shine" 87 0 4 false := ⟨_, rfl, by decide, (zw_mG (List.mem_of_getElem? (i := 211) (by decide +kernel)) rfl), rfl⟩
theorem lk_CutStones_Tape_19 : zw_FL "CutStones$Tape" 19 8 2 true := ⟨_, rfl, by decide, (zw_mG (List.mem_of_getElem? (i := 133) (by decide +kernel)) rfl), rfl⟩
theorem lk_CutStones_Tape_26 : zw_FL "CutStones$Tape" 26 8 4 true := ⟨_, rfl, by decide, (zw_mG (List.mem_of_getElem? (i := 137) (by decide +kernel)) rfl), rfl⟩
theorem lk_CutStones_291 : zw_FL "CutStones" 291 0 5 false := ⟨_, rfl, by decide, (zw_mG (List.mem_of_getElem? (i := 213) (by decide +kernel)) rfl), rfl⟩
theorem lk_CutStones_294 : zw_FL "CutStones" 294 0 6 false := ⟨_, rfl, by decide, (zw_mG (List.mem_of_getElem? (i := 215) (by decide +kernel)) rfl), rfl⟩
theorem lk_CutStones_285 : zw_FL "CutStones" 285 0 2 false := ⟨_, rfl, by decide, (zw_mG (List.mem_of_getElem? (i := 205) (by decide +kernel)) rfl), rfl⟩
theorem lk_CutStones_224 : zw_FL "CutStones" 224 0 1 false := ⟨_, rfl, by decide, (zw_mG (List.mem_of_getElem? (i := 201) (by decide +kernel)) rfl), rfl⟩
theorem lk_CutStones_124 : zw_FL "CutStones" 124 0 3 false := ⟨_, rfl, by decide, (zw_mG (List.mem_of_getElem? (i := 208) (by decide +kernel)) rfl), rfl⟩
theorem lk_CutStonesModel_73 : zw_FL "CutStonesModel" 73 11 31 true := ⟨_, rfl, by decide, (zw_mG (List.mem_of_getElem? (i := 1190) (by decide +kernel)) rfl), rfl⟩
theorem lk_CutStonesModel_76 : zw_FL "CutStonesModel" 76 11 32 true := ⟨_, rfl, by decide, (zw_mG (List.mem_of_getElem? (i := 1191) (by decide +kernel)) rfl), rfl⟩
theorem lk_CutStonesModel_34 : zw_FL "CutStonesModel" 34 11 9 true := ⟨_, rfl, by decide, (zw_mG (List.mem_of_getElem? (i := 1168) (by decide +kernel)) rfl), rfl⟩
theorem lk_CutStonesModel_131 : zw_FL "CutStonesModel" 131 11 60 true := ⟨_, rfl, by decide, (zw_mG (List.mem_of_getElem? (i := 1219) (by decide +kernel)) rfl), rfl⟩
theorem lk_CutStonesModel_49 : zw_FL "CutStonesModel" 49 11 23 true := ⟨_, rfl, by decide, (zw_mG (List.mem_of_getElem? (i := 1182) (by decide +kernel)) rfl), rfl⟩
theorem lk_CutStonesModel_52 : zw_FL "CutStonesModel" 52 11 24 true := ⟨_, rfl, by decide, (zw_mG (List.mem_of_getElem? (i := 1183) (by decide +kernel)) rfl), rfl⟩
theorem lk_CutStonesModel_55 : zw_FL "CutStonesModel" 55 11 25 true := ⟨_, rfl, by decide, (zw_mG (List.mem_of_getElem? (i := 1184) (by decide +kernel)) rfl), rfl⟩
theorem lk_CutStonesModel_85 : zw_FL "CutStonesModel" 85 11 35 true := ⟨_, rfl, by decide, (zw_mG (List.mem_of_getElem? (i := 1194) (by decide +kernel)) rfl), rfl⟩
theorem lk_CutStonesModel_88 : zw_FL "CutStonesModel" 88 11 36 true := ⟨_, rfl, by decide, (zw_mG (List.mem_of_getElem? (i := 1195) (by decide +kernel)) rfl), rfl⟩
theorem lk_CutStonesModel_98 : zw_FL "CutStonesModel" 98 11 40 true := ⟨_, rfl, by decide, (zw_mG (List.mem_of_getElem? (i := 1199) (by decide +kernel)) rfl), rfl⟩
theorem lk_CutStonesModel_164 : zw_FL "CutStonesModel" 164 11 77 true := ⟨_, rfl, by decide, (zw_mG (List.mem_of_getElem? (i := 1236) (by decide +kernel)) rfl), rfl⟩
theorem lk_CutStonesModel_167 : zw_FL "CutStonesModel" 167 11 78 true := ⟨_, rfl, by decide, (zw_mG (List.mem_of_getElem? (i := 1237) (by decide +kernel)) rfl), rfl⟩
theorem lk_CutStonesModel_170 : zw_FL "CutStonesModel" 170 11 79 true := ⟨_, rfl, by decide, (zw_mG (List.mem_of_getElem? (i := 1238) (by decide +kernel)) rfl), rfl⟩
theorem lk_CutStones_Reader_78 : zw_FL "CutStones$Reader" 78 1 1 false := ⟨_, rfl, by decide, (zw_mG (List.mem_of_getElem? (i := 257) (by decide +kernel)) rfl), rfl⟩
theorem lk_CutStones_Reader_102 : zw_FL "CutStones$Reader" 102 7 2 false := ⟨_, rfl, by decide, (zw_mG (List.mem_of_getElem? (i := 183) (by decide +kernel)) rfl), rfl⟩
theorem lk_CutStones_Reckoner_44 : zw_FL "CutStones$Reckoner" 44 1 14 false := ⟨_, rfl, by decide, (zw_mG (List.mem_of_getElem? (i := 284) (by decide +kernel)) rfl), rfl⟩
theorem lk_CutStones_Reckoner_49 : zw_FL "CutStones$Reckoner" 49 1 12 true := ⟨_, rfl, by decide, (zw_mG (List.mem_of_getElem? (i := 280) (by decide +kernel)) rfl), rfl⟩
theorem lk_CutStones_Reckoner_52 : zw_FL "CutStones$Reckoner" 52 1 13 true := ⟨_, rfl, by decide, (zw_mG (List.mem_of_getElem? (i := 282) (by decide +kernel)) rfl), rfl⟩
theorem lk_CutStones_Shine_66 : zw_FL "CutStones$Shine" 66 2 2 true := ⟨_, rfl, by decide, (zw_mG (List.mem_of_getElem? (i := 351) (by decide +kernel)) rfl), rfl⟩
theorem lk_CutStones_Shine_75 : zw_FL "CutStones$Shine" 75 2 4 false := ⟨_, rfl, by decide, (zw_mG (List.mem_of_getElem? (i := 357) (by decide +kernel)) rfl), rfl⟩
theorem lk_CutStones_273 : zw_FL "CutStones" 273 1 7 false := ⟨_, rfl, by decide, (zw_mG (List.mem_of_getElem? (i := 272) (by decide +kernel)) rfl), rfl⟩
theorem lk_CutStones_276 : zw_FL "CutStones" 276 1 9 false := ⟨_, rfl, by decide, (zw_mG (List.mem_of_getElem? (i := 276) (by decide +kernel)) rfl), rfl⟩
theorem lk_CutStones_61 : zw_FL "CutStones" 61 10 9 true := ⟨_, rfl, by decide, (zw_mG (List.mem_of_getElem? (i := 490) (by decide +kernel)) rfl), rfl⟩
theorem lk_CutStones_159 : zw_FL "CutStones" 159 1 0 true := ⟨_, rfl, by decide, (zw_mG (List.mem_of_getElem? (i := 255) (by decide +kernel)) rfl), rfl⟩
theorem lk_CutStonesModel_245 : zw_FL "CutStonesModel" 245 11 12 false := ⟨_, rfl, by decide, (zw_mG (List.mem_of_getElem? (i := 1171) (by decide +kernel)) rfl), rfl⟩
theorem lk_CutStonesModel_40 : zw_FL "CutStonesModel" 40 11 20 true := ⟨_, rfl, by decide, (zw_mG (List.mem_of_getElem? (i := 1179) (by decide +kernel)) rfl), rfl⟩
theorem lk_CutStonesModel_251 : zw_FL "CutStonesModel" 251 11 19 false := ⟨_, rfl, by decide, (zw_mG (List.mem_of_getElem? (i := 1178) (by decide +kernel)) rfl), rfl⟩
theorem lk_CutStonesModel_43 : zw_FL "CutStonesModel" 43 11 21 true := ⟨_, rfl, by decide, (zw_mG (List.mem_of_getElem? (i := 1180) (by decide +kernel)) rfl), rfl⟩
theorem lk_CutStonesModel_79 : zw_FL "CutStonesModel" 79 11 33 true := ⟨_, rfl, by decide, (zw_mG (List.mem_of_getElem? (i := 1192) (by decide +kernel)) rfl), rfl⟩
theorem lk_CutStonesModel_82 : zw_FL "CutStonesModel" 82 11 34 true := ⟨_, rfl, by decide, (zw_mG (List.mem_of_getElem? (i := 1193) (by decide +kernel)) rfl), rfl⟩
theorem lk_CutStones_Reckoner_23 : zw_FL "CutStones$Reckoner" 23 5 1 false := ⟨_, rfl, by decide, (zw_mG (List.mem_of_getElem? (i := 242) (by decide +kernel)) rfl), rfl⟩
theorem lk_CutStones_Reckoner_28 : zw_FL "CutStones$Reckoner" 28 5 2 false := ⟨_, rfl, by decide, (zw_mG (List.mem_of_getElem? (i := 245) (by decide +kernel)) rfl), rfl⟩
theorem lk_CutStones_Reckoner_35 : zw_FL "CutStones$Reckoner" 35 5 0 false := ⟨_, rfl, by decide, (zw_mG (List.mem_of_getElem? (i := 240) (by decide +kernel)) rfl), rfl⟩
theorem lk_CutStones_Shine_47 : zw_FL "CutStones$Shine" 47 0 1 false := ⟨_, rfl, by decide, (zw_mG (List.mem_of_getElem? (i := 198) (by decide +kernel)) rfl), rfl⟩
theorem lk_CutStones_Shine_50 : zw_FL "CutStones$Shine" 50 0 3 false := ⟨_, rfl, by decide, (zw_mG (List.mem_of_getElem? (i := 207) (by decide +kernel)) rfl), rfl⟩
theorem lk_CutStones_Shine_55 : zw_FL "CutStones$Shine" 55 0 2 false := ⟨_, rfl, by decide, (zw_mG (List.mem_of_getElem? (i := 203) (by decide +kernel)) rfl), rfl⟩
theorem lk_CutStones_51 : zw_FL "CutStones" 51 10 7 true := ⟨_, rfl, by decide, (zw_mG (List.mem_of_getElem? (i := 488) (by decide +kernel)) rfl), rfl⟩
theorem lk_CutStonesModel_254 : zw_FL "CutStonesModel" 254 11 37 false := ⟨_, rfl, by decide, (zw_mG (List.mem_of_getElem? (i := 1196) (by decide +kernel)) rfl), rfl⟩
theorem lk_CutStones_300 : zw_FL "CutStones" 300 9 1 true := ⟨_, rfl, by decide, (zw_mG (List.mem_of_getElem? (i := 457) (by decide +kernel)) rfl), rfl⟩
theorem lk_CutStones_302 : zw_FL "CutStones" 302 9 2 true := ⟨_, rfl, by decide, (zw_mG (List.mem_of_getElem? (i := 459) (by decide +kernel)) rfl), rfl⟩
theorem lk_CutStones_305 : zw_FL "CutStones" 305 9 3 true := ⟨_, rfl, by decide, (zw_mG (List.mem_of_getElem? (i := 461) (by decide +kernel)) rfl), rfl⟩
theorem lk_CutStones_57 : zw_FL "CutStones" 57 10 8 true := ⟨_, rfl, by decide, (zw_mG (List.mem_of_getElem? (i := 489) (by decide +kernel)) rfl), rfl⟩
theorem lk_CutStonesModel_152 : zw_FL "CutStonesModel" 152 11 72 true := ⟨_, rfl, by decide, (zw_mG (List.mem_of_getElem? (i := 1231) (by decide +kernel)) rfl), rfl⟩
theorem lk_CutStonesModel_155 : zw_FL "CutStonesModel" 155 11 73 true := ⟨_, rfl, by decide, (zw_mG (List.mem_of_getElem? (i := 1232) (by decide +kernel)) rfl), rfl⟩
theorem lk_CutStonesModel_158 : zw_FL "CutStonesModel" 158 11 74 true := ⟨_, rfl, by decide, (zw_mG (List.mem_of_getElem? (i := 1233) (by decide +kernel)) rfl), rfl⟩
theorem lk_CutStones_Reader_133 : zw_FL "CutStones$Reader" 133 0 2 false := ⟨_, rfl, by decide, (zw_mG (List.mem_of_getElem? (i := 204) (by decide +kernel)) rfl), rfl⟩
theorem lk_CutStones_Reader_136 : zw_FL "CutStones$Reader" 136 0 1 false := ⟨_, rfl, by decide, (zw_mG (List.mem_of_getElem? (i := 200) (by decide +kernel)) rfl), rfl⟩
theorem lk_CutStones_Tape_23 : zw_FL "CutStones$Tape" 23 8 3 true := ⟨_, rfl, by decide, (zw_mG (List.mem_of_getElem? (i := 135) (by decide +kernel)) rfl), rfl⟩
theorem lk_CutStones_Reader_130 : zw_FL "CutStones$Reader" 130 0 3 false := ⟨_, rfl, by decide, (zw_mG (List.mem_of_getElem? (i := 209) (by decide +kernel)) rfl), rfl⟩
theorem lk_CutStones_Reader_105 : zw_FL "CutStones$Reader" 105 1 3 false := ⟨_, rfl, by decide, (zw_mG (List.mem_of_getElem? (i := 262) (by decide +kernel)) rfl), rfl⟩
theorem lk_CutStones_Reader_116 : zw_FL "CutStones$Reader" 116 1 5 false := ⟨_, rfl, by decide, (zw_mG (List.mem_of_getElem? (i := 267) (by decide +kernel)) rfl), rfl⟩
theorem lk_CutStones_Reader_143 : zw_FL "CutStones$Reader" 143 1 7 false := ⟨_, rfl, by decide, (zw_mG (List.mem_of_getElem? (i := 271) (by decide +kernel)) rfl), rfl⟩
theorem lk_CutStones_Reader_150 : zw_FL "CutStones$Reader" 150 1 14 false := ⟨_, rfl, by decide, (zw_mG (List.mem_of_getElem? (i := 285) (by decide +kernel)) rfl), rfl⟩
theorem lk_CutStones_Reader_162 : zw_FL "CutStones$Reader" 162 5 2 false := ⟨_, rfl, by decide, (zw_mG (List.mem_of_getElem? (i := 246) (by decide +kernel)) rfl), rfl⟩
theorem lk_CutStones_Reader_165 : zw_FL "CutStones$Reader" 165 1 9 false := ⟨_, rfl, by decide, (zw_mG (List.mem_of_getElem? (i := 275) (by decide +kernel)) rfl), rfl⟩
theorem lk_CutStones_Reader_175 : zw_FL "CutStones$Reader" 175 5 1 false := ⟨_, rfl, by decide, (zw_mG (List.mem_of_getElem? (i := 243) (by decide +kernel)) rfl), rfl⟩
theorem lk_CutStones_103 : zw_FL "CutStones" 103 3 0 false := ⟨_, rfl, by decide, (zw_mG (List.mem_of_getElem? (i := 318) (by decide +kernel)) rfl), rfl⟩
