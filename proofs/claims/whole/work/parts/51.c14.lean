set_option maxRecDepth 100000 in
theorem ce_X11_init : zw_CeI M_X11_init 0 := ⟨⟨⟨by decide +kernel, by decide +kernel, by decide +kernel⟩, (zw_mG (List.mem_of_getElem? (i := 1151) rfl) rfl), (zw_mG (List.mem_of_getElem? (i := 108) (by decide +kernel)) rfl), by decide, by decide +kernel⟩, (zw_mG (List.mem_of_getElem? (i := 1150) (by decide +kernel)) rfl), rfl, rfl⟩
def kS_X11_init_148 (S : aS) : aS := (zw_pJ (zw_pJ (zw_pJ (zw_pJ (zw_pJ (zw_pJ (zw_pJ (zw_pJ (zw_pJ (zw_pJ (zw_pJ (zw_pJ (zw_pJ (zw_pJ (zw_pJ (zw_pJ (zw_pJ (zw_pJ (zw_pR (zw_pR (zw_pR (zw_pR (zw_pR (zw_pR (zw_pR (zw_pR (zw_pR (zw_pR (zw_pR (zw_pR (zw_pR (zw_pR (zw_pR (zw_pR (zw_pR (zw_pR (zw_pR (zw_pR (zw_pR (zw_pR (zw_pR (zw_pR (zw_pR (zw_pR (zw_pR (zw_pR (zw_pR (zw_pR (zw_pR (zw_pR (zw_pR (zw_pR (zw_pR (zw_pR (zw_pR (zw_pR (zw_pR (zw_pR (zw_pR (zw_pR (zw_pR (zw_pR (zw_pI (zw_pR (zw_pR (zw_pR (zw_pR (zw_pR (zw_pR (zw_pR S 148 1 149) 148 3 150) 148 5 151) 148 6 152) 148 7 153) 148 8 154) 148 9 155) 148 17 (-1)) 148 20 156) 148 21 157) 148 22 158) 148 23 159) 148 24 160) 148 25 161) 148 26 162) 148 27 163) 148 28 164) 148 29 165) 148 30 166) 148 31 167) 148 32 168) 148 33 169) 148 34 170) 148 35 171) 148 36 172) 148 38 173) 148 39 174) 148 40 175) 148 41 176) 148 42 177) 148 43 178) 148 45 179) 148 46 180) 148 47 181) 148 49 182) 148 50 183) 148 52 184) 148 53 185) 148 60 186) 148 63 187) 148 64 188) 148 67 189) 148 68 190) 148 69 191) 148 71 192) 148 72 193) 148 73 194) 148 74 195) 148 76 196) 148 77 197) 148 78 198) 148 79 199) 155 0 10506516) 155 1 2774) 155 2 9876689) 155 3 4075223) 155 4 8863997) 155 5 99703) 155 6 249) 155 7 423) 155 8 1111) 155 9 10631) 155 10 38446238) 155 11 239879) 155 12 79958) 155 13 332864552) 155 14 308881823) 155 15 3426211) 155 16 459383) 155 17 51266052)
theorem kZ_X11_init_148 {S : aS} (hZ : zw_Z 148 S) : zw_Z 199 (kS_X11_init_148 S) := by
  unfold kS_X11_init_148
  have hZ := hZ.up
  have hZ := hZ.pR (o := 148) (j := 1) (v := 149) (by decide)
  have hZ := hZ.up
  have hZ := hZ.pR (o := 148) (j := 3) (v := 150) (by decide)
  have hZ := hZ.up
  have hZ := hZ.pR (o := 148) (j := 5) (v := 151) (by decide)
  have hZ := hZ.up
  have hZ := hZ.pR (o := 148) (j := 6) (v := 152) (by decide)
  have hZ := hZ.up
  have hZ := hZ.pR (o := 148) (j := 7) (v := 153) (by decide)
  have hZ := hZ.up
  have hZ := hZ.pR (o := 148) (j := 8) (v := 154) (by decide)
  have hZ := hZ.up
  have hZ := hZ.pR (o := 148) (j := 9) (v := 155) (by decide)
  have hZ := hZ.pI (o := 148) (j := 17) (v := (-1)) (by decide)
  have hZ := hZ.up
  have hZ := hZ.pR (o := 148) (j := 20) (v := 156) (by decide)
  have hZ := hZ.up
  have hZ := hZ.pR (o := 148) (j := 21) (v := 157) (by decide)
  have hZ := hZ.up
  have hZ := hZ.pR (o := 148) (j := 22) (v := 158) (by decide)
  have hZ := hZ.up
  have hZ := hZ.pR (o := 148) (j := 23) (v := 159) (by decide)
  have hZ := hZ.up
  have hZ := hZ.pR (o := 148) (j := 24) (v := 160) (by decide)
  have hZ := hZ.up
  have hZ := hZ.pR (o := 148) (j := 25) (v := 161) (by decide)
  have hZ := hZ.up
  have hZ := hZ.pR (o := 148) (j := 26) (v := 162) (by decide)
  have hZ := hZ.up
  have hZ := hZ.pR (o := 148) (j := 27) (v := 163) (by decide)
  have hZ := hZ.up
  have hZ := hZ.pR (o := 148) (j := 28) (v := 164) (by decide)
  have hZ := hZ.up
  have hZ := hZ.pR (o := 148) (j := 29) (v := 165) (by decide)
  have hZ := hZ.up
  have hZ := hZ.pR (o := 148) (j := 30) (v := 166) (by decide)
  have hZ := hZ.up
  have hZ := hZ.pR (o := 148) (j := 31) (v := 167) (by decide)
  have hZ := hZ.up
  have hZ := hZ.pR (o := 148) (j := 32) (v := 168) (by decide)
  have hZ := hZ.up
  have hZ := hZ.pR (o := 148) (j := 33) (v := 169) (by decide)
  have hZ := hZ.up
  have hZ := hZ.pR (o := 148) (j := 34) (v := 170) (by decide)
  have hZ := hZ.up
  have hZ := hZ.pR (o := 148) (j := 35) (v := 171) (by decide)
  have hZ := hZ.up
  have hZ := hZ.pR (o := 148) (j := 36) (v := 172) (by decide)
  have hZ := hZ.up
  have hZ := hZ.pR (o := 148) (j := 38) (v := 173) (by decide)
  have hZ := hZ.up
  have hZ := hZ.pR (o := 148) (j := 39) (v := 174) (by decide)
  have hZ := hZ.up
  have hZ := hZ.pR (o := 148) (j := 40) (v := 175) (by decide)
  have hZ := hZ.up
  have hZ := hZ.pR (o := 148) (j := 41) (v := 176) (by decide)
  have hZ := hZ.up
  have hZ := hZ.pR (o := 148) (j := 42) (v := 177) (by decide)
  have hZ := hZ.up
  have hZ := hZ.pR (o := 148) (j := 43) (v := 178) (by decide)
  have hZ := hZ.up
  have hZ := hZ.pR (o := 148) (j := 45) (v := 179) (by decide)
  have hZ := hZ.up
  have hZ := hZ.pR (o := 148) (j := 46) (v := 180) (by decide)
  have hZ := hZ.up
  have hZ := hZ.pR (o := 148) (j := 47) (v := 181) (by decide)
  have hZ := hZ.up
  have hZ := hZ.pR (o := 148) (j := 49) (v := 182) (by decide)
  have hZ := hZ.up
  have hZ := hZ.pR (o := 148) (j := 50) (v := 183) (by decide)
  have hZ := hZ.up
  have hZ := hZ.pR (o := 148) (j := 52) (v := 184) (by decide)
  have hZ := hZ.up
  have hZ := hZ.pR (o := 148) (j := 53) (v := 185) (by decide)
  have hZ := hZ.up
  have hZ := hZ.pR (o := 148) (j := 60) (v := 186) (by decide)
  have hZ := hZ.up
  have hZ := hZ.pR (o := 148) (j := 63) (v := 187) (by decide)
  have hZ := hZ.up
  have hZ := hZ.pR (o := 148) (j := 64) (v := 188) (by decide)
  have hZ := hZ.up
  have hZ := hZ.pR (o := 148) (j := 67) (v := 189) (by decide)
  have hZ := hZ.up
  have hZ := hZ.pR (o := 148) (j := 68) (v := 190) (by decide)
  have hZ := hZ.up
  have hZ := hZ.pR (o := 148) (j := 69) (v := 191) (by decide)
  have hZ := hZ.up
  have hZ := hZ.pR (o := 148) (j := 71) (v := 192) (by decide)
  have hZ := hZ.up
  have hZ := hZ.pR (o := 148) (j := 72) (v := 193) (by decide)
  have hZ := hZ.up
  have hZ := hZ.pR (o := 148) (j := 73) (v := 194) (by decide)
  have hZ := hZ.up
  have hZ := hZ.pR (o := 148) (j := 74) (v := 195) (by decide)
  have hZ := hZ.up
  have hZ := hZ.pR (o := 148) (j := 76) (v := 196) (by decide)
  have hZ := hZ.up
  have hZ := hZ.pR (o := 148) (j := 77) (v := 197) (by decide)
  have hZ := hZ.up
  have hZ := hZ.pR (o := 148) (j := 78) (v := 198) (by decide)
  have hZ := hZ.up
  have hZ := hZ.pR (o := 148) (j := 79) (v := 199) (by decide)
  have hZ := hZ.pJ (o := 155) (j := 0) (v := 10506516) (by decide)
  have hZ := hZ.pJ (o := 155) (j := 1) (v := 2774) (by decide)
  have hZ := hZ.pJ (o := 155) (j := 2) (v := 9876689) (by decide)
  have hZ := hZ.pJ (o := 155) (j := 3) (v := 4075223) (by decide)
  have hZ := hZ.pJ (o := 155) (j := 4) (v := 8863997) (by decide)
  have hZ := hZ.pJ (o := 155) (j := 5) (v := 99703) (by decide)
  have hZ := hZ.pJ (o := 155) (j := 6) (v := 249) (by decide)
  have hZ := hZ.pJ (o := 155) (j := 7) (v := 423) (by decide)
  have hZ := hZ.pJ (o := 155) (j := 8) (v := 1111) (by decide)
  have hZ := hZ.pJ (o := 155) (j := 9) (v := 10631) (by decide)
  have hZ := hZ.pJ (o := 155) (j := 10) (v := 38446238) (by decide)
  have hZ := hZ.pJ (o := 155) (j := 11) (v := 239879) (by decide)
  have hZ := hZ.pJ (o := 155) (j := 12) (v := 79958) (by decide)
  have hZ := hZ.pJ (o := 155) (j := 13) (v := 332864552) (by decide)
  have hZ := hZ.pJ (o := 155) (j := 14) (v := 308881823) (by decide)
  have hZ := hZ.pJ (o := 155) (j := 15) (v := 3426211) (by decide)
  have hZ := hZ.pJ (o := 155) (j := 16) (v := 459383) (by decide)
  have hZ := hZ.pJ (o := 155) (j := 17) (v := 51266052) (by decide)
  exact hZ
theorem k_X11_init_148 {X : zw_X} {P : Option Value → aS → Prop} {S : aS} (hZ : zw_Z 148 S) (hP : P none (kS_X11_init_148 S)) : zw_C X M_X11_init 3 51 15191 148 [.ref 148] S P := by
  show zw_V X M_X11_init 3 51 15191 148 P 0 0 0 [.ref 148] [] S
  refine zv_aload_n (pc := 0) d_X11_init_0 rfl ?_
  refine zv_obj (pc := 1) d_X11_init_1 (zw_mG (List.mem_of_getElem? (i := 1152) (by decide +kernel)) rfl) (by decide) (Nat.le_of_ble_eq_true rfl) ?_
  refine zv_aload_n (pc := 4) d_X11_init_4 rfl ?_
  refine zv_sipush (pc := 5) d_X11_init_5 zc_s_2000 ?_
  refine kx_newa (pc := 8) (N := 2000) d_X11_init_8 (by decide) (by decide +kernel) (by decide +kernel) (by decide) (by decide) rfl hZ ⟨by decide, by decide⟩ (by decide) ?_
  have hZ := hZ.up
  refine kx_putR (pc := 10) (o := 148) (v := 149) d_X11_init_10 lk_CutStonesModel_13 (Or.inr ⟨rfl, rfl, rfl⟩) (by decide) ⟨by decide, by decide⟩ (by decide +kernel) (by decide) ?_
  have hZ := hZ.pR (o := 148) (j := 1) (v := 149) (by decide)
  refine zv_aload_n (pc := 13) d_X11_init_13 rfl ?_
  refine zv_sipush (pc := 14) d_X11_init_14 zc_s_2000 ?_
  refine kx_newa (pc := 17) (N := 2000) d_X11_init_17 (by decide) (by decide +kernel) (by decide +kernel) (by decide) (by decide) rfl hZ ⟨by decide, by decide⟩ (by decide) ?_
  have hZ := hZ.up
  refine kx_putR (pc := 19) (o := 148) (v := 150) d_X11_init_19 lk_CutStonesModel_17 (Or.inr ⟨rfl, rfl, rfl⟩) (by decide) ⟨by decide, by decide⟩ (by decide +kernel) (by decide) ?_
  have hZ := hZ.pR (o := 148) (j := 3) (v := 150) (by decide)
  refine zv_aload_n (pc := 22) d_X11_init_22 rfl ?_
  refine zv_sipush (pc := 23) d_X11_init_23 zc_s_503 ?_
  refine kx_newa (pc := 26) (N := 503) d_X11_init_26 (by decide) (by decide +kernel) (by decide +kernel) (by decide) (by decide) rfl hZ ⟨by decide, by decide⟩ (by decide) ?_
  have hZ := hZ.up
  refine kx_putR (pc := 28) (o := 148) (v := 151) d_X11_init_28 lk_CutStonesModel_20 (Or.inr ⟨rfl, rfl, rfl⟩) (by decide) ⟨by decide, by decide⟩ (by decide +kernel) (by decide) ?_
  have hZ := hZ.pR (o := 148) (j := 5) (v := 151) (by decide)
  refine zv_aload_n (pc := 31) d_X11_init_31 rfl ?_
  refine zv_sipush (pc := 32) d_X11_init_32 zc_s_503 ?_
  refine kx_newa (pc := 35) (N := 503) d_X11_init_35 (by decide) (by decide +kernel) (by decide +kernel) (by decide) (by decide) rfl hZ ⟨by decide, by decide⟩ (by decide) ?_
  have hZ := hZ.up
  refine kx_putR (pc := 37) (o := 148) (v := 152) d_X11_init_37 lk_CutStonesModel_24 (Or.inr ⟨rfl, rfl, rfl⟩) (by decide) ⟨by decide, by decide⟩ (by decide +kernel) (by decide) ?_
  have hZ := hZ.pR (o := 148) (j := 6) (v := 152) (by decide)
  refine zv_aload_n (pc := 40) d_X11_init_40 rfl ?_
  refine zv_sipush (pc := 41) d_X11_init_41 zc_s_503 ?_
  refine kx_newa (pc := 44) (N := 503) d_X11_init_44 (by decide) (by decide +kernel) (by decide +kernel) (by decide) (by decide) rfl hZ ⟨by decide, by decide⟩ (by decide) ?_
  have hZ := hZ.up
  refine kx_putR (pc := 46) (o := 148) (v := 153) d_X11_init_46 lk_CutStonesModel_27 (Or.inr ⟨rfl, rfl, rfl⟩) (by decide) ⟨by decide, by decide⟩ (by decide +kernel) (by decide) ?_
  have hZ := hZ.pR (o := 148) (j := 7) (v := 153) (by decide)
  refine zv_aload_n (pc := 49) d_X11_init_49 rfl ?_
  refine zv_sipush (pc := 50) d_X11_init_50 zc_s_503 ?_
  refine kx_newa (pc := 53) (N := 503) d_X11_init_53 (by decide) (by decide +kernel) (by decide +kernel) (by decide) (by decide) rfl hZ ⟨by decide, by decide⟩ (by decide) ?_
  have hZ := hZ.up
  refine kx_putR (pc := 55) (o := 148) (v := 154) d_X11_init_55 lk_CutStonesModel_30 (Or.inr ⟨rfl, rfl, rfl⟩) (by decide) ⟨by decide, by decide⟩ (by decide +kernel) (by decide) ?_
  have hZ := hZ.pR (o := 148) (j := 8) (v := 154) (by decide)
  refine zv_aload_n (pc := 58) d_X11_init_58 rfl ?_
  refine zv_bipush (pc := 59) d_X11_init_59 zc_b_18 ?_
  refine kx_newa (pc := 61) (N := 18) d_X11_init_61 (by decide) (by decide +kernel) (by decide +kernel) (by decide) (by decide) rfl hZ ⟨by decide, by decide⟩ (by decide) ?_
  have hZ := hZ.up
  refine kx_putR (pc := 63) (o := 148) (v := 155) d_X11_init_63 lk_CutStonesModel_34 (Or.inr ⟨rfl, rfl, rfl⟩) (by decide) ⟨by decide, by decide⟩ (by decide +kernel) (by decide) ?_
  have hZ := hZ.pR (o := 148) (j := 9) (v := 155) (by decide)
  refine zv_aload_n (pc := 66) d_X11_init_66 rfl ?_
  refine zv_iconst (pc := 67) d_X11_init_67 zc_i_m1 ?_
  refine kx_putI (pc := 68) (o := 148) (v := (-1)) d_X11_init_68 lk_CutStonesModel_37 (Or.inl rfl) ⟨by decide, by decide⟩ (by decide +kernel) ?_
  have hZ := hZ.pI (o := 148) (j := 17) (v := (-1)) (by decide)
  refine zv_aload_n (pc := 71) d_X11_init_71 rfl ?_
  refine zv_iconst (pc := 72) d_X11_init_72 zc_i_2 ?_
  refine kx_newa (pc := 73) (N := 2) d_X11_init_73 (by decide) (by decide +kernel) (by decide +kernel) (by decide) (by decide) rfl hZ ⟨by decide, by decide⟩ (by decide) ?_
  have hZ := hZ.up
  refine kx_putR (pc := 75) (o := 148) (v := 156) d_X11_init_75 lk_CutStonesModel_40 (Or.inr ⟨rfl, rfl, rfl⟩) (by decide) ⟨by decide, by decide⟩ (by decide +kernel) (by decide) ?_
  have hZ := hZ.pR (o := 148) (j := 20) (v := 156) (by decide)
  refine zv_aload_n (pc := 78) d_X11_init_78 rfl ?_
  refine zv_bipush (pc := 79) d_X11_init_79 zc_b_60 ?_
  refine kx_newa (pc := 81) (N := 60) d_X11_init_81 (by decide) (by decide +kernel) (by decide +kernel) (by decide) (by decide) rfl hZ ⟨by decide, by decide⟩ (by decide) ?_
  have hZ := hZ.up
  refine kx_putR (pc := 83) (o := 148) (v := 157) d_X11_init_83 lk_CutStonesModel_43 (Or.inr ⟨rfl, rfl, rfl⟩) (by decide) ⟨by decide, by decide⟩ (by decide +kernel) (by decide) ?_
  have hZ := hZ.pR (o := 148) (j := 21) (v := 157) (by decide)
  refine zv_aload_n (pc := 86) d_X11_init_86 rfl ?_
  refine zv_iconst (pc := 87) d_X11_init_87 zc_i_2 ?_
  refine kx_newa (pc := 88) (N := 2) d_X11_init_88 (by decide) (by decide +kernel) (by decide +kernel) (by decide) (by decide) rfl hZ ⟨by decide, by decide⟩ (by decide) ?_
  have hZ := hZ.up
  refine kx_putR (pc := 90) (o := 148) (v := 158) d_X11_init_90 lk_CutStonesModel_46 (Or.inr ⟨rfl, rfl, rfl⟩) (by decide) ⟨by decide, by decide⟩ (by decide +kernel) (by decide) ?_
  have hZ := hZ.pR (o := 148) (j := 22) (v := 158) (by decide)
  refine zv_aload_n (pc := 93) d_X11_init_93 rfl ?_
  refine zv_bipush (pc := 94) d_X11_init_94 zc_b_32 ?_
  refine kx_newa (pc := 96) (N := 32) d_X11_init_96 (by decide) (by decide +kernel) (by decide +kernel) (by decide) (by decide) rfl hZ ⟨by decide, by decide⟩ (by decide) ?_
  have hZ := hZ.up
  refine kx_putR (pc := 98) (o := 148) (v := 159) d_X11_init_98 lk_CutStonesModel_49 (Or.inr ⟨rfl, rfl, rfl⟩) (by decide) ⟨by decide, by decide⟩ (by decide +kernel) (by decide) ?_
  have hZ := hZ.pR (o := 148) (j := 23) (v := 159) (by decide)
  refine zv_aload_n (pc := 101) d_X11_init_101 rfl ?_
  refine zv_bipush (pc := 102) d_X11_init_102 zc_b_32 ?_
  refine kx_newa (pc := 104) (N := 32) d_X11_init_104 (by decide) (by decide +kernel) (by decide +kernel) (by decide) (by decide) rfl hZ ⟨by decide, by decide⟩ (by decide) ?_
  have hZ := hZ.up
  refine kx_putR (pc := 106) (o := 148) (v := 160) d_X11_init_106 lk_CutStonesModel_52 (Or.inr ⟨rfl, rfl, rfl⟩) (by decide) ⟨by decide, by decide⟩ (by decide +kernel) (by decide) ?_
  have hZ := hZ.pR (o := 148) (j := 24) (v := 160) (by decide)
  refine zv_aload_n (pc := 109) d_X11_init_109 rfl ?_
  refine zv_bipush (pc := 110) d_X11_init_110 zc_b_8 ?_
  refine kx_newa (pc := 112) (N := 8) d_X11_init_112 (by decide) (by decide +kernel) (by decide +kernel) (by decide) (by decide) rfl hZ ⟨by decide, by decide⟩ (by decide) ?_
  have hZ := hZ.up
  refine kx_putR (pc := 114) (o := 148) (v := 161) d_X11_init_114 lk_CutStonesModel_55 (Or.inr ⟨rfl, rfl, rfl⟩) (by decide) ⟨by decide, by decide⟩ (by decide +kernel) (by decide) ?_
  have hZ := hZ.pR (o := 148) (j := 25) (v := 161) (by decide)
  refine zv_aload_n (pc := 117) d_X11_init_117 rfl ?_
  refine zv_iconst (pc := 118) d_X11_init_118 zc_i_2 ?_
  refine kx_newa (pc := 119) (N := 2) d_X11_init_119 (by decide) (by decide +kernel) (by decide +kernel) (by decide) (by decide) rfl hZ ⟨by decide, by decide⟩ (by decide) ?_
  have hZ := hZ.up
  refine kx_putR (pc := 121) (o := 148) (v := 162) d_X11_init_121 lk_CutStonesModel_58 (Or.inr ⟨rfl, rfl, rfl⟩) (by decide) ⟨by decide, by decide⟩ (by decide +kernel) (by decide) ?_
  have hZ := hZ.pR (o := 148) (j := 26) (v := 162) (by decide)
  refine zv_aload_n (pc := 124) d_X11_init_124 rfl ?_
  refine zv_iconst (pc := 125) d_X11_init_125 zc_i_2 ?_
  refine kx_newa (pc := 126) (N := 2) d_X11_init_126 (by decide) (by decide +kernel) (by decide +kernel) (by decide) (by decide) rfl hZ ⟨by decide, by decide⟩ (by decide) ?_
  have hZ := hZ.up
  refine kx_putR (pc := 128) (o := 148) (v := 163) d_X11_init_128 lk_CutStonesModel_61 (Or.inr ⟨rfl, rfl, rfl⟩) (by decide) ⟨by decide, by decide⟩ (by decide +kernel) (by decide) ?_
  have hZ := hZ.pR (o := 148) (j := 27) (v := 163) (by decide)
  refine zv_aload_n (pc := 131) d_X11_init_131 rfl ?_
  refine zv_bipush (pc := 132) d_X11_init_132 zc_b_20 ?_
  refine kx_newa (pc := 134) (N := 20) d_X11_init_134 (by decide) (by decide +kernel) (by decide +kernel) (by decide) (by decide) rfl hZ ⟨by decide, by decide⟩ (by decide) ?_
  have hZ := hZ.up
  refine kx_putR (pc := 136) (o := 148) (v := 164) d_X11_init_136 lk_CutStonesModel_64 (Or.inr ⟨rfl, rfl, rfl⟩) (by decide) ⟨by decide, by decide⟩ (by decide +kernel) (by decide) ?_
  have hZ := hZ.pR (o := 148) (j := 28) (v := 164) (by decide)
  refine zv_aload_n (pc := 139) d_X11_init_139 rfl ?_
  refine zv_bipush (pc := 140) d_X11_init_140 zc_b_20 ?_
  refine kx_newa (pc := 142) (N := 20) d_X11_init_142 (by decide) (by decide +kernel) (by decide +kernel) (by decide) (by decide) rfl hZ ⟨by decide, by decide⟩ (by decide) ?_
  have hZ := hZ.up
  refine kx_putR (pc := 144) (o := 148) (v := 165) d_X11_init_144 lk_CutStonesModel_67 (Or.inr ⟨rfl, rfl, rfl⟩) (by decide) ⟨by decide, by decide⟩ (by decide +kernel) (by decide) ?_
  have hZ := hZ.pR (o := 148) (j := 29) (v := 165) (by decide)
  refine zv_aload_n (pc := 147) d_X11_init_147 rfl ?_
  refine zv_sipush (pc := 148) d_X11_init_148 zc_s_2880 ?_
  refine kx_newa (pc := 151) (N := 2880) d_X11_init_151 (by decide) (by decide +kernel) (by decide +kernel) (by decide) (by decide) rfl hZ ⟨by decide, by decide⟩ (by decide) ?_
  have hZ := hZ.up
  refine kx_putR (pc := 153) (o := 148) (v := 166) d_X11_init_153 lk_CutStonesModel_70 (Or.inr ⟨rfl, rfl, rfl⟩) (by decide) ⟨by decide, by decide⟩ (by decide +kernel) (by decide) ?_
  have hZ := hZ.pR (o := 148) (j := 30) (v := 166) (by decide)
  refine zv_aload_n (pc := 156) d_X11_init_156 rfl ?_
  refine zv_iconst (pc := 157) d_X11_init_157 zc_i_2 ?_
  refine kx_newa (pc := 158) (N := 2) d_X11_init_158 (by decide) (by decide +kernel) (by decide +kernel) (by decide) (by decide) rfl hZ ⟨by decide, by decide⟩ (by decide) ?_
  have hZ := hZ.up
  refine kx_putR (pc := 160) (o := 148) (v := 167) d_X11_init_160 lk_CutStonesModel_73 (Or.inr ⟨rfl, rfl, rfl⟩) (by decide) ⟨by decide, by decide⟩ (by decide +kernel) (by decide) ?_
  have hZ := hZ.pR (o := 148) (j := 31) (v := 167) (by decide)
  refine zv_aload_n (pc := 163) d_X11_init_163 rfl ?_
  refine zv_iconst (pc := 164) d_X11_init_164 zc_i_2 ?_
  refine kx_newa (pc := 165) (N := 2) d_X11_init_165 (by decide) (by decide +kernel) (by decide +kernel) (by decide) (by decide) rfl hZ ⟨by decide, by decide⟩ (by decide) ?_
  have hZ := hZ.up
  refine kx_putR (pc := 167) (o := 148) (v := 168) d_X11_init_167 lk_CutStonesModel_76 (Or.inr ⟨rfl, rfl, rfl⟩) (by decide) ⟨by decide, by decide⟩ (by decide +kernel) (by decide) ?_
  have hZ := hZ.pR (o := 148) (j := 32) (v := 168) (by decide)
  refine zv_aload_n (pc := 170) d_X11_init_170 rfl ?_
  refine zv_bipush (pc := 171) d_X11_init_171 zc_b_32 ?_
  refine kx_newa (pc := 173) (N := 32) d_X11_init_173 (by decide) (by decide +kernel) (by decide +kernel) (by decide) (by decide) rfl hZ ⟨by decide, by decide⟩ (by decide) ?_
  have hZ := hZ.up
  refine kx_putR (pc := 175) (o := 148) (v := 169) d_X11_init_175 lk_CutStonesModel_79 (Or.inr ⟨rfl, rfl, rfl⟩) (by decide) ⟨by decide, by decide⟩ (by decide +kernel) (by decide) ?_
  have hZ := hZ.pR (o := 148) (j := 33) (v := 169) (by decide)
  refine zv_aload_n (pc := 178) d_X11_init_178 rfl ?_
  refine zv_bipush (pc := 179) d_X11_init_179 zc_b_32 ?_
  refine kx_newa (pc := 181) (N := 32) d_X11_init_181 (by decide) (by decide +kernel) (by decide +kernel) (by decide) (by decide) rfl hZ ⟨by decide, by decide⟩ (by decide) ?_
  have hZ := hZ.up
  refine kx_putR (pc := 183) (o := 148) (v := 170) d_X11_init_183 lk_CutStonesModel_82 (Or.inr ⟨rfl, rfl, rfl⟩) (by decide) ⟨by decide, by decide⟩ (by decide +kernel) (by decide) ?_
  have hZ := hZ.pR (o := 148) (j := 34) (v := 170) (by decide)
  refine zv_aload_n (pc := 186) d_X11_init_186 rfl ?_
  refine zv_bipush (pc := 187) d_X11_init_187 zc_b_32 ?_
  refine kx_newa (pc := 189) (N := 32) d_X11_init_189 (by decide) (by decide +kernel) (by decide +kernel) (by decide) (by decide) rfl hZ ⟨by decide, by decide⟩ (by decide) ?_
  have hZ := hZ.up
  refine kx_putR (pc := 191) (o := 148) (v := 171) d_X11_init_191 lk_CutStonesModel_85 (Or.inr ⟨rfl, rfl, rfl⟩) (by decide) ⟨by decide, by decide⟩ (by decide +kernel) (by decide) ?_
  have hZ := hZ.pR (o := 148) (j := 35) (v := 171) (by decide)
  refine zv_aload_n (pc := 194) d_X11_init_194 rfl ?_
  refine zv_bipush (pc := 195) d_X11_init_195 zc_b_32 ?_
  refine kx_newa (pc := 197) (N := 32) d_X11_init_197 (by decide) (by decide +kernel) (by decide +kernel) (by decide) (by decide) rfl hZ ⟨by decide, by decide⟩ (by decide) ?_
  have hZ := hZ.up
  refine kx_putR (pc := 199) (o := 148) (v := 172) d_X11_init_199 lk_CutStonesModel_88 (Or.inr ⟨rfl, rfl, rfl⟩) (by decide) ⟨by decide, by decide⟩ (by decide +kernel) (by decide) ?_
  have hZ := hZ.pR (o := 148) (j := 36) (v := 172) (by decide)
  refine zv_aload_n (pc := 202) d_X11_init_202 rfl ?_
  refine zv_sipush (pc := 203) d_X11_init_203 zc_s_400 ?_
  refine kx_newa (pc := 206) (N := 400) d_X11_init_206 (by decide) (by decide +kernel) (by decide +kernel) (by decide) (by decide) rfl hZ ⟨by decide, by decide⟩ (by decide) ?_
  have hZ := hZ.up
  refine kx_putR (pc := 208) (o := 148) (v := 173) d_X11_init_208 lk_CutStonesModel_91 (Or.inr ⟨rfl, rfl, rfl⟩) (by decide) ⟨by decide, by decide⟩ (by decide +kernel) (by decide) ?_
  have hZ := hZ.pR (o := 148) (j := 38) (v := 173) (by decide)
  refine zv_aload_n (pc := 211) d_X11_init_211 rfl ?_
  refine zv_sipush (pc := 212) d_X11_init_212 zc_s_400 ?_
  refine kx_newa (pc := 215) (N := 400) d_X11_init_215 (by decide) (by decide +kernel) (by decide +kernel) (by decide) (by decide) rfl hZ ⟨by decide, by decide⟩ (by decide) ?_
  have hZ := hZ.up
  refine kx_putR (pc := 217) (o := 148) (v := 174) d_X11_init_217 lk_CutStonesModel_94 (Or.inr ⟨rfl, rfl, rfl⟩) (by decide) ⟨by decide, by decide⟩ (by decide +kernel) (by decide) ?_
  have hZ := hZ.pR (o := 148) (j := 39) (v := 174) (by decide)
  refine zv_aload_n (pc := 220) d_X11_init_220 rfl ?_
  refine zv_sipush (pc := 221) d_X11_init_221 zc_s_400 ?_
  refine kx_newa (pc := 224) (N := 400) d_X11_init_224 (by decide) (by decide +kernel) (by decide +kernel) (by decide) (by decide) rfl hZ ⟨by decide, by decide⟩ (by decide) ?_
  have hZ := hZ.up
  refine kx_putR (pc := 226) (o := 148) (v := 175) d_X11_init_226 lk_CutStonesModel_98 (Or.inr ⟨rfl, rfl, rfl⟩) (by decide) ⟨by decide, by decide⟩ (by decide +kernel) (by decide) ?_
  have hZ := hZ.pR (o := 148) (j := 40) (v := 175) (by decide)
  refine zv_aload_n (pc := 229) d_X11_init_229 rfl ?_
  refine zv_sipush (pc := 230) d_X11_init_230 zc_s_400 ?_
  refine kx_newa (pc := 233) (N := 400) d_X11_init_233 (by decide) (by decide +kernel) (by decide +kernel) (by decide) (by decide) rfl hZ ⟨by decide, by decide⟩ (by decide) ?_
  have hZ := hZ.up
  refine kx_putR (pc := 235) (o := 148) (v := 176) d_X11_init_235 lk_CutStonesModel_101 (Or.inr ⟨rfl, rfl, rfl⟩) (by decide) ⟨by decide, by decide⟩ (by decide +kernel) (by decide) ?_
  have hZ := hZ.pR (o := 148) (j := 41) (v := 176) (by decide)
  refine zv_aload_n (pc := 238) d_X11_init_238 rfl ?_
  refine zv_sipush (pc := 239) d_X11_init_239 zc_s_400 ?_
  refine kx_newa (pc := 242) (N := 400) d_X11_init_242 (by decide) (by decide +kernel) (by decide +kernel) (by decide) (by decide) rfl hZ ⟨by decide, by decide⟩ (by decide) ?_
  have hZ := hZ.up
  refine kx_putR (pc := 244) (o := 148) (v := 177) d_X11_init_244 lk_CutStonesModel_104 (Or.inr ⟨rfl, rfl, rfl⟩) (by decide) ⟨by decide, by decide⟩ (by decide +kernel) (by decide) ?_
  have hZ := hZ.pR (o := 148) (j := 42) (v := 177) (by decide)
  refine zv_aload_n (pc := 247) d_X11_init_247 rfl ?_
  refine zv_sipush (pc := 248) d_X11_init_248 zc_s_400 ?_
  refine kx_newa (pc := 251) (N := 400) d_X11_init_251 (by decide) (by decide +kernel) (by decide +kernel) (by decide) (by decide) rfl hZ ⟨by decide, by decide⟩ (by decide) ?_
  have hZ := hZ.up
  refine kx_putR (pc := 253) (o := 148) (v := 178) d_X11_init_253 lk_CutStonesModel_107 (Or.inr ⟨rfl, rfl, rfl⟩) (by decide) ⟨by decide, by decide⟩ (by decide +kernel) (by decide) ?_
  have hZ := hZ.pR (o := 148) (j := 43) (v := 178) (by decide)
  refine zv_aload_n (pc := 256) d_X11_init_256 rfl ?_
  refine zv_sipush (pc := 257) d_X11_init_257 zc_s_1040 ?_
  refine kx_newa (pc := 260) (N := 1040) d_X11_init_260 (by decide) (by decide +kernel) (by decide +kernel) (by decide) (by decide) rfl hZ ⟨by decide, by decide⟩ (by decide) ?_
  have hZ := hZ.up
  refine kx_putR (pc := 262) (o := 148) (v := 179) d_X11_init_262 lk_CutStonesModel_110 (Or.inr ⟨rfl, rfl, rfl⟩) (by decide) ⟨by decide, by decide⟩ (by decide +kernel) (by decide) ?_
  have hZ := hZ.pR (o := 148) (j := 45) (v := 179) (by decide)
  refine zv_aload_n (pc := 265) d_X11_init_265 rfl ?_
  refine zv_sipush (pc := 266) d_X11_init_266 zc_s_1040 ?_
  refine kx_newa (pc := 269) (N := 1040) d_X11_init_269 (by decide) (by decide +kernel) (by decide +kernel) (by decide) (by decide) rfl hZ ⟨by decide, by decide⟩ (by decide) ?_
  have hZ := hZ.up
  refine kx_putR (pc := 271) (o := 148) (v := 180) d_X11_init_271 lk_CutStonesModel_113 (Or.inr ⟨rfl, rfl, rfl⟩) (by decide) ⟨by decide, by decide⟩ (by decide +kernel) (by decide) ?_
  have hZ := hZ.pR (o := 148) (j := 46) (v := 180) (by decide)
  refine zv_aload_n (pc := 274) d_X11_init_274 rfl ?_
  refine zv_bipush (pc := 275) d_X11_init_275 zc_b_64 ?_
  refine kx_newa (pc := 277) (N := 64) d_X11_init_277 (by decide) (by decide +kernel) (by decide +kernel) (by decide) (by decide) rfl hZ ⟨by decide, by decide⟩ (by decide) ?_
  have hZ := hZ.up
  refine kx_putR (pc := 279) (o := 148) (v := 181) d_X11_init_279 lk_CutStonesModel_116 (Or.inr ⟨rfl, rfl, rfl⟩) (by decide) ⟨by decide, by decide⟩ (by decide +kernel) (by decide) ?_
  have hZ := hZ.pR (o := 148) (j := 47) (v := 181) (by decide)
  refine zv_aload_n (pc := 282) d_X11_init_282 rfl ?_
  refine zv_bipush (pc := 283) d_X11_init_283 zc_b_8 ?_
  refine kx_newa (pc := 285) (N := 8) d_X11_init_285 (by decide) (by decide +kernel) (by decide +kernel) (by decide) (by decide) rfl hZ ⟨by decide, by decide⟩ (by decide) ?_
  have hZ := hZ.up
  refine kx_putR (pc := 287) (o := 148) (v := 182) d_X11_init_287 lk_CutStonesModel_119 (Or.inr ⟨rfl, rfl, rfl⟩) (by decide) ⟨by decide, by decide⟩ (by decide +kernel) (by decide) ?_
  have hZ := hZ.pR (o := 148) (j := 49) (v := 182) (by decide)
  refine zv_aload_n (pc := 290) d_X11_init_290 rfl ?_
  refine zv_sipush (pc := 291) d_X11_init_291 zc_s_500 ?_
  refine kx_newa (pc := 294) (N := 500) d_X11_init_294 (by decide) (by decide +kernel) (by decide +kernel) (by decide) (by decide) rfl hZ ⟨by decide, by decide⟩ (by decide) ?_
  have hZ := hZ.up
  refine kx_putR (pc := 296) (o := 148) (v := 183) d_X11_init_296 lk_CutStonesModel_122 (Or.inr ⟨rfl, rfl, rfl⟩) (by decide) ⟨by decide, by decide⟩ (by decide +kernel) (by decide) ?_
  have hZ := hZ.pR (o := 148) (j := 50) (v := 183) (by decide)
  refine zv_aload_n (pc := 299) d_X11_init_299 rfl ?_
  refine zv_iconst (pc := 300) d_X11_init_300 zc_i_4 ?_
  refine kx_newa (pc := 301) (N := 4) d_X11_init_301 (by decide) (by decide +kernel) (by decide +kernel) (by decide) (by decide) rfl hZ ⟨by decide, by decide⟩ (by decide) ?_
  have hZ := hZ.up
  refine kx_putR (pc := 303) (o := 148) (v := 184) d_X11_init_303 lk_CutStonesModel_125 (Or.inr ⟨rfl, rfl, rfl⟩) (by decide) ⟨by decide, by decide⟩ (by decide +kernel) (by decide) ?_
  have hZ := hZ.pR (o := 148) (j := 52) (v := 184) (by decide)
  refine zv_aload_n (pc := 306) d_X11_init_306 rfl ?_
  refine zv_bipush (pc := 307) d_X11_init_307 zc_b_12 ?_
  refine kx_newa (pc := 309) (N := 12) d_X11_init_309 (by decide) (by decide +kernel) (by decide +kernel) (by decide) (by decide) rfl hZ ⟨by decide, by decide⟩ (by decide) ?_
  have hZ := hZ.up
  refine kx_putR (pc := 311) (o := 148) (v := 185) d_X11_init_311 lk_CutStonesModel_128 (Or.inr ⟨rfl, rfl, rfl⟩) (by decide) ⟨by decide, by decide⟩ (by decide +kernel) (by decide) ?_
  have hZ := hZ.pR (o := 148) (j := 53) (v := 185) (by decide)
  refine zv_aload_n (pc := 314) d_X11_init_314 rfl ?_
  refine zv_sipush (pc := 315) d_X11_init_315 zc_s_300 ?_
  refine kx_newa (pc := 318) (N := 300) d_X11_init_318 (by decide) (by decide +kernel) (by decide +kernel) (by decide) (by decide) rfl hZ ⟨by decide, by decide⟩ (by decide) ?_
  have hZ := hZ.up
  refine kx_putR (pc := 320) (o := 148) (v := 186) d_X11_init_320 lk_CutStonesModel_131 (Or.inr ⟨rfl, rfl, rfl⟩) (by decide) ⟨by decide, by decide⟩ (by decide +kernel) (by decide) ?_
  have hZ := hZ.pR (o := 148) (j := 60) (v := 186) (by decide)
  refine zv_aload_n (pc := 323) d_X11_init_323 rfl ?_
  refine zv_sipush (pc := 324) d_X11_init_324 zc_s_300 ?_
  refine kx_newa (pc := 327) (N := 300) d_X11_init_327 (by decide) (by decide +kernel) (by decide +kernel) (by decide) (by decide) rfl hZ ⟨by decide, by decide⟩ (by decide) ?_
  have hZ := hZ.up
  refine kx_putR (pc := 329) (o := 148) (v := 187) d_X11_init_329 lk_CutStonesModel_134 (Or.inr ⟨rfl, rfl, rfl⟩) (by decide) ⟨by decide, by decide⟩ (by decide +kernel) (by decide) ?_
  have hZ := hZ.pR (o := 148) (j := 63) (v := 187) (by decide)
  refine zv_aload_n (pc := 332) d_X11_init_332 rfl ?_
  refine zv_bipush (pc := 333) d_X11_init_333 zc_b_7 ?_
  refine kx_newa (pc := 335) (N := 7) d_X11_init_335 (by decide) (by decide +kernel) (by decide +kernel) (by decide) (by decide) rfl hZ ⟨by decide, by decide⟩ (by decide) ?_
  have hZ := hZ.up
  refine kx_putR (pc := 337) (o := 148) (v := 188) d_X11_init_337 lk_CutStonesModel_137 (Or.inr ⟨rfl, rfl, rfl⟩) (by decide) ⟨by decide, by decide⟩ (by decide +kernel) (by decide) ?_
  have hZ := hZ.pR (o := 148) (j := 64) (v := 188) (by decide)
  refine zv_aload_n (pc := 340) d_X11_init_340 rfl ?_
  refine zv_bipush (pc := 341) d_X11_init_341 zc_b_8 ?_
  refine kx_newa (pc := 343) (N := 8) d_X11_init_343 (by decide) (by decide +kernel) (by decide +kernel) (by decide) (by decide) rfl hZ ⟨by decide, by decide⟩ (by decide) ?_
  have hZ := hZ.up
  refine kx_putR (pc := 345) (o := 148) (v := 189) d_X11_init_345 lk_CutStonesModel_140 (Or.inr ⟨rfl, rfl, rfl⟩) (by decide) ⟨by decide, by decide⟩ (by decide +kernel) (by decide) ?_
  have hZ := hZ.pR (o := 148) (j := 67) (v := 189) (by decide)
  refine zv_aload_n (pc := 348) d_X11_init_348 rfl ?_
  refine zv_bipush (pc := 349) d_X11_init_349 zc_b_9 ?_
  refine kx_newa (pc := 351) (N := 9) d_X11_init_351 (by decide) (by decide +kernel) (by decide +kernel) (by decide) (by decide) rfl hZ ⟨by decide, by decide⟩ (by decide) ?_
  have hZ := hZ.up
  refine kx_putR (pc := 353) (o := 148) (v := 190) d_X11_init_353 lk_CutStonesModel_143 (Or.inr ⟨rfl, rfl, rfl⟩) (by decide) ⟨by decide, by decide⟩ (by decide +kernel) (by decide) ?_
  have hZ := hZ.pR (o := 148) (j := 68) (v := 190) (by decide)
  refine zv_aload_n (pc := 356) d_X11_init_356 rfl ?_
  refine zv_bipush (pc := 357) d_X11_init_357 zc_b_12 ?_
  refine kx_newa (pc := 359) (N := 12) d_X11_init_359 (by decide) (by decide +kernel) (by decide +kernel) (by decide) (by decide) rfl hZ ⟨by decide, by decide⟩ (by decide) ?_
  have hZ := hZ.up
  refine kx_putR (pc := 361) (o := 148) (v := 191) d_X11_init_361 lk_CutStonesModel_146 (Or.inr ⟨rfl, rfl, rfl⟩) (by decide) ⟨by decide, by decide⟩ (by decide +kernel) (by decide) ?_
  have hZ := hZ.pR (o := 148) (j := 69) (v := 191) (by decide)
  refine zv_aload_n (pc := 364) d_X11_init_364 rfl ?_
  refine zv_bipush (pc := 365) d_X11_init_365 zc_b_7 ?_
  refine kx_newa (pc := 367) (N := 7) d_X11_init_367 (by decide) (by decide +kernel) (by decide +kernel) (by decide) (by decide) rfl hZ ⟨by decide, by decide⟩ (by decide) ?_
  have hZ := hZ.up
  refine kx_putR (pc := 369) (o := 148) (v := 192) d_X11_init_369 lk_CutStonesModel_149 (Or.inr ⟨rfl, rfl, rfl⟩) (by decide) ⟨by decide, by decide⟩ (by decide +kernel) (by decide) ?_
  have hZ := hZ.pR (o := 148) (j := 71) (v := 192) (by decide)
  refine zv_aload_n (pc := 372) d_X11_init_372 rfl ?_
  refine zv_bipush (pc := 373) d_X11_init_373 zc_b_6 ?_
  refine kx_newa (pc := 375) (N := 6) d_X11_init_375 (by decide) (by decide +kernel) (by decide +kernel) (by decide) (by decide) rfl hZ ⟨by decide, by decide⟩ (by decide) ?_
  have hZ := hZ.up
  refine kx_putR (pc := 377) (o := 148) (v := 193) d_X11_init_377 lk_CutStonesModel_152 (Or.inr ⟨rfl, rfl, rfl⟩) (by decide) ⟨by decide, by decide⟩ (by decide +kernel) (by decide) ?_
  have hZ := hZ.pR (o := 148) (j := 72) (v := 193) (by decide)
  refine zv_aload_n (pc := 380) d_X11_init_380 rfl ?_
  refine zv_bipush (pc := 381) d_X11_init_381 zc_b_6 ?_
  refine kx_newa (pc := 383) (N := 6) d_X11_init_383 (by decide) (by decide +kernel) (by decide +kernel) (by decide) (by decide) rfl hZ ⟨by decide, by decide⟩ (by decide) ?_
  have hZ := hZ.up
  refine kx_putR (pc := 385) (o := 148) (v := 194) d_X11_init_385 lk_CutStonesModel_155 (Or.inr ⟨rfl, rfl, rfl⟩) (by decide) ⟨by decide, by decide⟩ (by decide +kernel) (by decide) ?_
  have hZ := hZ.pR (o := 148) (j := 73) (v := 194) (by decide)
  refine zv_aload_n (pc := 388) d_X11_init_388 rfl ?_
  refine zv_bipush (pc := 389) d_X11_init_389 zc_b_6 ?_
  refine kx_newa (pc := 391) (N := 6) d_X11_init_391 (by decide) (by decide +kernel) (by decide +kernel) (by decide) (by decide) rfl hZ ⟨by decide, by decide⟩ (by decide) ?_
  have hZ := hZ.up
  refine kx_putR (pc := 393) (o := 148) (v := 195) d_X11_init_393 lk_CutStonesModel_158 (Or.inr ⟨rfl, rfl, rfl⟩) (by decide) ⟨by decide, by decide⟩ (by decide +kernel) (by decide) ?_
  have hZ := hZ.pR (o := 148) (j := 74) (v := 195) (by decide)
  refine zv_aload_n (pc := 396) d_X11_init_396 rfl ?_
  refine zv_bipush (pc := 397) d_X11_init_397 zc_b_60 ?_
  refine kx_newa (pc := 399) (N := 60) d_X11_init_399 (by decide) (by decide +kernel) (by decide +kernel) (by decide) (by decide) rfl hZ ⟨by decide, by decide⟩ (by decide) ?_
  have hZ := hZ.up
  refine kx_putR (pc := 401) (o := 148) (v := 196) d_X11_init_401 lk_CutStonesModel_161 (Or.inr ⟨rfl, rfl, rfl⟩) (by decide) ⟨by decide, by decide⟩ (by decide +kernel) (by decide) ?_
  have hZ := hZ.pR (o := 148) (j := 76) (v := 196) (by decide)
  refine zv_aload_n (pc := 404) d_X11_init_404 rfl ?_
  refine zv_bipush (pc := 405) d_X11_init_405 zc_b_60 ?_
  refine kx_newa (pc := 407) (N := 60) d_X11_init_407 (by decide) (by decide +kernel) (by decide +kernel) (by decide) (by decide) rfl hZ ⟨by decide, by decide⟩ (by decide) ?_
  have hZ := hZ.up
  refine kx_putR (pc := 409) (o := 148) (v := 197) d_X11_init_409 lk_CutStonesModel_164 (Or.inr ⟨rfl, rfl, rfl⟩) (by decide) ⟨by decide, by decide⟩ (by decide +kernel) (by decide) ?_
  have hZ := hZ.pR (o := 148) (j := 77) (v := 197) (by decide)
  refine zv_aload_n (pc := 412) d_X11_init_412 rfl ?_
  refine zv_bipush (pc := 413) d_X11_init_413 zc_b_60 ?_
  refine kx_newa (pc := 415) (N := 60) d_X11_init_415 (by decide) (by decide +kernel) (by decide +kernel) (by decide) (by decide) rfl hZ ⟨by decide, by decide⟩ (by decide) ?_
  have hZ := hZ.up
  refine kx_putR (pc := 417) (o := 148) (v := 198) d_X11_init_417 lk_CutStonesModel_167 (Or.inr ⟨rfl, rfl, rfl⟩) (by decide) ⟨by decide, by decide⟩ (by decide +kernel) (by decide) ?_
  have hZ := hZ.pR (o := 148) (j := 78) (v := 198) (by decide)
  refine zv_aload_n (pc := 420) d_X11_init_420 rfl ?_
  refine zv_bipush (pc := 421) d_X11_init_421 zc_b_60 ?_
  refine kx_newa (pc := 423) (N := 60) d_X11_init_423 (by decide) (by decide +kernel) (by decide +kernel) (by decide) (by decide) rfl hZ ⟨by decide, by decide⟩ (by decide) ?_
  have hZ := hZ.up
  refine kx_putR (pc := 425) (o := 148) (v := 199) d_X11_init_425 lk_CutStonesModel_170 (Or.inr ⟨rfl, rfl, rfl⟩) (by decide) ⟨by decide, by decide⟩ (by decide +kernel) (by decide) ?_
  have hZ := hZ.pR (o := 148) (j := 79) (v := 199) (by decide)
  refine zv_aload_n (pc := 428) d_X11_init_428 rfl ?_
  refine kx_getR (pc := 429) (o := 148) (v := 155) d_X11_init_429 lk_CutStonesModel_34 (by decide) ⟨by decide, by decide⟩ (by decide +kernel) rfl (by decide) ?_
  refine zv_iconst (pc := 432) d_X11_init_432 zc_i_0 ?_
  refine zv_bipush (pc := 433) d_X11_init_433 zc_b_115 ?_
  refine zv_bipush (pc := 435) d_X11_init_435 zc_b_116 ?_
  refine zv_bipush (pc := 437) d_X11_init_437 zc_b_117 ?_
  refine zv_bipush (pc := 439) d_X11_init_439 zc_b_102 ?_
  refine zv_bipush (pc := 441) d_X11_init_441 zc_b_102 ?_
  refine zv_iconst (pc := 443) d_X11_init_443 zc_i_0 ?_
  refine zv_iconst (pc := 444) d_X11_init_444 zc_i_0 ?_
  refine zv_callS (pc := 445) (As := [.int 115, .int 116, .int 117, .int 102, .int 102, .int 0, .int 0]) (st := [.int 0, .ref 155]) (d2 := 1) (mc2 := 0) (ms2 := 0) (M2 := M_X11_word) (R2 := fun r T => r = some (.long 10506516) ∧ T = (zw_pR (zw_pR (zw_pR (zw_pR (zw_pR (zw_pR (zw_pR (zw_pR (zw_pR (zw_pR (zw_pR (zw_pR (zw_pR (zw_pR (zw_pR (zw_pR (zw_pR (zw_pR (zw_pR (zw_pR (zw_pR (zw_pR (zw_pR (zw_pR (zw_pR (zw_pR (zw_pR (zw_pR (zw_pR (zw_pR (zw_pR (zw_pR (zw_pR (zw_pR (zw_pR (zw_pR (zw_pR (zw_pR (zw_pR (zw_pR (zw_pR (zw_pR (zw_pR (zw_pR (zw_pI (zw_pR (zw_pR (zw_pR (zw_pR (zw_pR (zw_pR (zw_pR S 148 1 149) 148 3 150) 148 5 151) 148 6 152) 148 7 153) 148 8 154) 148 9 155) 148 17 (-1)) 148 20 156) 148 21 157) 148 22 158) 148 23 159) 148 24 160) 148 25 161) 148 26 162) 148 27 163) 148 28 164) 148 29 165) 148 30 166) 148 31 167) 148 32 168) 148 33 169) 148 34 170) 148 35 171) 148 36 172) 148 38 173) 148 39 174) 148 40 175) 148 41 176) 148 42 177) 148 43 178) 148 45 179) 148 46 180) 148 47 181) 148 49 182) 148 50 183) 148 52 184) 148 53 185) 148 60 186) 148 63 187) 148 64 188) 148 67 189) 148 68 190) 148 69 191) 148 71 192) 148 72 193) 148 73 194) 148 74 195) 148 76 196) 148 77 197) 148 78 198) 148 79 199)) d_X11_init_445 (zw_mG (List.mem_of_getElem? (i := 1153) (by decide +kernel)) rfl) ce_X11_word (Nat.le_of_ble_eq_true rfl) rfl (Nat.le_of_ble_eq_true rfl) (by decide) ⟨by decide, by decide⟩ (by decide) (ci_word 115 116 117 102 102 0 0 10506516 (by decide +kernel) ⟨rfl, rfl⟩) ?_
  rintro _ _ ⟨rfl, rfl⟩
  show zw_V X M_X11_init 3 51 15191 148 P (445 + 3) (51 + 0) (15191 + 0) [.ref 148] [.long 10506516, .int 0, .ref 155] (zw_pR (zw_pR (zw_pR (zw_pR (zw_pR (zw_pR (zw_pR (zw_pR (zw_pR (zw_pR (zw_pR (zw_pR (zw_pR (zw_pR (zw_pR (zw_pR (zw_pR (zw_pR (zw_pR (zw_pR (zw_pR (zw_pR (zw_pR (zw_pR (zw_pR (zw_pR (zw_pR (zw_pR (zw_pR (zw_pR (zw_pR (zw_pR (zw_pR (zw_pR (zw_pR (zw_pR (zw_pR (zw_pR (zw_pR (zw_pR (zw_pR (zw_pR (zw_pR (zw_pR (zw_pI (zw_pR (zw_pR (zw_pR (zw_pR (zw_pR (zw_pR (zw_pR S 148 1 149) 148 3 150) 148 5 151) 148 6 152) 148 7 153) 148 8 154) 148 9 155) 148 17 (-1)) 148 20 156) 148 21 157) 148 22 158) 148 23 159) 148 24 160) 148 25 161) 148 26 162) 148 27 163) 148 28 164) 148 29 165) 148 30 166) 148 31 167) 148 32 168) 148 33 169) 148 34 170) 148 35 171) 148 36 172) 148 38 173) 148 39 174) 148 40 175) 148 41 176) 148 42 177) 148 43 178) 148 45 179) 148 46 180) 148 47 181) 148 49 182) 148 50 183) 148 52 184) 148 53 185) 148 60 186) 148 63 187) 148 64 188) 148 67 189) 148 68 190) 148 69 191) 148 71 192) 148 72 193) 148 73 194) 148 74 195) 148 76 196) 148 77 197) 148 78 198) 148 79 199)
  refine kx_last (pc := 448) (o := 155) (j := 0) d_X11_init_448 ⟨by decide, by decide⟩ (by decide +kernel) (by decide +kernel) (by decide +kernel) ?_
  have hZ := hZ.pJ (o := 155) (j := 0) (v := 10506516) (by decide)
  refine zv_aload_n (pc := 449) d_X11_init_449 rfl ?_
  refine kx_getR (pc := 450) (o := 148) (v := 155) d_X11_init_450 lk_CutStonesModel_34 (by decide) ⟨by decide, by decide⟩ (by decide +kernel) rfl (by decide) ?_
  refine zv_iconst (pc := 453) d_X11_init_453 zc_i_1 ?_
  refine zv_bipush (pc := 454) d_X11_init_454 zc_b_99 ?_
  refine zv_bipush (pc := 456) d_X11_init_456 zc_b_117 ?_
  refine zv_bipush (pc := 458) d_X11_init_458 zc_b_116 ?_
  refine zv_iconst (pc := 460) d_X11_init_460 zc_i_0 ?_
  refine zv_iconst (pc := 461) d_X11_init_461 zc_i_0 ?_
  refine zv_iconst (pc := 462) d_X11_init_462 zc_i_0 ?_
  refine zv_iconst (pc := 463) d_X11_init_463 zc_i_0 ?_
  refine zv_callS (pc := 464) (As := [.int 99, .int 117, .int 116, .int 0, .int 0, .int 0, .int 0]) (st := [.int 1, .ref 155]) (d2 := 1) (mc2 := 0) (ms2 := 0) (M2 := M_X11_word) (R2 := fun r T => r = some (.long 2774) ∧ T = (zw_pJ (zw_pR (zw_pR (zw_pR (zw_pR (zw_pR (zw_pR (zw_pR (zw_pR (zw_pR (zw_pR (zw_pR (zw_pR (zw_pR (zw_pR (zw_pR (zw_pR (zw_pR (zw_pR (zw_pR (zw_pR (zw_pR (zw_pR (zw_pR (zw_pR (zw_pR (zw_pR (zw_pR (zw_pR (zw_pR (zw_pR (zw_pR (zw_pR (zw_pR (zw_pR (zw_pR (zw_pR (zw_pR (zw_pR (zw_pR (zw_pR (zw_pR (zw_pR (zw_pR (zw_pR (zw_pI (zw_pR (zw_pR (zw_pR (zw_pR (zw_pR (zw_pR (zw_pR S 148 1 149) 148 3 150) 148 5 151) 148 6 152) 148 7 153) 148 8 154) 148 9 155) 148 17 (-1)) 148 20 156) 148 21 157) 148 22 158) 148 23 159) 148 24 160) 148 25 161) 148 26 162) 148 27 163) 148 28 164) 148 29 165) 148 30 166) 148 31 167) 148 32 168) 148 33 169) 148 34 170) 148 35 171) 148 36 172) 148 38 173) 148 39 174) 148 40 175) 148 41 176) 148 42 177) 148 43 178) 148 45 179) 148 46 180) 148 47 181) 148 49 182) 148 50 183) 148 52 184) 148 53 185) 148 60 186) 148 63 187) 148 64 188) 148 67 189) 148 68 190) 148 69 191) 148 71 192) 148 72 193) 148 73 194) 148 74 195) 148 76 196) 148 77 197) 148 78 198) 148 79 199) 155 0 10506516)) d_X11_init_464 (zw_mG (List.mem_of_getElem? (i := 1153) (by decide +kernel)) rfl) ce_X11_word (Nat.le_of_ble_eq_true rfl) rfl (Nat.le_of_ble_eq_true rfl) (by decide) ⟨by decide, by decide⟩ (by decide) (ci_word 99 117 116 0 0 0 0 2774 (by decide +kernel) ⟨rfl, rfl⟩) ?_
  rintro _ _ ⟨rfl, rfl⟩
  show zw_V X M_X11_init 3 51 15191 148 P (464 + 3) (51 + 0) (15191 + 0) [.ref 148] [.long 2774, .int 1, .ref 155] (zw_pJ (zw_pR (zw_pR (zw_pR (zw_pR (zw_pR (zw_pR (zw_pR (zw_pR (zw_pR (zw_pR (zw_pR (zw_pR (zw_pR (zw_pR (zw_pR (zw_pR (zw_pR (zw_pR (zw_pR (zw_pR (zw_pR (zw_pR (zw_pR (zw_pR (zw_pR (zw_pR (zw_pR (zw_pR (zw_pR (zw_pR (zw_pR (zw_pR (zw_pR (zw_pR (zw_pR (zw_pR (zw_pR (zw_pR (zw_pR (zw_pR (zw_pR (zw_pR (zw_pR (zw_pR (zw_pI (zw_pR (zw_pR (zw_pR (zw_pR (zw_pR (zw_pR (zw_pR S 148 1 149) 148 3 150) 148 5 151) 148 6 152) 148 7 153) 148 8 154) 148 9 155) 148 17 (-1)) 148 20 156) 148 21 157) 148 22 158) 148 23 159) 148 24 160) 148 25 161) 148 26 162) 148 27 163) 148 28 164) 148 29 165) 148 30 166) 148 31 167) 148 32 168) 148 33 169) 148 34 170) 148 35 171) 148 36 172) 148 38 173) 148 39 174) 148 40 175) 148 41 176) 148 42 177) 148 43 178) 148 45 179) 148 46 180) 148 47 181) 148 49 182) 148 50 183) 148 52 184) 148 53 185) 148 60 186) 148 63 187) 148 64 188) 148 67 189) 148 68 190) 148 69 191) 148 71 192) 148 72 193) 148 73 194) 148 74 195) 148 76 196) 148 77 197) 148 78 198) 148 79 199) 155 0 10506516)
  refine kx_last (pc := 467) (o := 155) (j := 1) d_X11_init_467 ⟨by decide, by decide⟩ (by decide +kernel) (by decide +kernel) (by decide +kernel) ?_
  have hZ := hZ.pJ (o := 155) (j := 1) (v := 2774) (by decide)
  refine zv_aload_n (pc := 468) d_X11_init_468 rfl ?_
  refine kx_getR (pc := 469) (o := 148) (v := 155) d_X11_init_469 lk_CutStonesModel_34 (by decide) ⟨by decide, by decide⟩ (by decide +kernel) rfl (by decide) ?_
  refine zv_iconst (pc := 472) d_X11_init_472 zc_i_2 ?_
  refine zv_bipush (pc := 473) d_X11_init_473 zc_b_114 ?_
  refine zv_bipush (pc := 475) d_X11_init_475 zc_b_111 ?_
  refine zv_bipush (pc := 477) d_X11_init_477 zc_b_117 ?_
  refine zv_bipush (pc := 479) d_X11_init_479 zc_b_103 ?_
  refine zv_bipush (pc := 481) d_X11_init_481 zc_b_104 ?_
  refine zv_iconst (pc := 483) d_X11_init_483 zc_i_0 ?_
  refine zv_iconst (pc := 484) d_X11_init_484 zc_i_0 ?_
  refine zv_callS (pc := 485) (As := [.int 114, .int 111, .int 117, .int 103, .int 104, .int 0, .int 0]) (st := [.int 2, .ref 155]) (d2 := 1) (mc2 := 0) (ms2 := 0) (M2 := M_X11_word) (R2 := fun r T => r = some (.long 9876689) ∧ T = (zw_pJ (zw_pJ (zw_pR (zw_pR (zw_pR (zw_pR (zw_pR (zw_pR (zw_pR (zw_pR (zw_pR (zw_pR (zw_pR (zw_pR (zw_pR (zw_pR (zw_pR (zw_pR (zw_pR (zw_pR (zw_pR (zw_pR (zw_pR (zw_pR (zw_pR (zw_pR (zw_pR (zw_pR (zw_pR (zw_pR (zw_pR (zw_pR (zw_pR (zw_pR (zw_pR (zw_pR (zw_pR (zw_pR (zw_pR (zw_pR (zw_pR (zw_pR (zw_pR (zw_pR (zw_pR (zw_pR (zw_pI (zw_pR (zw_pR (zw_pR (zw_pR (zw_pR (zw_pR (zw_pR S 148 1 149) 148 3 150) 148 5 151) 148 6 152) 148 7 153) 148 8 154) 148 9 155) 148 17 (-1)) 148 20 156) 148 21 157) 148 22 158) 148 23 159) 148 24 160) 148 25 161) 148 26 162) 148 27 163) 148 28 164) 148 29 165) 148 30 166) 148 31 167) 148 32 168) 148 33 169) 148 34 170) 148 35 171) 148 36 172) 148 38 173) 148 39 174) 148 40 175) 148 41 176) 148 42 177) 148 43 178) 148 45 179) 148 46 180) 148 47 181) 148 49 182) 148 50 183) 148 52 184) 148 53 185) 148 60 186) 148 63 187) 148 64 188) 148 67 189) 148 68 190) 148 69 191) 148 71 192) 148 72 193) 148 73 194) 148 74 195) 148 76 196) 148 77 197) 148 78 198) 148 79 199) 155 0 10506516) 155 1 2774)) d_X11_init_485 (zw_mG (List.mem_of_getElem? (i := 1153) (by decide +kernel)) rfl) ce_X11_word (Nat.le_of_ble_eq_true rfl) rfl (Nat.le_of_ble_eq_true rfl) (by decide) ⟨by decide, by decide⟩ (by decide) (ci_word 114 111 117 103 104 0 0 9876689 (by decide +kernel) ⟨rfl, rfl⟩) ?_
  rintro _ _ ⟨rfl, rfl⟩
  show zw_V X M_X11_init 3 51 15191 148 P (485 + 3) (51 + 0) (15191 + 0) [.ref 148] [.long 9876689, .int 2, .ref 155] (zw_pJ (zw_pJ (zw_pR (zw_pR (zw_pR (zw_pR (zw_pR (zw_pR (zw_pR (zw_pR (zw_pR (zw_pR (zw_pR (zw_pR (zw_pR (zw_pR (zw_pR (zw_pR (zw_pR (zw_pR (zw_pR (zw_pR (zw_pR (zw_pR (zw_pR (zw_pR (zw_pR (zw_pR (zw_pR (zw_pR (zw_pR (zw_pR (zw_pR (zw_pR (zw_pR (zw_pR (zw_pR (zw_pR (zw_pR (zw_pR (zw_pR (zw_pR (zw_pR (zw_pR (zw_pR (zw_pR (zw_pI (zw_pR (zw_pR (zw_pR (zw_pR (zw_pR (zw_pR (zw_pR S 148 1 149) 148 3 150) 148 5 151) 148 6 152) 148 7 153) 148 8 154) 148 9 155) 148 17 (-1)) 148 20 156) 148 21 157) 148 22 158) 148 23 159) 148 24 160) 148 25 161) 148 26 162) 148 27 163) 148 28 164) 148 29 165) 148 30 166) 148 31 167) 148 32 168) 148 33 169) 148 34 170) 148 35 171) 148 36 172) 148 38 173) 148 39 174) 148 40 175) 148 41 176) 148 42 177) 148 43 178) 148 45 179) 148 46 180) 148 47 181) 148 49 182) 148 50 183) 148 52 184) 148 53 185) 148 60 186) 148 63 187) 148 64 188) 148 67 189) 148 68 190) 148 69 191) 148 71 192) 148 72 193) 148 73 194) 148 74 195) 148 76 196) 148 77 197) 148 78 198) 148 79 199) 155 0 10506516) 155 1 2774)
  refine kx_last (pc := 488) (o := 155) (j := 2) d_X11_init_488 ⟨by decide, by decide⟩ (by decide +kernel) (by decide +kernel) (by decide +kernel) ?_
  have hZ := hZ.pJ (o := 155) (j := 2) (v := 9876689) (by decide)
  refine zv_aload_n (pc := 489) d_X11_init_489 rfl ?_
  refine kx_getR (pc := 490) (o := 148) (v := 155) d_X11_init_490 lk_CutStonesModel_34 (by decide) ⟨by decide, by decide⟩ (by decide +kernel) rfl (by decide) ?_
  refine zv_iconst (pc := 493) d_X11_init_493 zc_i_3 ?_
  refine zv_bipush (pc := 494) d_X11_init_494 zc_b_103 ?_
  refine zv_bipush (pc := 496) d_X11_init_496 zc_b_114 ?_
  refine zv_bipush (pc := 498) d_X11_init_498 zc_b_97 ?_
  refine zv_bipush (pc := 500) d_X11_init_500 zc_b_100 ?_
  refine zv_bipush (pc := 502) d_X11_init_502 zc_b_101 ?_
  refine zv_iconst (pc := 504) d_X11_init_504 zc_i_0 ?_
  refine zv_iconst (pc := 505) d_X11_init_505 zc_i_0 ?_
  refine zv_callS (pc := 506) (As := [.int 103, .int 114, .int 97, .int 100, .int 101, .int 0, .int 0]) (st := [.int 3, .ref 155]) (d2 := 1) (mc2 := 0) (ms2 := 0) (M2 := M_X11_word) (R2 := fun r T => r = some (.long 4075223) ∧ T = (zw_pJ (zw_pJ (zw_pJ (zw_pR (zw_pR (zw_pR (zw_pR (zw_pR (zw_pR (zw_pR (zw_pR (zw_pR (zw_pR (zw_pR (zw_pR (zw_pR (zw_pR (zw_pR (zw_pR (zw_pR (zw_pR (zw_pR (zw_pR (zw_pR (zw_pR (zw_pR (zw_pR (zw_pR (zw_pR (zw_pR (zw_pR (zw_pR (zw_pR (zw_pR (zw_pR (zw_pR (zw_pR (zw_pR (zw_pR (zw_pR (zw_pR (zw_pR (zw_pR (zw_pR (zw_pR (zw_pR (zw_pR (zw_pI (zw_pR (zw_pR (zw_pR (zw_pR (zw_pR (zw_pR (zw_pR S 148 1 149) 148 3 150) 148 5 151) 148 6 152) 148 7 153) 148 8 154) 148 9 155) 148 17 (-1)) 148 20 156) 148 21 157) 148 22 158) 148 23 159) 148 24 160) 148 25 161) 148 26 162) 148 27 163) 148 28 164) 148 29 165) 148 30 166) 148 31 167) 148 32 168) 148 33 169) 148 34 170) 148 35 171) 148 36 172) 148 38 173) 148 39 174) 148 40 175) 148 41 176) 148 42 177) 148 43 178) 148 45 179) 148 46 180) 148 47 181) 148 49 182) 148 50 183) 148 52 184) 148 53 185) 148 60 186) 148 63 187) 148 64 188) 148 67 189) 148 68 190) 148 69 191) 148 71 192) 148 72 193) 148 73 194) 148 74 195) 148 76 196) 148 77 197) 148 78 198) 148 79 199) 155 0 10506516) 155 1 2774) 155 2 9876689)) d_X11_init_506 (zw_mG (List.mem_of_getElem? (i := 1153) (by decide +kernel)) rfl) ce_X11_word (Nat.le_of_ble_eq_true rfl) rfl (Nat.le_of_ble_eq_true rfl) (by decide) ⟨by decide, by decide⟩ (by decide) (ci_word 103 114 97 100 101 0 0 4075223 (by decide +kernel) ⟨rfl, rfl⟩) ?_
  rintro _ _ ⟨rfl, rfl⟩
  show zw_V X M_X11_init 3 51 15191 148 P (506 + 3) (51 + 0) (15191 + 0) [.ref 148] [.long 4075223, .int 3, .ref 155] (zw_pJ (zw_pJ (zw_pJ (zw_pR (zw_pR (zw_pR (zw_pR (zw_pR (zw_pR (zw_pR (zw_pR (zw_pR (zw_pR (zw_pR (zw_pR (zw_pR (zw_pR (zw_pR (zw_pR (zw_pR (zw_pR (zw_pR (zw_pR (zw_pR (zw_pR (zw_pR (zw_pR (zw_pR (zw_pR (zw_pR (zw_pR (zw_pR (zw_pR (zw_pR (zw_pR (zw_pR (zw_pR (zw_pR (zw_pR (zw_pR (zw_pR (zw_pR (zw_pR (zw_pR (zw_pR (zw_pR (zw_pR (zw_pI (zw_pR (zw_pR (zw_pR (zw_pR (zw_pR (zw_pR (zw_pR S 148 1 149) 148 3 150) 148 5 151) 148 6 152) 148 7 153) 148 8 154) 148 9 155) 148 17 (-1)) 148 20 156) 148 21 157) 148 22 158) 148 23 159) 148 24 160) 148 25 161) 148 26 162) 148 27 163) 148 28 164) 148 29 165) 148 30 166) 148 31 167) 148 32 168) 148 33 169) 148 34 170) 148 35 171) 148 36 172) 148 38 173) 148 39 174) 148 40 175) 148 41 176) 148 42 177) 148 43 178) 148 45 179) 148 46 180) 148 47 181) 148 49 182) 148 50 183) 148 52 184) 148 53 185) 148 60 186) 148 63 187) 148 64 188) 148 67 189) 148 68 190) 148 69 191) 148 71 192) 148 72 193) 148 73 194) 148 74 195) 148 76 196) 148 77 197) 148 78 198) 148 79 199) 155 0 10506516) 155 1 2774) 155 2 9876689)
  refine kx_last (pc := 509) (o := 155) (j := 3) d_X11_init_509 ⟨by decide, by decide⟩ (by decide +kernel) (by decide +kernel) (by decide +kernel) ?_
  have hZ := hZ.pJ (o := 155) (j := 3) (v := 4075223) (by decide)
  refine zv_aload_n (pc := 510) d_X11_init_510 rfl ?_
  refine kx_getR (pc := 511) (o := 148) (v := 155) d_X11_init_511 lk_CutStonesModel_34 (by decide) ⟨by decide, by decide⟩ (by decide +kernel) rfl (by decide) ?_
  refine zv_iconst (pc := 514) d_X11_init_514 zc_i_4 ?_
  refine zv_bipush (pc := 515) d_X11_init_515 zc_b_112 ?_
  refine zv_bipush (pc := 517) d_X11_init_517 zc_b_114 ?_
  refine zv_bipush (pc := 519) d_X11_init_519 zc_b_105 ?_
  refine zv_bipush (pc := 521) d_X11_init_521 zc_b_99 ?_
  refine zv_bipush (pc := 523) d_X11_init_523 zc_b_101 ?_
  refine zv_iconst (pc := 525) d_X11_init_525 zc_i_0 ?_
  refine zv_iconst (pc := 526) d_X11_init_526 zc_i_0 ?_
  refine zv_callS (pc := 527) (As := [.int 112, .int 114, .int 105, .int 99, .int 101, .int 0, .int 0]) (st := [.int 4, .ref 155]) (d2 := 1) (mc2 := 0) (ms2 := 0) (M2 := M_X11_word) (R2 := fun r T => r = some (.long 8863997) ∧ T = (zw_pJ (zw_pJ (zw_pJ (zw_pJ (zw_pR (zw_pR (zw_pR (zw_pR (zw_pR (zw_pR (zw_pR (zw_pR (zw_pR (zw_pR (zw_pR (zw_pR (zw_pR (zw_pR (zw_pR (zw_pR (zw_pR (zw_pR (zw_pR (zw_pR (zw_pR (zw_pR (zw_pR (zw_pR (zw_pR (zw_pR (zw_pR (zw_pR (zw_pR (zw_pR (zw_pR (zw_pR (zw_pR (zw_pR (zw_pR (zw_pR (zw_pR (zw_pR (zw_pR (zw_pR (zw_pR (zw_pR (zw_pR (zw_pR (zw_pI (zw_pR (zw_pR (zw_pR (zw_pR (zw_pR (zw_pR (zw_pR S 148 1 149) 148 3 150) 148 5 151) 148 6 152) 148 7 153) 148 8 154) 148 9 155) 148 17 (-1)) 148 20 156) 148 21 157) 148 22 158) 148 23 159) 148 24 160) 148 25 161) 148 26 162) 148 27 163) 148 28 164) 148 29 165) 148 30 166) 148 31 167) 148 32 168) 148 33 169) 148 34 170) 148 35 171) 148 36 172) 148 38 173) 148 39 174) 148 40 175) 148 41 176) 148 42 177) 148 43 178) 148 45 179) 148 46 180) 148 47 181) 148 49 182) 148 50 183) 148 52 184) 148 53 185) 148 60 186) 148 63 187) 148 64 188) 148 67 189) 148 68 190) 148 69 191) 148 71 192) 148 72 193) 148 73 194) 148 74 195) 148 76 196) 148 77 197) 148 78 198) 148 79 199) 155 0 10506516) 155 1 2774) 155 2 9876689) 155 3 4075223)) d_X11_init_527 (zw_mG (List.mem_of_getElem? (i := 1153) (by decide +kernel)) rfl) ce_X11_word (Nat.le_of_ble_eq_true rfl) rfl (Nat.le_of_ble_eq_true rfl) (by decide) ⟨by decide, by decide⟩ (by decide) (ci_word 112 114 105 99 101 0 0 8863997 (by decide +kernel) ⟨rfl, rfl⟩) ?_
  rintro _ _ ⟨rfl, rfl⟩
  show zw_V X M_X11_init 3 51 15191 148 P (527 + 3) (51 + 0) (15191 + 0) [.ref 148] [.long 8863997, .int 4, .ref 155] (zw_pJ (zw_pJ (zw_pJ (zw_pJ (zw_pR (zw_pR (zw_pR (zw_pR (zw_pR (zw_pR (zw_pR (zw_pR (zw_pR (zw_pR (zw_pR (zw_pR (zw_pR (zw_pR (zw_pR (zw_pR (zw_pR (zw_pR (zw_pR (zw_pR (zw_pR (zw_pR (zw_pR (zw_pR (zw_pR (zw_pR (zw_pR (zw_pR (zw_pR (zw_pR (zw_pR (zw_pR (zw_pR (zw_pR (zw_pR (zw_pR (zw_pR (zw_pR (zw_pR (zw_pR (zw_pR (zw_pR (zw_pR (zw_pR (zw_pI (zw_pR (zw_pR (zw_pR (zw_pR (zw_pR (zw_pR (zw_pR S 148 1 149) 148 3 150) 148 5 151) 148 6 152) 148 7 153) 148 8 154) 148 9 155) 148 17 (-1)) 148 20 156) 148 21 157) 148 22 158) 148 23 159) 148 24 160) 148 25 161) 148 26 162) 148 27 163) 148 28 164) 148 29 165) 148 30 166) 148 31 167) 148 32 168) 148 33 169) 148 34 170) 148 35 171) 148 36 172) 148 38 173) 148 39 174) 148 40 175) 148 41 176) 148 42 177) 148 43 178) 148 45 179) 148 46 180) 148 47 181) 148 49 182) 148 50 183) 148 52 184) 148 53 185) 148 60 186) 148 63 187) 148 64 188) 148 67 189) 148 68 190) 148 69 191) 148 71 192) 148 72 193) 148 73 194) 148 74 195) 148 76 196) 148 77 197) 148 78 198) 148 79 199) 155 0 10506516) 155 1 2774) 155 2 9876689) 155 3 4075223)
  refine kx_last (pc := 530) (o := 155) (j := 4) d_X11_init_530 ⟨by decide, by decide⟩ (by decide +kernel) (by decide +kernel) (by decide +kernel) ?_
  have hZ := hZ.pJ (o := 155) (j := 4) (v := 8863997) (by decide)
  refine zv_aload_n (pc := 531) d_X11_init_531 rfl ?_
  refine kx_getR (pc := 532) (o := 148) (v := 155) d_X11_init_532 lk_CutStonesModel_34 (by decide) ⟨by decide, by decide⟩ (by decide +kernel) rfl (by decide) ?_
  refine zv_iconst (pc := 535) d_X11_init_535 zc_i_5 ?_
  refine zv_bipush (pc := 536) d_X11_init_536 zc_b_101 ?_
  refine zv_bipush (pc := 538) d_X11_init_538 zc_b_97 ?_
  refine zv_bipush (pc := 540) d_X11_init_540 zc_b_116 ?_
  refine zv_bipush (pc := 542) d_X11_init_542 zc_b_115 ?_
  refine zv_iconst (pc := 544) d_X11_init_544 zc_i_0 ?_
  refine zv_iconst (pc := 545) d_X11_init_545 zc_i_0 ?_
  refine zv_iconst (pc := 546) d_X11_init_546 zc_i_0 ?_
  refine zv_callS (pc := 547) (As := [.int 101, .int 97, .int 116, .int 115, .int 0, .int 0, .int 0]) (st := [.int 5, .ref 155]) (d2 := 1) (mc2 := 0) (ms2 := 0) (M2 := M_X11_word) (R2 := fun r T => r = some (.long 99703) ∧ T = (zw_pJ (zw_pJ (zw_pJ (zw_pJ (zw_pJ (zw_pR (zw_pR (zw_pR (zw_pR (zw_pR (zw_pR (zw_pR (zw_pR (zw_pR (zw_pR (zw_pR (zw_pR (zw_pR (zw_pR (zw_pR (zw_pR (zw_pR (zw_pR (zw_pR (zw_pR (zw_pR (zw_pR (zw_pR (zw_pR (zw_pR (zw_pR (zw_pR (zw_pR (zw_pR (zw_pR (zw_pR (zw_pR (zw_pR (zw_pR (zw_pR (zw_pR (zw_pR (zw_pR (zw_pR (zw_pR (zw_pR (zw_pR (zw_pR (zw_pR (zw_pI (zw_pR (zw_pR (zw_pR (zw_pR (zw_pR (zw_pR (zw_pR S 148 1 149) 148 3 150) 148 5 151) 148 6 152) 148 7 153) 148 8 154) 148 9 155) 148 17 (-1)) 148 20 156) 148 21 157) 148 22 158) 148 23 159) 148 24 160) 148 25 161) 148 26 162) 148 27 163) 148 28 164) 148 29 165) 148 30 166) 148 31 167) 148 32 168) 148 33 169) 148 34 170) 148 35 171) 148 36 172) 148 38 173) 148 39 174) 148 40 175) 148 41 176) 148 42 177) 148 43 178) 148 45 179) 148 46 180) 148 47 181) 148 49 182) 148 50 183) 148 52 184) 148 53 185) 148 60 186) 148 63 187) 148 64 188) 148 67 189) 148 68 190) 148 69 191) 148 71 192) 148 72 193) 148 73 194) 148 74 195) 148 76 196) 148 77 197) 148 78 198) 148 79 199) 155 0 10506516) 155 1 2774) 155 2 9876689) 155 3 4075223) 155 4 8863997)) d_X11_init_547 (zw_mG (List.mem_of_getElem? (i := 1153) (by decide +kernel)) rfl) ce_X11_word (Nat.le_of_ble_eq_true rfl) rfl (Nat.le_of_ble_eq_true rfl) (by decide) ⟨by decide, by decide⟩ (by decide) (ci_word 101 97 116 115 0 0 0 99703 (by decide +kernel) ⟨rfl, rfl⟩) ?_
  rintro _ _ ⟨rfl, rfl⟩
  show zw_V X M_X11_init 3 51 15191 148 P (547 + 3) (51 + 0) (15191 + 0) [.ref 148] [.long 99703, .int 5, .ref 155] (zw_pJ (zw_pJ (zw_pJ (zw_pJ (zw_pJ (zw_pR (zw_pR (zw_pR (zw_pR (zw_pR (zw_pR (zw_pR (zw_pR (zw_pR (zw_pR (zw_pR (zw_pR (zw_pR (zw_pR (zw_pR (zw_pR (zw_pR (zw_pR (zw_pR (zw_pR (zw_pR (zw_pR (zw_pR (zw_pR (zw_pR (zw_pR (zw_pR (zw_pR (zw_pR (zw_pR (zw_pR (zw_pR (zw_pR (zw_pR (zw_pR (zw_pR (zw_pR (zw_pR (zw_pR (zw_pR (zw_pR (zw_pR (zw_pR (zw_pR (zw_pI (zw_pR (zw_pR (zw_pR (zw_pR (zw_pR (zw_pR (zw_pR S 148 1 149) 148 3 150) 148 5 151) 148 6 152) 148 7 153) 148 8 154) 148 9 155) 148 17 (-1)) 148 20 156) 148 21 157) 148 22 158) 148 23 159) 148 24 160) 148 25 161) 148 26 162) 148 27 163) 148 28 164) 148 29 165) 148 30 166) 148 31 167) 148 32 168) 148 33 169) 148 34 170) 148 35 171) 148 36 172) 148 38 173) 148 39 174) 148 40 175) 148 41 176) 148 42 177) 148 43 178) 148 45 179) 148 46 180) 148 47 181) 148 49 182) 148 50 183) 148 52 184) 148 53 185) 148 60 186) 148 63 187) 148 64 188) 148 67 189) 148 68 190) 148 69 191) 148 71 192) 148 72 193) 148 73 194) 148 74 195) 148 76 196) 148 77 197) 148 78 198) 148 79 199) 155 0 10506516) 155 1 2774) 155 2 9876689) 155 3 4075223) 155 4 8863997)
  refine kx_last (pc := 550) (o := 155) (j := 5) d_X11_init_550 ⟨by decide, by decide⟩ (by decide +kernel) (by decide +kernel) (by decide +kernel) ?_
  have hZ := hZ.pJ (o := 155) (j := 5) (v := 99703) (by decide)
  refine zv_aload_n (pc := 551) d_X11_init_551 rfl ?_
  refine kx_getR (pc := 552) (o := 148) (v := 155) d_X11_init_552 lk_CutStonesModel_34 (by decide) ⟨by decide, by decide⟩ (by decide +kernel) rfl (by decide) ?_
  refine zv_bipush (pc := 555) d_X11_init_555 zc_b_6 ?_
  refine zv_bipush (pc := 557) d_X11_init_557 zc_b_105 ?_
  refine zv_bipush (pc := 559) d_X11_init_559 zc_b_102 ?_
  refine zv_iconst (pc := 561) d_X11_init_561 zc_i_0 ?_
  refine zv_iconst (pc := 562) d_X11_init_562 zc_i_0 ?_
  refine zv_iconst (pc := 563) d_X11_init_563 zc_i_0 ?_
  refine zv_iconst (pc := 564) d_X11_init_564 zc_i_0 ?_
  refine zv_iconst (pc := 565) d_X11_init_565 zc_i_0 ?_
  refine zv_callS (pc := 566) (As := [.int 105, .int 102, .int 0, .int 0, .int 0, .int 0, .int 0]) (st := [.int 6, .ref 155]) (d2 := 1) (mc2 := 0) (ms2 := 0) (M2 := M_X11_word) (R2 := fun r T => r = some (.long 249) ∧ T = (zw_pJ (zw_pJ (zw_pJ (zw_pJ (zw_pJ (zw_pJ (zw_pR (zw_pR (zw_pR (zw_pR (zw_pR (zw_pR (zw_pR (zw_pR (zw_pR (zw_pR (zw_pR (zw_pR (zw_pR (zw_pR (zw_pR (zw_pR (zw_pR (zw_pR (zw_pR (zw_pR (zw_pR (zw_pR (zw_pR (zw_pR (zw_pR (zw_pR (zw_pR (zw_pR (zw_pR (zw_pR (zw_pR (zw_pR (zw_pR (zw_pR (zw_pR (zw_pR (zw_pR (zw_pR (zw_pR (zw_pR (zw_pR (zw_pR (zw_pR (zw_pR (zw_pI (zw_pR (zw_pR (zw_pR (zw_pR (zw_pR (zw_pR (zw_pR S 148 1 149) 148 3 150) 148 5 151) 148 6 152) 148 7 153) 148 8 154) 148 9 155) 148 17 (-1)) 148 20 156) 148 21 157) 148 22 158) 148 23 159) 148 24 160) 148 25 161) 148 26 162) 148 27 163) 148 28 164) 148 29 165) 148 30 166) 148 31 167) 148 32 168) 148 33 169) 148 34 170) 148 35 171) 148 36 172) 148 38 173) 148 39 174) 148 40 175) 148 41 176) 148 42 177) 148 43 178) 148 45 179) 148 46 180) 148 47 181) 148 49 182) 148 50 183) 148 52 184) 148 53 185) 148 60 186) 148 63 187) 148 64 188) 148 67 189) 148 68 190) 148 69 191) 148 71 192) 148 72 193) 148 73 194) 148 74 195) 148 76 196) 148 77 197) 148 78 198) 148 79 199) 155 0 10506516) 155 1 2774) 155 2 9876689) 155 3 4075223) 155 4 8863997) 155 5 99703)) d_X11_init_566 (zw_mG (List.mem_of_getElem? (i := 1153) (by decide +kernel)) rfl) ce_X11_word (Nat.le_of_ble_eq_true rfl) rfl (Nat.le_of_ble_eq_true rfl) (by decide) ⟨by decide, by decide⟩ (by decide) (ci_word 105 102 0 0 0 0 0 249 (by decide +kernel) ⟨rfl, rfl⟩) ?_
  rintro _ _ ⟨rfl, rfl⟩
  show zw_V X M_X11_init 3 51 15191 148 P (566 + 3) (51 + 0) (15191 + 0) [.ref 148] [.long 249, .int 6, .ref 155] (zw_pJ (zw_pJ (zw_pJ (zw_pJ (zw_pJ (zw_pJ (zw_pR (zw_pR (zw_pR (zw_pR (zw_pR (zw_pR (zw_pR (zw_pR (zw_pR (zw_pR (zw_pR (zw_pR (zw_pR (zw_pR (zw_pR (zw_pR (zw_pR (zw_pR (zw_pR (zw_pR (zw_pR (zw_pR (zw_pR (zw_pR (zw_pR (zw_pR (zw_pR (zw_pR (zw_pR (zw_pR (zw_pR (zw_pR (zw_pR (zw_pR (zw_pR (zw_pR (zw_pR (zw_pR (zw_pR (zw_pR (zw_pR (zw_pR (zw_pR (zw_pR (zw_pI (zw_pR (zw_pR (zw_pR (zw_pR (zw_pR (zw_pR (zw_pR S 148 1 149) 148 3 150) 148 5 151) 148 6 152) 148 7 153) 148 8 154) 148 9 155) 148 17 (-1)) 148 20 156) 148 21 157) 148 22 158) 148 23 159) 148 24 160) 148 25 161) 148 26 162) 148 27 163) 148 28 164) 148 29 165) 148 30 166) 148 31 167) 148 32 168) 148 33 169) 148 34 170) 148 35 171) 148 36 172) 148 38 173) 148 39 174) 148 40 175) 148 41 176) 148 42 177) 148 43 178) 148 45 179) 148 46 180) 148 47 181) 148 49 182) 148 50 183) 148 52 184) 148 53 185) 148 60 186) 148 63 187) 148 64 188) 148 67 189) 148 68 190) 148 69 191) 148 71 192) 148 72 193) 148 73 194) 148 74 195) 148 76 196) 148 77 197) 148 78 198) 148 79 199) 155 0 10506516) 155 1 2774) 155 2 9876689) 155 3 4075223) 155 4 8863997) 155 5 99703)
  refine kx_last (pc := 569) (o := 155) (j := 6) d_X11_init_569 ⟨by decide, by decide⟩ (by decide +kernel) (by decide +kernel) (by decide +kernel) ?_
  have hZ := hZ.pJ (o := 155) (j := 6) (v := 249) (by decide)
  refine zv_aload_n (pc := 570) d_X11_init_570 rfl ?_
  refine kx_getR (pc := 571) (o := 148) (v := 155) d_X11_init_571 lk_CutStonesModel_34 (by decide) ⟨by decide, by decide⟩ (by decide +kernel) rfl (by decide) ?_
  refine zv_bipush (pc := 574) d_X11_init_574 zc_b_7 ?_
  refine zv_bipush (pc := 576) d_X11_init_576 zc_b_111 ?_
  refine zv_bipush (pc := 578) d_X11_init_578 zc_b_114 ?_
  refine zv_iconst (pc := 580) d_X11_init_580 zc_i_0 ?_
  refine zv_iconst (pc := 581) d_X11_init_581 zc_i_0 ?_
  refine zv_iconst (pc := 582) d_X11_init_582 zc_i_0 ?_
  refine zv_iconst (pc := 583) d_X11_init_583 zc_i_0 ?_
  refine zv_iconst (pc := 584) d_X11_init_584 zc_i_0 ?_
  refine zv_callS (pc := 585) (As := [.int 111, .int 114, .int 0, .int 0, .int 0, .int 0, .int 0]) (st := [.int 7, .ref 155]) (d2 := 1) (mc2 := 0) (ms2 := 0) (M2 := M_X11_word) (R2 := fun r T => r = some (.long 423) ∧ T = (zw_pJ (zw_pJ (zw_pJ (zw_pJ (zw_pJ (zw_pJ (zw_pJ (zw_pR (zw_pR (zw_pR (zw_pR (zw_pR (zw_pR (zw_pR (zw_pR (zw_pR (zw_pR (zw_pR (zw_pR (zw_pR (zw_pR (zw_pR (zw_pR (zw_pR (zw_pR (zw_pR (zw_pR (zw_pR (zw_pR (zw_pR (zw_pR (zw_pR (zw_pR (zw_pR (zw_pR (zw_pR (zw_pR (zw_pR (zw_pR (zw_pR (zw_pR (zw_pR (zw_pR (zw_pR (zw_pR (zw_pR (zw_pR (zw_pR (zw_pR (zw_pR (zw_pR (zw_pI (zw_pR (zw_pR (zw_pR (zw_pR (zw_pR (zw_pR (zw_pR S 148 1 149) 148 3 150) 148 5 151) 148 6 152) 148 7 153) 148 8 154) 148 9 155) 148 17 (-1)) 148 20 156) 148 21 157) 148 22 158) 148 23 159) 148 24 160) 148 25 161) 148 26 162) 148 27 163) 148 28 164) 148 29 165) 148 30 166) 148 31 167) 148 32 168) 148 33 169) 148 34 170) 148 35 171) 148 36 172) 148 38 173) 148 39 174) 148 40 175) 148 41 176) 148 42 177) 148 43 178) 148 45 179) 148 46 180) 148 47 181) 148 49 182) 148 50 183) 148 52 184) 148 53 185) 148 60 186) 148 63 187) 148 64 188) 148 67 189) 148 68 190) 148 69 191) 148 71 192) 148 72 193) 148 73 194) 148 74 195) 148 76 196) 148 77 197) 148 78 198) 148 79 199) 155 0 10506516) 155 1 2774) 155 2 9876689) 155 3 4075223) 155 4 8863997) 155 5 99703) 155 6 249)) d_X11_init_585 (zw_mG (List.mem_of_getElem? (i := 1153) (by decide +kernel)) rfl) ce_X11_word (Nat.le_of_ble_eq_true rfl) rfl (Nat.le_of_ble_eq_true rfl) (by decide) ⟨by decide, by decide⟩ (by decide) (ci_word 111 114 0 0 0 0 0 423 (by decide +kernel) ⟨rfl, rfl⟩) ?_
  rintro _ _ ⟨rfl, rfl⟩
  show zw_V X M_X11_init 3 51 15191 148 P (585 + 3) (51 + 0) (15191 + 0) [.ref 148] [.long 423, .int 7, .ref 155] (zw_pJ (zw_pJ (zw_pJ (zw_pJ (zw_pJ (zw_pJ (zw_pJ (zw_pR (zw_pR (zw_pR (zw_pR (zw_pR (zw_pR (zw_pR (zw_pR (zw_pR (zw_pR (zw_pR (zw_pR (zw_pR (zw_pR (zw_pR (zw_pR (zw_pR (zw_pR (zw_pR (zw_pR (zw_pR (zw_pR (zw_pR (zw_pR (zw_pR (zw_pR (zw_pR (zw_pR (zw_pR (zw_pR (zw_pR (zw_pR (zw_pR (zw_pR (zw_pR (zw_pR (zw_pR (zw_pR (zw_pR (zw_pR (zw_pR (zw_pR (zw_pR (zw_pR (zw_pI (zw_pR (zw_pR (zw_pR (zw_pR (zw_pR (zw_pR (zw_pR S 148 1 149) 148 3 150) 148 5 151) 148 6 152) 148 7 153) 148 8 154) 148 9 155) 148 17 (-1)) 148 20 156) 148 21 157) 148 22 158) 148 23 159) 148 24 160) 148 25 161) 148 26 162) 148 27 163) 148 28 164) 148 29 165) 148 30 166) 148 31 167) 148 32 168) 148 33 169) 148 34 170) 148 35 171) 148 36 172) 148 38 173) 148 39 174) 148 40 175) 148 41 176) 148 42 177) 148 43 178) 148 45 179) 148 46 180) 148 47 181) 148 49 182) 148 50 183) 148 52 184) 148 53 185) 148 60 186) 148 63 187) 148 64 188) 148 67 189) 148 68 190) 148 69 191) 148 71 192) 148 72 193) 148 73 194) 148 74 195) 148 76 196) 148 77 197) 148 78 198) 148 79 199) 155 0 10506516) 155 1 2774) 155 2 9876689) 155 3 4075223) 155 4 8863997) 155 5 99703) 155 6 249)
  refine kx_last (pc := 588) (o := 155) (j := 7) d_X11_init_588 ⟨by decide, by decide⟩ (by decide +kernel) (by decide +kernel) (by decide +kernel) ?_
  have hZ := hZ.pJ (o := 155) (j := 7) (v := 423) (by decide)
  refine zv_aload_n (pc := 589) d_X11_init_589 rfl ?_
  refine kx_getR (pc := 590) (o := 148) (v := 155) d_X11_init_590 lk_CutStonesModel_34 (by decide) ⟨by decide, by decide⟩ (by decide +kernel) rfl (by decide) ?_
  refine zv_bipush (pc := 593) d_X11_init_593 zc_b_8 ?_
  refine zv_bipush (pc := 595) d_X11_init_595 zc_b_97 ?_
  refine zv_bipush (pc := 597) d_X11_init_597 zc_b_110 ?_
  refine zv_bipush (pc := 599) d_X11_init_599 zc_b_100 ?_
  refine zv_iconst (pc := 601) d_X11_init_601 zc_i_0 ?_
  refine zv_iconst (pc := 602) d_X11_init_602 zc_i_0 ?_
  refine zv_iconst (pc := 603) d_X11_init_603 zc_i_0 ?_
  refine zv_iconst (pc := 604) d_X11_init_604 zc_i_0 ?_
  refine zv_callS (pc := 605) (As := [.int 97, .int 110, .int 100, .int 0, .int 0, .int 0, .int 0]) (st := [.int 8, .ref 155]) (d2 := 1) (mc2 := 0) (ms2 := 0) (M2 := M_X11_word) (R2 := fun r T => r = some (.long 1111) ∧ T = (zw_pJ (zw_pJ (zw_pJ (zw_pJ (zw_pJ (zw_pJ (zw_pJ (zw_pJ (zw_pR (zw_pR (zw_pR (zw_pR (zw_pR (zw_pR (zw_pR (zw_pR (zw_pR (zw_pR (zw_pR (zw_pR (zw_pR (zw_pR (zw_pR (zw_pR (zw_pR (zw_pR (zw_pR (zw_pR (zw_pR (zw_pR (zw_pR (zw_pR (zw_pR (zw_pR (zw_pR (zw_pR (zw_pR (zw_pR (zw_pR (zw_pR (zw_pR (zw_pR (zw_pR (zw_pR (zw_pR (zw_pR (zw_pR (zw_pR (zw_pR (zw_pR (zw_pR (zw_pR (zw_pI (zw_pR (zw_pR (zw_pR (zw_pR (zw_pR (zw_pR (zw_pR S 148 1 149) 148 3 150) 148 5 151) 148 6 152) 148 7 153) 148 8 154) 148 9 155) 148 17 (-1)) 148 20 156) 148 21 157) 148 22 158) 148 23 159) 148 24 160) 148 25 161) 148 26 162) 148 27 163) 148 28 164) 148 29 165) 148 30 166) 148 31 167) 148 32 168) 148 33 169) 148 34 170) 148 35 171) 148 36 172) 148 38 173) 148 39 174) 148 40 175) 148 41 176) 148 42 177) 148 43 178) 148 45 179) 148 46 180) 148 47 181) 148 49 182) 148 50 183) 148 52 184) 148 53 185) 148 60 186) 148 63 187) 148 64 188) 148 67 189) 148 68 190) 148 69 191) 148 71 192) 148 72 193) 148 73 194) 148 74 195) 148 76 196) 148 77 197) 148 78 198) 148 79 199) 155 0 10506516) 155 1 2774) 155 2 9876689) 155 3 4075223) 155 4 8863997) 155 5 99703) 155 6 249) 155 7 423)) d_X11_init_605 (zw_mG (List.mem_of_getElem? (i := 1153) (by decide +kernel)) rfl) ce_X11_word (Nat.le_of_ble_eq_true rfl) rfl (Nat.le_of_ble_eq_true rfl) (by decide) ⟨by decide, by decide⟩ (by decide) (ci_word 97 110 100 0 0 0 0 1111 (by decide +kernel) ⟨rfl, rfl⟩) ?_
  rintro _ _ ⟨rfl, rfl⟩
  show zw_V X M_X11_init 3 51 15191 148 P (605 + 3) (51 + 0) (15191 + 0) [.ref 148] [.long 1111, .int 8, .ref 155] (zw_pJ (zw_pJ (zw_pJ (zw_pJ (zw_pJ (zw_pJ (zw_pJ (zw_pJ (zw_pR (zw_pR (zw_pR (zw_pR (zw_pR (zw_pR (zw_pR (zw_pR (zw_pR (zw_pR (zw_pR (zw_pR (zw_pR (zw_pR (zw_pR (zw_pR (zw_pR (zw_pR (zw_pR (zw_pR (zw_pR (zw_pR (zw_pR (zw_pR (zw_pR (zw_pR (zw_pR (zw_pR (zw_pR (zw_pR (zw_pR (zw_pR (zw_pR (zw_pR (zw_pR (zw_pR (zw_pR (zw_pR (zw_pR (zw_pR (zw_pR (zw_pR (zw_pR (zw_pR (zw_pI (zw_pR (zw_pR (zw_pR (zw_pR (zw_pR (zw_pR (zw_pR S 148 1 149) 148 3 150) 148 5 151) 148 6 152) 148 7 153) 148 8 154) 148 9 155) 148 17 (-1)) 148 20 156) 148 21 157) 148 22 158) 148 23 159) 148 24 160) 148 25 161) 148 26 162) 148 27 163) 148 28 164) 148 29 165) 148 30 166) 148 31 167) 148 32 168) 148 33 169) 148 34 170) 148 35 171) 148 36 172) 148 38 173) 148 39 174) 148 40 175) 148 41 176) 148 42 177) 148 43 178) 148 45 179) 148 46 180) 148 47 181) 148 49 182) 148 50 183) 148 52 184) 148 53 185) 148 60 186) 148 63 187) 148 64 188) 148 67 189) 148 68 190) 148 69 191) 148 71 192) 148 72 193) 148 73 194) 148 74 195) 148 76 196) 148 77 197) 148 78 198) 148 79 199) 155 0 10506516) 155 1 2774) 155 2 9876689) 155 3 4075223) 155 4 8863997) 155 5 99703) 155 6 249) 155 7 423)
  refine kx_last (pc := 608) (o := 155) (j := 8) d_X11_init_608 ⟨by decide, by decide⟩ (by decide +kernel) (by decide +kernel) (by decide +kernel) ?_
  have hZ := hZ.pJ (o := 155) (j := 8) (v := 1111) (by decide)
  refine zv_aload_n (pc := 609) d_X11_init_609 rfl ?_
  refine kx_getR (pc := 610) (o := 148) (v := 155) d_X11_init_610 lk_CutStonesModel_34 (by decide) ⟨by decide, by decide⟩ (by decide +kernel) rfl (by decide) ?_
  refine zv_bipush (pc := 613) d_X11_init_613 zc_b_9 ?_
  refine zv_bipush (pc := 615) d_X11_init_615 zc_b_110 ?_
  refine zv_bipush (pc := 617) d_X11_init_617 zc_b_111 ?_
  refine zv_bipush (pc := 619) d_X11_init_619 zc_b_116 ?_
  refine zv_iconst (pc := 621) d_X11_init_621 zc_i_0 ?_
  refine zv_iconst (pc := 622) d_X11_init_622 zc_i_0 ?_
  refine zv_iconst (pc := 623) d_X11_init_623 zc_i_0 ?_
  refine zv_iconst (pc := 624) d_X11_init_624 zc_i_0 ?_
  refine zv_callS (pc := 625) (As := [.int 110, .int 111, .int 116, .int 0, .int 0, .int 0, .int 0]) (st := [.int 9, .ref 155]) (d2 := 1) (mc2 := 0) (ms2 := 0) (M2 := M_X11_word) (R2 := fun r T => r = some (.long 10631) ∧ T = (zw_pJ (zw_pJ (zw_pJ (zw_pJ (zw_pJ (zw_pJ (zw_pJ (zw_pJ (zw_pJ (zw_pR (zw_pR (zw_pR (zw_pR (zw_pR (zw_pR (zw_pR (zw_pR (zw_pR (zw_pR (zw_pR (zw_pR (zw_pR (zw_pR (zw_pR (zw_pR (zw_pR (zw_pR (zw_pR (zw_pR (zw_pR (zw_pR (zw_pR (zw_pR (zw_pR (zw_pR (zw_pR (zw_pR (zw_pR (zw_pR (zw_pR (zw_pR (zw_pR (zw_pR (zw_pR (zw_pR (zw_pR (zw_pR (zw_pR (zw_pR (zw_pR (zw_pR (zw_pR (zw_pR (zw_pI (zw_pR (zw_pR (zw_pR (zw_pR (zw_pR (zw_pR (zw_pR S 148 1 149) 148 3 150) 148 5 151) 148 6 152) 148 7 153) 148 8 154) 148 9 155) 148 17 (-1)) 148 20 156) 148 21 157) 148 22 158) 148 23 159) 148 24 160) 148 25 161) 148 26 162) 148 27 163) 148 28 164) 148 29 165) 148 30 166) 148 31 167) 148 32 168) 148 33 169) 148 34 170) 148 35 171) 148 36 172) 148 38 173) 148 39 174) 148 40 175) 148 41 176) 148 42 177) 148 43 178) 148 45 179) 148 46 180) 148 47 181) 148 49 182) 148 50 183) 148 52 184) 148 53 185) 148 60 186) 148 63 187) 148 64 188) 148 67 189) 148 68 190) 148 69 191) 148 71 192) 148 72 193) 148 73 194) 148 74 195) 148 76 196) 148 77 197) 148 78 198) 148 79 199) 155 0 10506516) 155 1 2774) 155 2 9876689) 155 3 4075223) 155 4 8863997) 155 5 99703) 155 6 249) 155 7 423) 155 8 1111)) d_X11_init_625 (zw_mG (List.mem_of_getElem? (i := 1153) (by decide +kernel)) rfl) ce_X11_word (Nat.le_of_ble_eq_true rfl) rfl (Nat.le_of_ble_eq_true rfl) (by decide) ⟨by decide, by decide⟩ (by decide) (ci_word 110 111 116 0 0 0 0 10631 (by decide +kernel) ⟨rfl, rfl⟩) ?_
  rintro _ _ ⟨rfl, rfl⟩
  show zw_V X M_X11_init 3 51 15191 148 P (625 + 3) (51 + 0) (15191 + 0) [.ref 148] [.long 10631, .int 9, .ref 155] (zw_pJ (zw_pJ (zw_pJ (zw_pJ (zw_pJ (zw_pJ (zw_pJ (zw_pJ (zw_pJ (zw_pR (zw_pR (zw_pR (zw_pR (zw_pR (zw_pR (zw_pR (zw_pR (zw_pR (zw_pR (zw_pR (zw_pR (zw_pR (zw_pR (zw_pR (zw_pR (zw_pR (zw_pR (zw_pR (zw_pR (zw_pR (zw_pR (zw_pR (zw_pR (zw_pR (zw_pR (zw_pR (zw_pR (zw_pR (zw_pR (zw_pR (zw_pR (zw_pR (zw_pR (zw_pR (zw_pR (zw_pR (zw_pR (zw_pR (zw_pR (zw_pR (zw_pR (zw_pR (zw_pR (zw_pI (zw_pR (zw_pR (zw_pR (zw_pR (zw_pR (zw_pR (zw_pR S 148 1 149) 148 3 150) 148 5 151) 148 6 152) 148 7 153) 148 8 154) 148 9 155) 148 17 (-1)) 148 20 156) 148 21 157) 148 22 158) 148 23 159) 148 24 160) 148 25 161) 148 26 162) 148 27 163) 148 28 164) 148 29 165) 148 30 166) 148 31 167) 148 32 168) 148 33 169) 148 34 170) 148 35 171) 148 36 172) 148 38 173) 148 39 174) 148 40 175) 148 41 176) 148 42 177) 148 43 178) 148 45 179) 148 46 180) 148 47 181) 148 49 182) 148 50 183) 148 52 184) 148 53 185) 148 60 186) 148 63 187) 148 64 188) 148 67 189) 148 68 190) 148 69 191) 148 71 192) 148 72 193) 148 73 194) 148 74 195) 148 76 196) 148 77 197) 148 78 198) 148 79 199) 155 0 10506516) 155 1 2774) 155 2 9876689) 155 3 4075223) 155 4 8863997) 155 5 99703) 155 6 249) 155 7 423) 155 8 1111)
  refine kx_last (pc := 628) (o := 155) (j := 9) d_X11_init_628 ⟨by decide, by decide⟩ (by decide +kernel) (by decide +kernel) (by decide +kernel) ?_
  have hZ := hZ.pJ (o := 155) (j := 9) (v := 10631) (by decide)
  refine zv_aload_n (pc := 629) d_X11_init_629 rfl ?_
  refine kx_getR (pc := 630) (o := 148) (v := 155) d_X11_init_630 lk_CutStonesModel_34 (by decide) ⟨by decide, by decide⟩ (by decide +kernel) rfl (by decide) ?_
  refine zv_bipush (pc := 633) d_X11_init_633 zc_b_10 ?_
  refine zv_bipush (pc := 635) d_X11_init_635 zc_b_98 ?_
  refine zv_bipush (pc := 637) d_X11_init_637 zc_b_114 ?_
  refine zv_bipush (pc := 639) d_X11_init_639 zc_b_105 ?_
  refine zv_bipush (pc := 641) d_X11_init_641 zc_b_103 ?_
  refine zv_bipush (pc := 643) d_X11_init_643 zc_b_104 ?_
  refine zv_bipush (pc := 645) d_X11_init_645 zc_b_116 ?_
  refine zv_iconst (pc := 647) d_X11_init_647 zc_i_0 ?_
  refine zv_callS (pc := 648) (As := [.int 98, .int 114, .int 105, .int 103, .int 104, .int 116, .int 0]) (st := [.int 10, .ref 155]) (d2 := 1) (mc2 := 0) (ms2 := 0) (M2 := M_X11_word) (R2 := fun r T => r = some (.long 38446238) ∧ T = (zw_pJ (zw_pJ (zw_pJ (zw_pJ (zw_pJ (zw_pJ (zw_pJ (zw_pJ (zw_pJ (zw_pJ (zw_pR (zw_pR (zw_pR (zw_pR (zw_pR (zw_pR (zw_pR (zw_pR (zw_pR (zw_pR (zw_pR (zw_pR (zw_pR (zw_pR (zw_pR (zw_pR (zw_pR (zw_pR (zw_pR (zw_pR (zw_pR (zw_pR (zw_pR (zw_pR (zw_pR (zw_pR (zw_pR (zw_pR (zw_pR (zw_pR (zw_pR (zw_pR (zw_pR (zw_pR (zw_pR (zw_pR (zw_pR (zw_pR (zw_pR (zw_pR (zw_pR (zw_pR (zw_pR (zw_pR (zw_pI (zw_pR (zw_pR (zw_pR (zw_pR (zw_pR (zw_pR (zw_pR S 148 1 149) 148 3 150) 148 5 151) 148 6 152) 148 7 153) 148 8 154) 148 9 155) 148 17 (-1)) 148 20 156) 148 21 157) 148 22 158) 148 23 159) 148 24 160) 148 25 161) 148 26 162) 148 27 163) 148 28 164) 148 29 165) 148 30 166) 148 31 167) 148 32 168) 148 33 169) 148 34 170) 148 35 171) 148 36 172) 148 38 173) 148 39 174) 148 40 175) 148 41 176) 148 42 177) 148 43 178) 148 45 179) 148 46 180) 148 47 181) 148 49 182) 148 50 183) 148 52 184) 148 53 185) 148 60 186) 148 63 187) 148 64 188) 148 67 189) 148 68 190) 148 69 191) 148 71 192) 148 72 193) 148 73 194) 148 74 195) 148 76 196) 148 77 197) 148 78 198) 148 79 199) 155 0 10506516) 155 1 2774) 155 2 9876689) 155 3 4075223) 155 4 8863997) 155 5 99703) 155 6 249) 155 7 423) 155 8 1111) 155 9 10631)) d_X11_init_648 (zw_mG (List.mem_of_getElem? (i := 1153) (by decide +kernel)) rfl) ce_X11_word (Nat.le_of_ble_eq_true rfl) rfl (Nat.le_of_ble_eq_true rfl) (by decide) ⟨by decide, by decide⟩ (by decide) (ci_word 98 114 105 103 104 116 0 38446238 (by decide +kernel) ⟨rfl, rfl⟩) ?_
  rintro _ _ ⟨rfl, rfl⟩
  show zw_V X M_X11_init 3 51 15191 148 P (648 + 3) (51 + 0) (15191 + 0) [.ref 148] [.long 38446238, .int 10, .ref 155] (zw_pJ (zw_pJ (zw_pJ (zw_pJ (zw_pJ (zw_pJ (zw_pJ (zw_pJ (zw_pJ (zw_pJ (zw_pR (zw_pR (zw_pR (zw_pR (zw_pR (zw_pR (zw_pR (zw_pR (zw_pR (zw_pR (zw_pR (zw_pR (zw_pR (zw_pR (zw_pR (zw_pR (zw_pR (zw_pR (zw_pR (zw_pR (zw_pR (zw_pR (zw_pR (zw_pR (zw_pR (zw_pR (zw_pR (zw_pR (zw_pR (zw_pR (zw_pR (zw_pR (zw_pR (zw_pR (zw_pR (zw_pR (zw_pR (zw_pR (zw_pR (zw_pR (zw_pR (zw_pR (zw_pR (zw_pR (zw_pI (zw_pR (zw_pR (zw_pR (zw_pR (zw_pR (zw_pR (zw_pR S 148 1 149) 148 3 150) 148 5 151) 148 6 152) 148 7 153) 148 8 154) 148 9 155) 148 17 (-1)) 148 20 156) 148 21 157) 148 22 158) 148 23 159) 148 24 160) 148 25 161) 148 26 162) 148 27 163) 148 28 164) 148 29 165) 148 30 166) 148 31 167) 148 32 168) 148 33 169) 148 34 170) 148 35 171) 148 36 172) 148 38 173) 148 39 174) 148 40 175) 148 41 176) 148 42 177) 148 43 178) 148 45 179) 148 46 180) 148 47 181) 148 49 182) 148 50 183) 148 52 184) 148 53 185) 148 60 186) 148 63 187) 148 64 188) 148 67 189) 148 68 190) 148 69 191) 148 71 192) 148 72 193) 148 73 194) 148 74 195) 148 76 196) 148 77 197) 148 78 198) 148 79 199) 155 0 10506516) 155 1 2774) 155 2 9876689) 155 3 4075223) 155 4 8863997) 155 5 99703) 155 6 249) 155 7 423) 155 8 1111) 155 9 10631)
  refine kx_last (pc := 651) (o := 155) (j := 10) d_X11_init_651 ⟨by decide, by decide⟩ (by decide +kernel) (by decide +kernel) (by decide +kernel) ?_
  have hZ := hZ.pJ (o := 155) (j := 10) (v := 38446238) (by decide)
  refine zv_aload_n (pc := 652) d_X11_init_652 rfl ?_
  refine kx_getR (pc := 653) (o := 148) (v := 155) d_X11_init_653 lk_CutStonesModel_34 (by decide) ⟨by decide, by decide⟩ (by decide +kernel) rfl (by decide) ?_
  refine zv_bipush (pc := 656) d_X11_init_656 zc_b_11 ?_
  refine zv_bipush (pc := 658) d_X11_init_658 zc_b_108 ?_
  refine zv_bipush (pc := 660) d_X11_init_660 zc_b_101 ?_
  refine zv_bipush (pc := 662) d_X11_init_662 zc_b_97 ?_
  refine zv_bipush (pc := 664) d_X11_init_664 zc_b_107 ?_
  refine zv_iconst (pc := 666) d_X11_init_666 zc_i_0 ?_
  refine zv_iconst (pc := 667) d_X11_init_667 zc_i_0 ?_
  refine zv_iconst (pc := 668) d_X11_init_668 zc_i_0 ?_
  refine zv_callS (pc := 669) (As := [.int 108, .int 101, .int 97, .int 107, .int 0, .int 0, .int 0]) (st := [.int 11, .ref 155]) (d2 := 1) (mc2 := 0) (ms2 := 0) (M2 := M_X11_word) (R2 := fun r T => r = some (.long 239879) ∧ T = (zw_pJ (zw_pJ (zw_pJ (zw_pJ (zw_pJ (zw_pJ (zw_pJ (zw_pJ (zw_pJ (zw_pJ (zw_pJ (zw_pR (zw_pR (zw_pR (zw_pR (zw_pR (zw_pR (zw_pR (zw_pR (zw_pR (zw_pR (zw_pR (zw_pR (zw_pR (zw_pR (zw_pR (zw_pR (zw_pR (zw_pR (zw_pR (zw_pR (zw_pR (zw_pR (zw_pR (zw_pR (zw_pR (zw_pR (zw_pR (zw_pR (zw_pR (zw_pR (zw_pR (zw_pR (zw_pR (zw_pR (zw_pR (zw_pR (zw_pR (zw_pR (zw_pR (zw_pR (zw_pR (zw_pR (zw_pR (zw_pR (zw_pI (zw_pR (zw_pR (zw_pR (zw_pR (zw_pR (zw_pR (zw_pR S 148 1 149) 148 3 150) 148 5 151) 148 6 152) 148 7 153) 148 8 154) 148 9 155) 148 17 (-1)) 148 20 156) 148 21 157) 148 22 158) 148 23 159) 148 24 160) 148 25 161) 148 26 162) 148 27 163) 148 28 164) 148 29 165) 148 30 166) 148 31 167) 148 32 168) 148 33 169) 148 34 170) 148 35 171) 148 36 172) 148 38 173) 148 39 174) 148 40 175) 148 41 176) 148 42 177) 148 43 178) 148 45 179) 148 46 180) 148 47 181) 148 49 182) 148 50 183) 148 52 184) 148 53 185) 148 60 186) 148 63 187) 148 64 188) 148 67 189) 148 68 190) 148 69 191) 148 71 192) 148 72 193) 148 73 194) 148 74 195) 148 76 196) 148 77 197) 148 78 198) 148 79 199) 155 0 10506516) 155 1 2774) 155 2 9876689) 155 3 4075223) 155 4 8863997) 155 5 99703) 155 6 249) 155 7 423) 155 8 1111) 155 9 10631) 155 10 38446238)) d_X11_init_669 (zw_mG (List.mem_of_getElem? (i := 1153) (by decide +kernel)) rfl) ce_X11_word (Nat.le_of_ble_eq_true rfl) rfl (Nat.le_of_ble_eq_true rfl) (by decide) ⟨by decide, by decide⟩ (by decide) (ci_word 108 101 97 107 0 0 0 239879 (by decide +kernel) ⟨rfl, rfl⟩) ?_
  rintro _ _ ⟨rfl, rfl⟩
  show zw_V X M_X11_init 3 51 15191 148 P (669 + 3) (51 + 0) (15191 + 0) [.ref 148] [.long 239879, .int 11, .ref 155] (zw_pJ (zw_pJ (zw_pJ (zw_pJ (zw_pJ (zw_pJ (zw_pJ (zw_pJ (zw_pJ (zw_pJ (zw_pJ (zw_pR (zw_pR (zw_pR (zw_pR (zw_pR (zw_pR (zw_pR (zw_pR (zw_pR (zw_pR (zw_pR (zw_pR (zw_pR (zw_pR (zw_pR (zw_pR (zw_pR (zw_pR (zw_pR (zw_pR (zw_pR (zw_pR (zw_pR (zw_pR (zw_pR (zw_pR (zw_pR (zw_pR (zw_pR (zw_pR (zw_pR (zw_pR (zw_pR (zw_pR (zw_pR (zw_pR (zw_pR (zw_pR (zw_pR (zw_pR (zw_pR (zw_pR (zw_pR (zw_pR (zw_pI (zw_pR (zw_pR (zw_pR (zw_pR (zw_pR (zw_pR (zw_pR S 148 1 149) 148 3 150) 148 5 151) 148 6 152) 148 7 153) 148 8 154) 148 9 155) 148 17 (-1)) 148 20 156) 148 21 157) 148 22 158) 148 23 159) 148 24 160) 148 25 161) 148 26 162) 148 27 163) 148 28 164) 148 29 165) 148 30 166) 148 31 167) 148 32 168) 148 33 169) 148 34 170) 148 35 171) 148 36 172) 148 38 173) 148 39 174) 148 40 175) 148 41 176) 148 42 177) 148 43 178) 148 45 179) 148 46 180) 148 47 181) 148 49 182) 148 50 183) 148 52 184) 148 53 185) 148 60 186) 148 63 187) 148 64 188) 148 67 189) 148 68 190) 148 69 191) 148 71 192) 148 72 193) 148 73 194) 148 74 195) 148 76 196) 148 77 197) 148 78 198) 148 79 199) 155 0 10506516) 155 1 2774) 155 2 9876689) 155 3 4075223) 155 4 8863997) 155 5 99703) 155 6 249) 155 7 423) 155 8 1111) 155 9 10631) 155 10 38446238)
  refine kx_last (pc := 672) (o := 155) (j := 11) d_X11_init_672 ⟨by decide, by decide⟩ (by decide +kernel) (by decide +kernel) (by decide +kernel) ?_
  have hZ := hZ.pJ (o := 155) (j := 11) (v := 239879) (by decide)
  refine zv_aload_n (pc := 673) d_X11_init_673 rfl ?_
  refine kx_getR (pc := 674) (o := 148) (v := 155) d_X11_init_674 lk_CutStonesModel_34 (by decide) ⟨by decide, by decide⟩ (by decide +kernel) rfl (by decide) ?_
  refine zv_bipush (pc := 677) d_X11_init_677 zc_b_12 ?_
  refine zv_bipush (pc := 679) d_X11_init_679 zc_b_100 ?_
  refine zv_bipush (pc := 681) d_X11_init_681 zc_b_97 ?_
  refine zv_bipush (pc := 683) d_X11_init_683 zc_b_114 ?_
  refine zv_bipush (pc := 685) d_X11_init_685 zc_b_107 ?_
  refine zv_iconst (pc := 687) d_X11_init_687 zc_i_0 ?_
  refine zv_iconst (pc := 688) d_X11_init_688 zc_i_0 ?_
  refine zv_iconst (pc := 689) d_X11_init_689 zc_i_0 ?_
  refine zv_callS (pc := 690) (As := [.int 100, .int 97, .int 114, .int 107, .int 0, .int 0, .int 0]) (st := [.int 12, .ref 155]) (d2 := 1) (mc2 := 0) (ms2 := 0) (M2 := M_X11_word) (R2 := fun r T => r = some (.long 79958) ∧ T = (zw_pJ (zw_pJ (zw_pJ (zw_pJ (zw_pJ (zw_pJ (zw_pJ (zw_pJ (zw_pJ (zw_pJ (zw_pJ (zw_pJ (zw_pR (zw_pR (zw_pR (zw_pR (zw_pR (zw_pR (zw_pR (zw_pR (zw_pR (zw_pR (zw_pR (zw_pR (zw_pR (zw_pR (zw_pR (zw_pR (zw_pR (zw_pR (zw_pR (zw_pR (zw_pR (zw_pR (zw_pR (zw_pR (zw_pR (zw_pR (zw_pR (zw_pR (zw_pR (zw_pR (zw_pR (zw_pR (zw_pR (zw_pR (zw_pR (zw_pR (zw_pR (zw_pR (zw_pR (zw_pR (zw_pR (zw_pR (zw_pR (zw_pR (zw_pI (zw_pR (zw_pR (zw_pR (zw_pR (zw_pR (zw_pR (zw_pR S 148 1 149) 148 3 150) 148 5 151) 148 6 152) 148 7 153) 148 8 154) 148 9 155) 148 17 (-1)) 148 20 156) 148 21 157) 148 22 158) 148 23 159) 148 24 160) 148 25 161) 148 26 162) 148 27 163) 148 28 164) 148 29 165) 148 30 166) 148 31 167) 148 32 168) 148 33 169) 148 34 170) 148 35 171) 148 36 172) 148 38 173) 148 39 174) 148 40 175) 148 41 176) 148 42 177) 148 43 178) 148 45 179) 148 46 180) 148 47 181) 148 49 182) 148 50 183) 148 52 184) 148 53 185) 148 60 186) 148 63 187) 148 64 188) 148 67 189) 148 68 190) 148 69 191) 148 71 192) 148 72 193) 148 73 194) 148 74 195) 148 76 196) 148 77 197) 148 78 198) 148 79 199) 155 0 10506516) 155 1 2774) 155 2 9876689) 155 3 4075223) 155 4 8863997) 155 5 99703) 155 6 249) 155 7 423) 155 8 1111) 155 9 10631) 155 10 38446238) 155 11 239879)) d_X11_init_690 (zw_mG (List.mem_of_getElem? (i := 1153) (by decide +kernel)) rfl) ce_X11_word (Nat.le_of_ble_eq_true rfl) rfl (Nat.le_of_ble_eq_true rfl) (by decide) ⟨by decide, by decide⟩ (by decide) (ci_word 100 97 114 107 0 0 0 79958 (by decide +kernel) ⟨rfl, rfl⟩) ?_
  rintro _ _ ⟨rfl, rfl⟩
  show zw_V X M_X11_init 3 51 15191 148 P (690 + 3) (51 + 0) (15191 + 0) [.ref 148] [.long 79958, .int 12, .ref 155] (zw_pJ (zw_pJ (zw_pJ (zw_pJ (zw_pJ (zw_pJ (zw_pJ (zw_pJ (zw_pJ (zw_pJ (zw_pJ (zw_pJ (zw_pR (zw_pR (zw_pR (zw_pR (zw_pR (zw_pR (zw_pR (zw_pR (zw_pR (zw_pR (zw_pR (zw_pR (zw_pR (zw_pR (zw_pR (zw_pR (zw_pR (zw_pR (zw_pR (zw_pR (zw_pR (zw_pR (zw_pR (zw_pR (zw_pR (zw_pR (zw_pR (zw_pR (zw_pR (zw_pR (zw_pR (zw_pR (zw_pR (zw_pR (zw_pR (zw_pR (zw_pR (zw_pR (zw_pR (zw_pR (zw_pR (zw_pR (zw_pR (zw_pR (zw_pI (zw_pR (zw_pR (zw_pR (zw_pR (zw_pR (zw_pR (zw_pR S 148 1 149) 148 3 150) 148 5 151) 148 6 152) 148 7 153) 148 8 154) 148 9 155) 148 17 (-1)) 148 20 156) 148 21 157) 148 22 158) 148 23 159) 148 24 160) 148 25 161) 148 26 162) 148 27 163) 148 28 164) 148 29 165) 148 30 166) 148 31 167) 148 32 168) 148 33 169) 148 34 170) 148 35 171) 148 36 172) 148 38 173) 148 39 174) 148 40 175) 148 41 176) 148 42 177) 148 43 178) 148 45 179) 148 46 180) 148 47 181) 148 49 182) 148 50 183) 148 52 184) 148 53 185) 148 60 186) 148 63 187) 148 64 188) 148 67 189) 148 68 190) 148 69 191) 148 71 192) 148 72 193) 148 73 194) 148 74 195) 148 76 196) 148 77 197) 148 78 198) 148 79 199) 155 0 10506516) 155 1 2774) 155 2 9876689) 155 3 4075223) 155 4 8863997) 155 5 99703) 155 6 249) 155 7 423) 155 8 1111) 155 9 10631) 155 10 38446238) 155 11 239879)
  refine kx_last (pc := 693) (o := 155) (j := 12) d_X11_init_693 ⟨by decide, by decide⟩ (by decide +kernel) (by decide +kernel) (by decide +kernel) ?_
  have hZ := hZ.pJ (o := 155) (j := 12) (v := 79958) (by decide)
  refine zv_aload_n (pc := 694) d_X11_init_694 rfl ?_
  refine kx_getR (pc := 695) (o := 148) (v := 155) d_X11_init_695 lk_CutStonesModel_34 (by decide) ⟨by decide, by decide⟩ (by decide +kernel) rfl (by decide) ?_
  refine zv_bipush (pc := 698) d_X11_init_698 zc_b_13 ?_
  refine zv_bipush (pc := 700) d_X11_init_700 zc_b_119 ?_
  refine zv_bipush (pc := 702) d_X11_init_702 zc_b_101 ?_
  refine zv_bipush (pc := 704) d_X11_init_704 zc_b_105 ?_
  refine zv_bipush (pc := 706) d_X11_init_706 zc_b_103 ?_
  refine zv_bipush (pc := 708) d_X11_init_708 zc_b_104 ?_
  refine zv_bipush (pc := 710) d_X11_init_710 zc_b_116 ?_
  refine zv_iconst (pc := 712) d_X11_init_712 zc_i_0 ?_
  refine zv_callS (pc := 713) (As := [.int 119, .int 101, .int 105, .int 103, .int 104, .int 116, .int 0]) (st := [.int 13, .ref 155]) (d2 := 1) (mc2 := 0) (ms2 := 0) (M2 := M_X11_word) (R2 := fun r T => r = some (.long 332864552) ∧ T = (zw_pJ (zw_pJ (zw_pJ (zw_pJ (zw_pJ (zw_pJ (zw_pJ (zw_pJ (zw_pJ (zw_pJ (zw_pJ (zw_pJ (zw_pJ (zw_pR (zw_pR (zw_pR (zw_pR (zw_pR (zw_pR (zw_pR (zw_pR (zw_pR (zw_pR (zw_pR (zw_pR (zw_pR (zw_pR (zw_pR (zw_pR (zw_pR (zw_pR (zw_pR (zw_pR (zw_pR (zw_pR (zw_pR (zw_pR (zw_pR (zw_pR (zw_pR (zw_pR (zw_pR (zw_pR (zw_pR (zw_pR (zw_pR (zw_pR (zw_pR (zw_pR (zw_pR (zw_pR (zw_pR (zw_pR (zw_pR (zw_pR (zw_pR (zw_pR (zw_pI (zw_pR (zw_pR (zw_pR (zw_pR (zw_pR (zw_pR (zw_pR S 148 1 149) 148 3 150) 148 5 151) 148 6 152) 148 7 153) 148 8 154) 148 9 155) 148 17 (-1)) 148 20 156) 148 21 157) 148 22 158) 148 23 159) 148 24 160) 148 25 161) 148 26 162) 148 27 163) 148 28 164) 148 29 165) 148 30 166) 148 31 167) 148 32 168) 148 33 169) 148 34 170) 148 35 171) 148 36 172) 148 38 173) 148 39 174) 148 40 175) 148 41 176) 148 42 177) 148 43 178) 148 45 179) 148 46 180) 148 47 181) 148 49 182) 148 50 183) 148 52 184) 148 53 185) 148 60 186) 148 63 187) 148 64 188) 148 67 189) 148 68 190) 148 69 191) 148 71 192) 148 72 193) 148 73 194) 148 74 195) 148 76 196) 148 77 197) 148 78 198) 148 79 199) 155 0 10506516) 155 1 2774) 155 2 9876689) 155 3 4075223) 155 4 8863997) 155 5 99703) 155 6 249) 155 7 423) 155 8 1111) 155 9 10631) 155 10 38446238) 155 11 239879) 155 12 79958)) d_X11_init_713 (zw_mG (List.mem_of_getElem? (i := 1153) (by decide +kernel)) rfl) ce_X11_word (Nat.le_of_ble_eq_true rfl) rfl (Nat.le_of_ble_eq_true rfl) (by decide) ⟨by decide, by decide⟩ (by decide) (ci_word 119 101 105 103 104 116 0 332864552 (by decide +kernel) ⟨rfl, rfl⟩) ?_
  rintro _ _ ⟨rfl, rfl⟩
  show zw_V X M_X11_init 3 51 15191 148 P (713 + 3) (51 + 0) (15191 + 0) [.ref 148] [.long 332864552, .int 13, .ref 155] (zw_pJ (zw_pJ (zw_pJ (zw_pJ (zw_pJ (zw_pJ (zw_pJ (zw_pJ (zw_pJ (zw_pJ (zw_pJ (zw_pJ (zw_pJ (zw_pR (zw_pR (zw_pR (zw_pR (zw_pR (zw_pR (zw_pR (zw_pR (zw_pR (zw_pR (zw_pR (zw_pR (zw_pR (zw_pR (zw_pR (zw_pR (zw_pR (zw_pR (zw_pR (zw_pR (zw_pR (zw_pR (zw_pR (zw_pR (zw_pR (zw_pR (zw_pR (zw_pR (zw_pR (zw_pR (zw_pR (zw_pR (zw_pR (zw_pR (zw_pR (zw_pR (zw_pR (zw_pR (zw_pR (zw_pR (zw_pR (zw_pR (zw_pR (zw_pR (zw_pI (zw_pR (zw_pR (zw_pR (zw_pR (zw_pR (zw_pR (zw_pR S 148 1 149) 148 3 150) 148 5 151) 148 6 152) 148 7 153) 148 8 154) 148 9 155) 148 17 (-1)) 148 20 156) 148 21 157) 148 22 158) 148 23 159) 148 24 160) 148 25 161) 148 26 162) 148 27 163) 148 28 164) 148 29 165) 148 30 166) 148 31 167) 148 32 168) 148 33 169) 148 34 170) 148 35 171) 148 36 172) 148 38 173) 148 39 174) 148 40 175) 148 41 176) 148 42 177) 148 43 178) 148 45 179) 148 46 180) 148 47 181) 148 49 182) 148 50 183) 148 52 184) 148 53 185) 148 60 186) 148 63 187) 148 64 188) 148 67 189) 148 68 190) 148 69 191) 148 71 192) 148 72 193) 148 73 194) 148 74 195) 148 76 196) 148 77 197) 148 78 198) 148 79 199) 155 0 10506516) 155 1 2774) 155 2 9876689) 155 3 4075223) 155 4 8863997) 155 5 99703) 155 6 249) 155 7 423) 155 8 1111) 155 9 10631) 155 10 38446238) 155 11 239879) 155 12 79958)
  refine kx_last (pc := 716) (o := 155) (j := 13) d_X11_init_716 ⟨by decide, by decide⟩ (by decide +kernel) (by decide +kernel) (by decide +kernel) ?_
  have hZ := hZ.pJ (o := 155) (j := 13) (v := 332864552) (by decide)
  refine zv_aload_n (pc := 717) d_X11_init_717 rfl ?_
  refine kx_getR (pc := 718) (o := 148) (v := 155) d_X11_init_718 lk_CutStonesModel_34 (by decide) ⟨by decide, by decide⟩ (by decide +kernel) rfl (by decide) ?_
  refine zv_bipush (pc := 721) d_X11_init_721 zc_b_14 ?_
  refine zv_bipush (pc := 723) d_X11_init_723 zc_b_117 ?_
  refine zv_bipush (pc := 725) d_X11_init_725 zc_b_110 ?_
  refine zv_bipush (pc := 727) d_X11_init_727 zc_b_101 ?_
  refine zv_bipush (pc := 729) d_X11_init_729 zc_b_118 ?_
  refine zv_bipush (pc := 731) d_X11_init_731 zc_b_101 ?_
  refine zv_bipush (pc := 733) d_X11_init_733 zc_b_110 ?_
  refine zv_iconst (pc := 735) d_X11_init_735 zc_i_0 ?_
  refine zv_callS (pc := 736) (As := [.int 117, .int 110, .int 101, .int 118, .int 101, .int 110, .int 0]) (st := [.int 14, .ref 155]) (d2 := 1) (mc2 := 0) (ms2 := 0) (M2 := M_X11_word) (R2 := fun r T => r = some (.long 308881823) ∧ T = (zw_pJ (zw_pJ (zw_pJ (zw_pJ (zw_pJ (zw_pJ (zw_pJ (zw_pJ (zw_pJ (zw_pJ (zw_pJ (zw_pJ (zw_pJ (zw_pJ (zw_pR (zw_pR (zw_pR (zw_pR (zw_pR (zw_pR (zw_pR (zw_pR (zw_pR (zw_pR (zw_pR (zw_pR (zw_pR (zw_pR (zw_pR (zw_pR (zw_pR (zw_pR (zw_pR (zw_pR (zw_pR (zw_pR (zw_pR (zw_pR (zw_pR (zw_pR (zw_pR (zw_pR (zw_pR (zw_pR (zw_pR (zw_pR (zw_pR (zw_pR (zw_pR (zw_pR (zw_pR (zw_pR (zw_pR (zw_pR (zw_pR (zw_pR (zw_pR (zw_pR (zw_pI (zw_pR (zw_pR (zw_pR (zw_pR (zw_pR (zw_pR (zw_pR S 148 1 149) 148 3 150) 148 5 151) 148 6 152) 148 7 153) 148 8 154) 148 9 155) 148 17 (-1)) 148 20 156) 148 21 157) 148 22 158) 148 23 159) 148 24 160) 148 25 161) 148 26 162) 148 27 163) 148 28 164) 148 29 165) 148 30 166) 148 31 167) 148 32 168) 148 33 169) 148 34 170) 148 35 171) 148 36 172) 148 38 173) 148 39 174) 148 40 175) 148 41 176) 148 42 177) 148 43 178) 148 45 179) 148 46 180) 148 47 181) 148 49 182) 148 50 183) 148 52 184) 148 53 185) 148 60 186) 148 63 187) 148 64 188) 148 67 189) 148 68 190) 148 69 191) 148 71 192) 148 72 193) 148 73 194) 148 74 195) 148 76 196) 148 77 197) 148 78 198) 148 79 199) 155 0 10506516) 155 1 2774) 155 2 9876689) 155 3 4075223) 155 4 8863997) 155 5 99703) 155 6 249) 155 7 423) 155 8 1111) 155 9 10631) 155 10 38446238) 155 11 239879) 155 12 79958) 155 13 332864552)) d_X11_init_736 (zw_mG (List.mem_of_getElem? (i := 1153) (by decide +kernel)) rfl) ce_X11_word (Nat.le_of_ble_eq_true rfl) rfl (Nat.le_of_ble_eq_true rfl) (by decide) ⟨by decide, by decide⟩ (by decide) (ci_word 117 110 101 118 101 110 0 308881823 (by decide +kernel) ⟨rfl, rfl⟩) ?_
  rintro _ _ ⟨rfl, rfl⟩
  show zw_V X M_X11_init 3 51 15191 148 P (736 + 3) (51 + 0) (15191 + 0) [.ref 148] [.long 308881823, .int 14, .ref 155] (zw_pJ (zw_pJ (zw_pJ (zw_pJ (zw_pJ (zw_pJ (zw_pJ (zw_pJ (zw_pJ (zw_pJ (zw_pJ (zw_pJ (zw_pJ (zw_pJ (zw_pR (zw_pR (zw_pR (zw_pR (zw_pR (zw_pR (zw_pR (zw_pR (zw_pR (zw_pR (zw_pR (zw_pR (zw_pR (zw_pR (zw_pR (zw_pR (zw_pR (zw_pR (zw_pR (zw_pR (zw_pR (zw_pR (zw_pR (zw_pR (zw_pR (zw_pR (zw_pR (zw_pR (zw_pR (zw_pR (zw_pR (zw_pR (zw_pR (zw_pR (zw_pR (zw_pR (zw_pR (zw_pR (zw_pR (zw_pR (zw_pR (zw_pR (zw_pR (zw_pR (zw_pI (zw_pR (zw_pR (zw_pR (zw_pR (zw_pR (zw_pR (zw_pR S 148 1 149) 148 3 150) 148 5 151) 148 6 152) 148 7 153) 148 8 154) 148 9 155) 148 17 (-1)) 148 20 156) 148 21 157) 148 22 158) 148 23 159) 148 24 160) 148 25 161) 148 26 162) 148 27 163) 148 28 164) 148 29 165) 148 30 166) 148 31 167) 148 32 168) 148 33 169) 148 34 170) 148 35 171) 148 36 172) 148 38 173) 148 39 174) 148 40 175) 148 41 176) 148 42 177) 148 43 178) 148 45 179) 148 46 180) 148 47 181) 148 49 182) 148 50 183) 148 52 184) 148 53 185) 148 60 186) 148 63 187) 148 64 188) 148 67 189) 148 68 190) 148 69 191) 148 71 192) 148 72 193) 148 73 194) 148 74 195) 148 76 196) 148 77 197) 148 78 198) 148 79 199) 155 0 10506516) 155 1 2774) 155 2 9876689) 155 3 4075223) 155 4 8863997) 155 5 99703) 155 6 249) 155 7 423) 155 8 1111) 155 9 10631) 155 10 38446238) 155 11 239879) 155 12 79958) 155 13 332864552)
  refine kx_last (pc := 739) (o := 155) (j := 14) d_X11_init_739 ⟨by decide, by decide⟩ (by decide +kernel) (by decide +kernel) (by decide +kernel) ?_
  have hZ := hZ.pJ (o := 155) (j := 14) (v := 308881823) (by decide)
  refine zv_aload_n (pc := 740) d_X11_init_740 rfl ?_
  refine kx_getR (pc := 741) (o := 148) (v := 155) d_X11_init_741 lk_CutStonesModel_34 (by decide) ⟨by decide, by decide⟩ (by decide +kernel) rfl (by decide) ?_
  refine zv_bipush (pc := 744) d_X11_init_744 zc_b_15 ?_
  refine zv_bipush (pc := 746) d_X11_init_746 zc_b_102 ?_
  refine zv_bipush (pc := 748) d_X11_init_748 zc_b_108 ?_
  refine zv_bipush (pc := 750) d_X11_init_750 zc_b_97 ?_
  refine zv_bipush (pc := 752) d_X11_init_752 zc_b_119 ?_
  refine zv_bipush (pc := 754) d_X11_init_754 zc_b_115 ?_
  refine zv_iconst (pc := 756) d_X11_init_756 zc_i_0 ?_
  refine zv_iconst (pc := 757) d_X11_init_757 zc_i_0 ?_
  refine zv_callS (pc := 758) (As := [.int 102, .int 108, .int 97, .int 119, .int 115, .int 0, .int 0]) (st := [.int 15, .ref 155]) (d2 := 1) (mc2 := 0) (ms2 := 0) (M2 := M_X11_word) (R2 := fun r T => r = some (.long 3426211) ∧ T = (zw_pJ (zw_pJ (zw_pJ (zw_pJ (zw_pJ (zw_pJ (zw_pJ (zw_pJ (zw_pJ (zw_pJ (zw_pJ (zw_pJ (zw_pJ (zw_pJ (zw_pJ (zw_pR (zw_pR (zw_pR (zw_pR (zw_pR (zw_pR (zw_pR (zw_pR (zw_pR (zw_pR (zw_pR (zw_pR (zw_pR (zw_pR (zw_pR (zw_pR (zw_pR (zw_pR (zw_pR (zw_pR (zw_pR (zw_pR (zw_pR (zw_pR (zw_pR (zw_pR (zw_pR (zw_pR (zw_pR (zw_pR (zw_pR (zw_pR (zw_pR (zw_pR (zw_pR (zw_pR (zw_pR (zw_pR (zw_pR (zw_pR (zw_pR (zw_pR (zw_pR (zw_pR (zw_pI (zw_pR (zw_pR (zw_pR (zw_pR (zw_pR (zw_pR (zw_pR S 148 1 149) 148 3 150) 148 5 151) 148 6 152) 148 7 153) 148 8 154) 148 9 155) 148 17 (-1)) 148 20 156) 148 21 157) 148 22 158) 148 23 159) 148 24 160) 148 25 161) 148 26 162) 148 27 163) 148 28 164) 148 29 165) 148 30 166) 148 31 167) 148 32 168) 148 33 169) 148 34 170) 148 35 171) 148 36 172) 148 38 173) 148 39 174) 148 40 175) 148 41 176) 148 42 177) 148 43 178) 148 45 179) 148 46 180) 148 47 181) 148 49 182) 148 50 183) 148 52 184) 148 53 185) 148 60 186) 148 63 187) 148 64 188) 148 67 189) 148 68 190) 148 69 191) 148 71 192) 148 72 193) 148 73 194) 148 74 195) 148 76 196) 148 77 197) 148 78 198) 148 79 199) 155 0 10506516) 155 1 2774) 155 2 9876689) 155 3 4075223) 155 4 8863997) 155 5 99703) 155 6 249) 155 7 423) 155 8 1111) 155 9 10631) 155 10 38446238) 155 11 239879) 155 12 79958) 155 13 332864552) 155 14 308881823)) d_X11_init_758 (zw_mG (List.mem_of_getElem? (i := 1153) (by decide +kernel)) rfl) ce_X11_word (Nat.le_of_ble_eq_true rfl) rfl (Nat.le_of_ble_eq_true rfl) (by decide) ⟨by decide, by decide⟩ (by decide) (ci_word 102 108 97 119 115 0 0 3426211 (by decide +kernel) ⟨rfl, rfl⟩) ?_
  rintro _ _ ⟨rfl, rfl⟩
  show zw_V X M_X11_init 3 51 15191 148 P (758 + 3) (51 + 0) (15191 + 0) [.ref 148] [.long 3426211, .int 15, .ref 155] (zw_pJ (zw_pJ (zw_pJ (zw_pJ (zw_pJ (zw_pJ (zw_pJ (zw_pJ (zw_pJ (zw_pJ (zw_pJ (zw_pJ (zw_pJ (zw_pJ (zw_pJ (zw_pR (zw_pR (zw_pR (zw_pR (zw_pR (zw_pR (zw_pR (zw_pR (zw_pR (zw_pR (zw_pR (zw_pR (zw_pR (zw_pR (zw_pR (zw_pR (zw_pR (zw_pR (zw_pR (zw_pR (zw_pR (zw_pR (zw_pR (zw_pR (zw_pR (zw_pR (zw_pR (zw_pR (zw_pR (zw_pR (zw_pR (zw_pR (zw_pR (zw_pR (zw_pR (zw_pR (zw_pR (zw_pR (zw_pR (zw_pR (zw_pR (zw_pR (zw_pR (zw_pR (zw_pI (zw_pR (zw_pR (zw_pR (zw_pR (zw_pR (zw_pR (zw_pR S 148 1 149) 148 3 150) 148 5 151) 148 6 152) 148 7 153) 148 8 154) 148 9 155) 148 17 (-1)) 148 20 156) 148 21 157) 148 22 158) 148 23 159) 148 24 160) 148 25 161) 148 26 162) 148 27 163) 148 28 164) 148 29 165) 148 30 166) 148 31 167) 148 32 168) 148 33 169) 148 34 170) 148 35 171) 148 36 172) 148 38 173) 148 39 174) 148 40 175) 148 41 176) 148 42 177) 148 43 178) 148 45 179) 148 46 180) 148 47 181) 148 49 182) 148 50 183) 148 52 184) 148 53 185) 148 60 186) 148 63 187) 148 64 188) 148 67 189) 148 68 190) 148 69 191) 148 71 192) 148 72 193) 148 73 194) 148 74 195) 148 76 196) 148 77 197) 148 78 198) 148 79 199) 155 0 10506516) 155 1 2774) 155 2 9876689) 155 3 4075223) 155 4 8863997) 155 5 99703) 155 6 249) 155 7 423) 155 8 1111) 155 9 10631) 155 10 38446238) 155 11 239879) 155 12 79958) 155 13 332864552) 155 14 308881823)
  refine kx_last (pc := 761) (o := 155) (j := 15) d_X11_init_761 ⟨by decide, by decide⟩ (by decide +kernel) (by decide +kernel) (by decide +kernel) ?_
  have hZ := hZ.pJ (o := 155) (j := 15) (v := 3426211) (by decide)
  refine zv_aload_n (pc := 762) d_X11_init_762 rfl ?_
  refine kx_getR (pc := 763) (o := 148) (v := 155) d_X11_init_763 lk_CutStonesModel_34 (by decide) ⟨by decide, by decide⟩ (by decide +kernel) rfl (by decide) ?_
  refine zv_bipush (pc := 766) d_X11_init_766 zc_b_16 ?_
  refine zv_bipush (pc := 768) d_X11_init_768 zc_b_119 ?_
  refine zv_bipush (pc := 770) d_X11_init_770 zc_b_105 ?_
  refine zv_bipush (pc := 772) d_X11_init_772 zc_b_100 ?_
  refine zv_bipush (pc := 774) d_X11_init_774 zc_b_101 ?_
  refine zv_iconst (pc := 776) d_X11_init_776 zc_i_0 ?_
  refine zv_iconst (pc := 777) d_X11_init_777 zc_i_0 ?_
  refine zv_iconst (pc := 778) d_X11_init_778 zc_i_0 ?_
  refine zv_callS (pc := 779) (As := [.int 119, .int 105, .int 100, .int 101, .int 0, .int 0, .int 0]) (st := [.int 16, .ref 155]) (d2 := 1) (mc2 := 0) (ms2 := 0) (M2 := M_X11_word) (R2 := fun r T => r = some (.long 459383) ∧ T = (zw_pJ (zw_pJ (zw_pJ (zw_pJ (zw_pJ (zw_pJ (zw_pJ (zw_pJ (zw_pJ (zw_pJ (zw_pJ (zw_pJ (zw_pJ (zw_pJ (zw_pJ (zw_pJ (zw_pR (zw_pR (zw_pR (zw_pR (zw_pR (zw_pR (zw_pR (zw_pR (zw_pR (zw_pR (zw_pR (zw_pR (zw_pR (zw_pR (zw_pR (zw_pR (zw_pR (zw_pR (zw_pR (zw_pR (zw_pR (zw_pR (zw_pR (zw_pR (zw_pR (zw_pR (zw_pR (zw_pR (zw_pR (zw_pR (zw_pR (zw_pR (zw_pR (zw_pR (zw_pR (zw_pR (zw_pR (zw_pR (zw_pR (zw_pR (zw_pR (zw_pR (zw_pR (zw_pR (zw_pI (zw_pR (zw_pR (zw_pR (zw_pR (zw_pR (zw_pR (zw_pR S 148 1 149) 148 3 150) 148 5 151) 148 6 152) 148 7 153) 148 8 154) 148 9 155) 148 17 (-1)) 148 20 156) 148 21 157) 148 22 158) 148 23 159) 148 24 160) 148 25 161) 148 26 162) 148 27 163) 148 28 164) 148 29 165) 148 30 166) 148 31 167) 148 32 168) 148 33 169) 148 34 170) 148 35 171) 148 36 172) 148 38 173) 148 39 174) 148 40 175) 148 41 176) 148 42 177) 148 43 178) 148 45 179) 148 46 180) 148 47 181) 148 49 182) 148 50 183) 148 52 184) 148 53 185) 148 60 186) 148 63 187) 148 64 188) 148 67 189) 148 68 190) 148 69 191) 148 71 192) 148 72 193) 148 73 194) 148 74 195) 148 76 196) 148 77 197) 148 78 198) 148 79 199) 155 0 10506516) 155 1 2774) 155 2 9876689) 155 3 4075223) 155 4 8863997) 155 5 99703) 155 6 249) 155 7 423) 155 8 1111) 155 9 10631) 155 10 38446238) 155 11 239879) 155 12 79958) 155 13 332864552) 155 14 308881823) 155 15 3426211)) d_X11_init_779 (zw_mG (List.mem_of_getElem? (i := 1153) (by decide +kernel)) rfl) ce_X11_word (Nat.le_of_ble_eq_true rfl) rfl (Nat.le_of_ble_eq_true rfl) (by decide) ⟨by decide, by decide⟩ (by decide) (ci_word 119 105 100 101 0 0 0 459383 (by decide +kernel) ⟨rfl, rfl⟩) ?_
  rintro _ _ ⟨rfl, rfl⟩
  show zw_V X M_X11_init 3 51 15191 148 P (779 + 3) (51 + 0) (15191 + 0) [.ref 148] [.long 459383, .int 16, .ref 155] (zw_pJ (zw_pJ (zw_pJ (zw_pJ (zw_pJ (zw_pJ (zw_pJ (zw_pJ (zw_pJ (zw_pJ (zw_pJ (zw_pJ (zw_pJ (zw_pJ (zw_pJ (zw_pJ (zw_pR (zw_pR (zw_pR (zw_pR (zw_pR (zw_pR (zw_pR (zw_pR (zw_pR (zw_pR (zw_pR (zw_pR (zw_pR (zw_pR (zw_pR (zw_pR (zw_pR (zw_pR (zw_pR (zw_pR (zw_pR (zw_pR (zw_pR (zw_pR (zw_pR (zw_pR (zw_pR (zw_pR (zw_pR (zw_pR (zw_pR (zw_pR (zw_pR (zw_pR (zw_pR (zw_pR (zw_pR (zw_pR (zw_pR (zw_pR (zw_pR (zw_pR (zw_pR (zw_pR (zw_pI (zw_pR (zw_pR (zw_pR (zw_pR (zw_pR (zw_pR (zw_pR S 148 1 149) 148 3 150) 148 5 151) 148 6 152) 148 7 153) 148 8 154) 148 9 155) 148 17 (-1)) 148 20 156) 148 21 157) 148 22 158) 148 23 159) 148 24 160) 148 25 161) 148 26 162) 148 27 163) 148 28 164) 148 29 165) 148 30 166) 148 31 167) 148 32 168) 148 33 169) 148 34 170) 148 35 171) 148 36 172) 148 38 173) 148 39 174) 148 40 175) 148 41 176) 148 42 177) 148 43 178) 148 45 179) 148 46 180) 148 47 181) 148 49 182) 148 50 183) 148 52 184) 148 53 185) 148 60 186) 148 63 187) 148 64 188) 148 67 189) 148 68 190) 148 69 191) 148 71 192) 148 72 193) 148 73 194) 148 74 195) 148 76 196) 148 77 197) 148 78 198) 148 79 199) 155 0 10506516) 155 1 2774) 155 2 9876689) 155 3 4075223) 155 4 8863997) 155 5 99703) 155 6 249) 155 7 423) 155 8 1111) 155 9 10631) 155 10 38446238) 155 11 239879) 155 12 79958) 155 13 332864552) 155 14 308881823) 155 15 3426211)
  refine kx_last (pc := 782) (o := 155) (j := 16) d_X11_init_782 ⟨by decide, by decide⟩ (by decide +kernel) (by decide +kernel) (by decide +kernel) ?_
  have hZ := hZ.pJ (o := 155) (j := 16) (v := 459383) (by decide)
  refine zv_aload_n (pc := 783) d_X11_init_783 rfl ?_
  refine kx_getR (pc := 784) (o := 148) (v := 155) d_X11_init_784 lk_CutStonesModel_34 (by decide) ⟨by decide, by decide⟩ (by decide +kernel) rfl (by decide) ?_
  refine zv_bipush (pc := 787) d_X11_init_787 zc_b_17 ?_
  refine zv_bipush (pc := 789) d_X11_init_789 zc_b_99 ?_
  refine zv_bipush (pc := 791) d_X11_init_791 zc_b_111 ?_
  refine zv_bipush (pc := 793) d_X11_init_793 zc_b_108 ?_
  refine zv_bipush (pc := 795) d_X11_init_795 zc_b_111 ?_
  refine zv_bipush (pc := 797) d_X11_init_797 zc_b_117 ?_
  refine zv_bipush (pc := 799) d_X11_init_799 zc_b_114 ?_
  refine zv_iconst (pc := 801) d_X11_init_801 zc_i_0 ?_
  refine zv_callS (pc := 802) (As := [.int 99, .int 111, .int 108, .int 111, .int 117, .int 114, .int 0]) (st := [.int 17, .ref 155]) (d2 := 1) (mc2 := 0) (ms2 := 0) (M2 := M_X11_word) (R2 := fun r T => r = some (.long 51266052) ∧ T = (zw_pJ (zw_pJ (zw_pJ (zw_pJ (zw_pJ (zw_pJ (zw_pJ (zw_pJ (zw_pJ (zw_pJ (zw_pJ (zw_pJ (zw_pJ (zw_pJ (zw_pJ (zw_pJ (zw_pJ (zw_pR (zw_pR (zw_pR (zw_pR (zw_pR (zw_pR (zw_pR (zw_pR (zw_pR (zw_pR (zw_pR (zw_pR (zw_pR (zw_pR (zw_pR (zw_pR (zw_pR (zw_pR (zw_pR (zw_pR (zw_pR (zw_pR (zw_pR (zw_pR (zw_pR (zw_pR (zw_pR (zw_pR (zw_pR (zw_pR (zw_pR (zw_pR (zw_pR (zw_pR (zw_pR (zw_pR (zw_pR (zw_pR (zw_pR (zw_pR (zw_pR (zw_pR (zw_pR (zw_pR (zw_pI (zw_pR (zw_pR (zw_pR (zw_pR (zw_pR (zw_pR (zw_pR S 148 1 149) 148 3 150) 148 5 151) 148 6 152) 148 7 153) 148 8 154) 148 9 155) 148 17 (-1)) 148 20 156) 148 21 157) 148 22 158) 148 23 159) 148 24 160) 148 25 161) 148 26 162) 148 27 163) 148 28 164) 148 29 165) 148 30 166) 148 31 167) 148 32 168) 148 33 169) 148 34 170) 148 35 171) 148 36 172) 148 38 173) 148 39 174) 148 40 175) 148 41 176) 148 42 177) 148 43 178) 148 45 179) 148 46 180) 148 47 181) 148 49 182) 148 50 183) 148 52 184) 148 53 185) 148 60 186) 148 63 187) 148 64 188) 148 67 189) 148 68 190) 148 69 191) 148 71 192) 148 72 193) 148 73 194) 148 74 195) 148 76 196) 148 77 197) 148 78 198) 148 79 199) 155 0 10506516) 155 1 2774) 155 2 9876689) 155 3 4075223) 155 4 8863997) 155 5 99703) 155 6 249) 155 7 423) 155 8 1111) 155 9 10631) 155 10 38446238) 155 11 239879) 155 12 79958) 155 13 332864552) 155 14 308881823) 155 15 3426211) 155 16 459383)) d_X11_init_802 (zw_mG (List.mem_of_getElem? (i := 1153) (by decide +kernel)) rfl) ce_X11_word (Nat.le_of_ble_eq_true rfl) rfl (Nat.le_of_ble_eq_true rfl) (by decide) ⟨by decide, by decide⟩ (by decide) (ci_word 99 111 108 111 117 114 0 51266052 (by decide +kernel) ⟨rfl, rfl⟩) ?_
  rintro _ _ ⟨rfl, rfl⟩
  show zw_V X M_X11_init 3 51 15191 148 P (802 + 3) (51 + 0) (15191 + 0) [.ref 148] [.long 51266052, .int 17, .ref 155] (zw_pJ (zw_pJ (zw_pJ (zw_pJ (zw_pJ (zw_pJ (zw_pJ (zw_pJ (zw_pJ (zw_pJ (zw_pJ (zw_pJ (zw_pJ (zw_pJ (zw_pJ (zw_pJ (zw_pJ (zw_pR (zw_pR (zw_pR (zw_pR (zw_pR (zw_pR (zw_pR (zw_pR (zw_pR (zw_pR (zw_pR (zw_pR (zw_pR (zw_pR (zw_pR (zw_pR (zw_pR (zw_pR (zw_pR (zw_pR (zw_pR (zw_pR (zw_pR (zw_pR (zw_pR (zw_pR (zw_pR (zw_pR (zw_pR (zw_pR (zw_pR (zw_pR (zw_pR (zw_pR (zw_pR (zw_pR (zw_pR (zw_pR (zw_pR (zw_pR (zw_pR (zw_pR (zw_pR (zw_pR (zw_pI (zw_pR (zw_pR (zw_pR (zw_pR (zw_pR (zw_pR (zw_pR S 148 1 149) 148 3 150) 148 5 151) 148 6 152) 148 7 153) 148 8 154) 148 9 155) 148 17 (-1)) 148 20 156) 148 21 157) 148 22 158) 148 23 159) 148 24 160) 148 25 161) 148 26 162) 148 27 163) 148 28 164) 148 29 165) 148 30 166) 148 31 167) 148 32 168) 148 33 169) 148 34 170) 148 35 171) 148 36 172) 148 38 173) 148 39 174) 148 40 175) 148 41 176) 148 42 177) 148 43 178) 148 45 179) 148 46 180) 148 47 181) 148 49 182) 148 50 183) 148 52 184) 148 53 185) 148 60 186) 148 63 187) 148 64 188) 148 67 189) 148 68 190) 148 69 191) 148 71 192) 148 72 193) 148 73 194) 148 74 195) 148 76 196) 148 77 197) 148 78 198) 148 79 199) 155 0 10506516) 155 1 2774) 155 2 9876689) 155 3 4075223) 155 4 8863997) 155 5 99703) 155 6 249) 155 7 423) 155 8 1111) 155 9 10631) 155 10 38446238) 155 11 239879) 155 12 79958) 155 13 332864552) 155 14 308881823) 155 15 3426211) 155 16 459383)
  refine kx_last (pc := 805) (o := 155) (j := 17) d_X11_init_805 ⟨by decide, by decide⟩ (by decide +kernel) (by decide +kernel) (by decide +kernel) ?_
  have hZ := hZ.pJ (o := 155) (j := 17) (v := 51266052) (by decide)
  exact zv_vret (pc := 806) d_X11_init_806 rfl rfl (Nat.le_refl _) hP
