abbrev M_X2_init : zw_M := (⟨"CutStones$Light", "<init>", "()V"⟩, prog_4_method_1_code, 1, (Option.none : Option Jvm.ClassFile.FieldType))
theorem d_X2_init_0 : decode M_X2_init.2.1 0 = .ok (.aload_n 0, 1) := by decide +kernel
theorem d_X2_init_1 : decode M_X2_init.2.1 1 = .ok (.invokespecial 3, 3) := by decide +kernel
theorem d_X2_init_4 : decode M_X2_init.2.1 4 = .ok (.aload_n 0, 1) := by decide +kernel
theorem d_X2_init_5 : decode M_X2_init.2.1 5 = .ok (.sipush 300, 3) := by decide +kernel
theorem d_X2_init_8 : decode M_X2_init.2.1 8 = .ok (.newarray .int, 2) := by decide +kernel
theorem d_X2_init_10 : decode M_X2_init.2.1 10 = .ok (.putfield 9, 3) := by decide +kernel
theorem d_X2_init_13 : decode M_X2_init.2.1 13 = .ok (.aload_n 0, 1) := by decide +kernel
theorem d_X2_init_14 : decode M_X2_init.2.1 14 = .ok (.iconst 0, 1) := by decide +kernel
theorem d_X2_init_15 : decode M_X2_init.2.1 15 = .ok (.putfield 15, 3) := by decide +kernel
theorem d_X2_init_18 : decode M_X2_init.2.1 18 = .ok (.aload_n 0, 1) := by decide +kernel
theorem d_X2_init_19 : decode M_X2_init.2.1 19 = .ok (.bipush 7, 2) := by decide +kernel
theorem d_X2_init_21 : decode M_X2_init.2.1 21 = .ok (.newarray .int, 2) := by decide +kernel
theorem d_X2_init_23 : decode M_X2_init.2.1 23 = .ok (.putfield 19, 3) := by decide +kernel
theorem d_X2_init_26 : decode M_X2_init.2.1 26 = .ok (.aload_n 0, 1) := by decide +kernel
theorem d_X2_init_27 : decode M_X2_init.2.1 27 = .ok (.bipush 12, 2) := by decide +kernel
theorem d_X2_init_29 : decode M_X2_init.2.1 29 = .ok (.newarray .int, 2) := by decide +kernel
theorem d_X2_init_31 : decode M_X2_init.2.1 31 = .ok (.putfield 22, 3) := by decide +kernel
theorem d_X2_init_34 : decode M_X2_init.2.1 34 = .ok (.aload_n 0, 1) := by decide +kernel
theorem d_X2_init_35 : decode M_X2_init.2.1 35 = .ok (.iconst 0, 1) := by decide +kernel
theorem d_X2_init_36 : decode M_X2_init.2.1 36 = .ok (.putfield 25, 3) := by decide +kernel
theorem d_X2_init_39 : decode M_X2_init.2.1 39 = .ok (.aload_n 0, 1) := by decide +kernel
theorem d_X2_init_40 : decode M_X2_init.2.1 40 = .ok (.iconst 0, 1) := by decide +kernel
theorem d_X2_init_41 : decode M_X2_init.2.1 41 = .ok (.putfield 28, 3) := by decide +kernel
theorem d_X2_init_44 : decode M_X2_init.2.1 44 = .ok (.aload_n 0, 1) := by decide +kernel
theorem d_X2_init_45 : decode M_X2_init.2.1 45 = .ok (.iconst 0, 1) := by decide +kernel
theorem d_X2_init_46 : decode M_X2_init.2.1 46 = .ok (.putfield 31, 3) := by decide +kernel
theorem d_X2_init_49 : decode M_X2_init.2.1 49 = .ok (.aload_n 0, 1) := by decide +kernel
theorem d_X2_init_50 : decode M_X2_init.2.1 50 = .ok (.iconst 0, 1) := by decide +kernel
theorem d_X2_init_51 : decode M_X2_init.2.1 51 = .ok (.putfield 34, 3) := by decide +kernel
theorem d_X2_init_54 : decode M_X2_init.2.1 54 = .ok (.aload_n 0, 1) := by decide +kernel
theorem d_X2_init_55 : decode M_X2_init.2.1 55 = .ok (.iconst 0, 1) := by decide +kernel
theorem d_X2_init_56 : decode M_X2_init.2.1 56 = .ok (.putfield 37, 3) := by decide +kernel
theorem d_X2_init_59 : decode M_X2_init.2.1 59 = .ok (.aload_n 0, 1) := by decide +kernel
theorem d_X2_init_60 : decode M_X2_init.2.1 60 = .ok (.iconst 0, 1) := by decide +kernel
theorem d_X2_init_61 : decode M_X2_init.2.1 61 = .ok (.putfield 40, 3) := by decide +kernel
theorem d_X2_init_64 : decode M_X2_init.2.1 64 = .ok (.aload_n 0, 1) := by decide +kernel
theorem d_X2_init_65 : decode M_X2_init.2.1 65 = .ok (.iconst 0, 1) := by decide +kernel
theorem d_X2_init_66 : decode M_X2_init.2.1 66 = .ok (.putfield 43, 3) := by decide +kernel
theorem d_X2_init_69 : decode M_X2_init.2.1 69 = .ok (.aload_n 0, 1) := by decide +kernel
theorem d_X2_init_70 : decode M_X2_init.2.1 70 = .ok (.iconst 0, 1) := by decide +kernel
theorem d_X2_init_71 : decode M_X2_init.2.1 71 = .ok (.putfield 46, 3) := by decide +kernel
theorem d_X2_init_74 : decode M_X2_init.2.1 74 = .ok (.return_, 1) := by decide +kernel
theorem ce_X2_init : zw_CeI M_X2_init 0 := ⟨⟨⟨by decide +kernel, by decide +kernel, by decide +kernel⟩, (zw_mG (List.mem_of_getElem? (i := 344) (by decide +kernel)) rfl), (zw_mG (List.mem_of_getElem? (i := 103) (by decide +kernel)) rfl), by decide, by decide +kernel⟩, (zw_mG (List.mem_of_getElem? (i := 343) (by decide +kernel)) rfl), rfl, rfl⟩
def kS_X2_init_122 (S : aS) : aS := (zw_pI (zw_pI (zw_pI (zw_pI (zw_pI (zw_pI (zw_pI (zw_pI (zw_pR (zw_pR (zw_pI (zw_pR S 122 0 123) 122 1 0) 122 2 124) 122 3 125) 122 4 0) 122 5 0) 122 6 0) 122 7 0) 122 8 0) 122 9 0) 122 10 0) 122 11 0)
theorem kZ_X2_init_122 {S : aS} (hZ : zw_Z 122 S) : zw_Z 125 (kS_X2_init_122 S) := by
  unfold kS_X2_init_122
  have hZ := hZ.up
  have hZ := hZ.pR (o := 122) (j := 0) (v := 123) (by decide)
  have hZ := hZ.pI (o := 122) (j := 1) (v := 0) (by decide)
  have hZ := hZ.up
  have hZ := hZ.pR (o := 122) (j := 2) (v := 124) (by decide)
  have hZ := hZ.up
  have hZ := hZ.pR (o := 122) (j := 3) (v := 125) (by decide)
  have hZ := hZ.pI (o := 122) (j := 4) (v := 0) (by decide)
  have hZ := hZ.pI (o := 122) (j := 5) (v := 0) (by decide)
  have hZ := hZ.pI (o := 122) (j := 6) (v := 0) (by decide)
  have hZ := hZ.pI (o := 122) (j := 7) (v := 0) (by decide)
  have hZ := hZ.pI (o := 122) (j := 8) (v := 0) (by decide)
  have hZ := hZ.pI (o := 122) (j := 9) (v := 0) (by decide)
  have hZ := hZ.pI (o := 122) (j := 10) (v := 0) (by decide)
  have hZ := hZ.pI (o := 122) (j := 11) (v := 0) (by decide)
  exact hZ
theorem k_X2_init_122 {X : zw_X} {P : Option Value → aS → Prop} {S : aS} (hZ : zw_Z 122 S) (hP : P none (kS_X2_init_122 S)) : zw_C X M_X2_init 1 3 319 122 [.ref 122] S P := by
  show zw_V X M_X2_init 1 3 319 122 P 0 0 0 [.ref 122] [] S
  refine zv_aload_n (pc := 0) d_X2_init_0 rfl ?_
  refine zv_obj (pc := 1) d_X2_init_1 (zw_mG (List.mem_of_getElem? (i := 345) (by decide +kernel)) rfl) (by decide) (Nat.le_of_ble_eq_true rfl) ?_
  refine zv_aload_n (pc := 4) d_X2_init_4 rfl ?_
  refine zv_sipush (pc := 5) d_X2_init_5 zc_s_300 ?_
  refine kx_newa (pc := 8) (N := 300) d_X2_init_8 (by decide) (by decide +kernel) (by decide +kernel) (by decide) (by decide) rfl hZ ⟨by decide, by decide⟩ (by decide) ?_
  have hZ := hZ.up
  refine kx_putR (pc := 10) (o := 122) (v := 123) d_X2_init_10 lk_CutStones_Light_9 (Or.inr ⟨rfl, rfl, rfl⟩) (by decide) ⟨by decide, by decide⟩ (by decide +kernel) (by decide) ?_
  have hZ := hZ.pR (o := 122) (j := 0) (v := 123) (by decide)
  refine zv_aload_n (pc := 13) d_X2_init_13 rfl ?_
  refine zv_iconst (pc := 14) d_X2_init_14 zc_i_0 ?_
  refine kx_putI (pc := 15) (o := 122) (v := 0) d_X2_init_15 lk_CutStones_Light_15 (Or.inl rfl) ⟨by decide, by decide⟩ (by decide +kernel) ?_
  have hZ := hZ.pI (o := 122) (j := 1) (v := 0) (by decide)
  refine zv_aload_n (pc := 18) d_X2_init_18 rfl ?_
  refine zv_bipush (pc := 19) d_X2_init_19 zc_b_7 ?_
  refine kx_newa (pc := 21) (N := 7) d_X2_init_21 (by decide) (by decide +kernel) (by decide +kernel) (by decide) (by decide) rfl hZ ⟨by decide, by decide⟩ (by decide) ?_
  have hZ := hZ.up
  refine kx_putR (pc := 23) (o := 122) (v := 124) d_X2_init_23 lk_CutStones_Light_19 (Or.inr ⟨rfl, rfl, rfl⟩) (by decide) ⟨by decide, by decide⟩ (by decide +kernel) (by decide) ?_
  have hZ := hZ.pR (o := 122) (j := 2) (v := 124) (by decide)
  refine zv_aload_n (pc := 26) d_X2_init_26 rfl ?_
  refine zv_bipush (pc := 27) d_X2_init_27 zc_b_12 ?_
  refine kx_newa (pc := 29) (N := 12) d_X2_init_29 (by decide) (by decide +kernel) (by decide +kernel) (by decide) (by decide) rfl hZ ⟨by decide, by decide⟩ (by decide) ?_
  have hZ := hZ.up
  refine kx_putR (pc := 31) (o := 122) (v := 125) d_X2_init_31 lk_CutStones_Light_22 (Or.inr ⟨rfl, rfl, rfl⟩) (by decide) ⟨by decide, by decide⟩ (by decide +kernel) (by decide) ?_
  have hZ := hZ.pR (o := 122) (j := 3) (v := 125) (by decide)
  refine zv_aload_n (pc := 34) d_X2_init_34 rfl ?_
  refine zv_iconst (pc := 35) d_X2_init_35 zc_i_0 ?_
  refine kx_putI (pc := 36) (o := 122) (v := 0) d_X2_init_36 lk_CutStones_Light_25 (Or.inl rfl) ⟨by decide, by decide⟩ (by decide +kernel) ?_
  have hZ := hZ.pI (o := 122) (j := 4) (v := 0) (by decide)
  refine zv_aload_n (pc := 39) d_X2_init_39 rfl ?_
  refine zv_iconst (pc := 40) d_X2_init_40 zc_i_0 ?_
  refine kx_putI (pc := 41) (o := 122) (v := 0) d_X2_init_41 lk_CutStones_Light_28 (Or.inl rfl) ⟨by decide, by decide⟩ (by decide +kernel) ?_
  have hZ := hZ.pI (o := 122) (j := 5) (v := 0) (by decide)
  refine zv_aload_n (pc := 44) d_X2_init_44 rfl ?_
  refine zv_iconst (pc := 45) d_X2_init_45 zc_i_0 ?_
  refine kx_putI (pc := 46) (o := 122) (v := 0) d_X2_init_46 lk_CutStones_Light_31 (Or.inl rfl) ⟨by decide, by decide⟩ (by decide +kernel) ?_
  have hZ := hZ.pI (o := 122) (j := 6) (v := 0) (by decide)
  refine zv_aload_n (pc := 49) d_X2_init_49 rfl ?_
  refine zv_iconst (pc := 50) d_X2_init_50 zc_i_0 ?_
  refine kx_putI (pc := 51) (o := 122) (v := 0) d_X2_init_51 lk_CutStones_Light_34 (Or.inl rfl) ⟨by decide, by decide⟩ (by decide +kernel) ?_
  have hZ := hZ.pI (o := 122) (j := 7) (v := 0) (by decide)
  refine zv_aload_n (pc := 54) d_X2_init_54 rfl ?_
  refine zv_iconst (pc := 55) d_X2_init_55 zc_i_0 ?_
  refine kx_putI (pc := 56) (o := 122) (v := 0) d_X2_init_56 lk_CutStones_Light_37 (Or.inl rfl) ⟨by decide, by decide⟩ (by decide +kernel) ?_
  have hZ := hZ.pI (o := 122) (j := 8) (v := 0) (by decide)
  refine zv_aload_n (pc := 59) d_X2_init_59 rfl ?_
  refine zv_iconst (pc := 60) d_X2_init_60 zc_i_0 ?_
  refine kx_putI (pc := 61) (o := 122) (v := 0) d_X2_init_61 lk_CutStones_Light_40 (Or.inl rfl) ⟨by decide, by decide⟩ (by decide +kernel) ?_
  have hZ := hZ.pI (o := 122) (j := 9) (v := 0) (by decide)
  refine zv_aload_n (pc := 64) d_X2_init_64 rfl ?_
  refine zv_iconst (pc := 65) d_X2_init_65 zc_i_0 ?_
  refine kx_putI (pc := 66) (o := 122) (v := 0) d_X2_init_66 lk_CutStones_Light_43 (Or.inl rfl) ⟨by decide, by decide⟩ (by decide +kernel) ?_
  have hZ := hZ.pI (o := 122) (j := 10) (v := 0) (by decide)
  refine zv_aload_n (pc := 69) d_X2_init_69 rfl ?_
  refine zv_iconst (pc := 70) d_X2_init_70 zc_i_0 ?_
  refine kx_putI (pc := 71) (o := 122) (v := 0) d_X2_init_71 lk_CutStones_Light_46 (Or.inl rfl) ⟨by decide, by decide⟩ (by decide +kernel) ?_
  have hZ := hZ.pI (o := 122) (j := 11) (v := 0) (by decide)
  exact zv_vret (pc := 74) d_X2_init_74 rfl rfl (Nat.le_refl _) hP
abbrev M_X6_init : zw_M := (⟨"CutStones$Shine", "<init>", "()V"⟩, prog_8_method_1_code, 1, (Option.none : Option Jvm.ClassFile.FieldType))
theorem d_X6_init_0 : decode M_X6_init.2.1 0 = .ok (.aload_n 0, 1) := by decide +kernel
theorem d_X6_init_1 : decode M_X6_init.2.1 1 = .ok (.invokespecial 3, 3) := by decide +kernel
theorem d_X6_init_4 : decode M_X6_init.2.1 4 = .ok (.aload_n 0, 1) := by decide +kernel
theorem d_X6_init_5 : decode M_X6_init.2.1 5 = .ok (.bipush 9, 2) := by decide +kernel
theorem d_X6_init_7 : decode M_X6_init.2.1 7 = .ok (.newarray .int, 2) := by decide +kernel
theorem d_X6_init_9 : decode M_X6_init.2.1 9 = .ok (.putfield 9, 3) := by decide +kernel
theorem d_X6_init_12 : decode M_X6_init.2.1 12 = .ok (.aload_n 0, 1) := by decide +kernel
theorem d_X6_init_13 : decode M_X6_init.2.1 13 = .ok (.new 15, 3) := by decide +kernel
theorem d_X6_init_16 : decode M_X6_init.2.1 16 = .ok (.dup, 1) := by decide +kernel
theorem d_X6_init_17 : decode M_X6_init.2.1 17 = .ok (.invokespecial 17, 3) := by decide +kernel
theorem d_X6_init_20 : decode M_X6_init.2.1 20 = .ok (.putfield 18, 3) := by decide +kernel
theorem d_X6_init_23 : decode M_X6_init.2.1 23 = .ok (.aload_n 0, 1) := by decide +kernel
theorem d_X6_init_24 : decode M_X6_init.2.1 24 = .ok (.iconst 0, 1) := by decide +kernel
theorem d_X6_init_25 : decode M_X6_init.2.1 25 = .ok (.putfield 22, 3) := by decide +kernel
theorem d_X6_init_28 : decode M_X6_init.2.1 28 = .ok (.aload_n 0, 1) := by decide +kernel
theorem d_X6_init_29 : decode M_X6_init.2.1 29 = .ok (.iconst 0, 1) := by decide +kernel
theorem d_X6_init_30 : decode M_X6_init.2.1 30 = .ok (.putfield 26, 3) := by decide +kernel
theorem d_X6_init_33 : decode M_X6_init.2.1 33 = .ok (.aload_n 0, 1) := by decide +kernel
theorem d_X6_init_34 : decode M_X6_init.2.1 34 = .ok (.iconst 0, 1) := by decide +kernel
theorem d_X6_init_35 : decode M_X6_init.2.1 35 = .ok (.putfield 29, 3) := by decide +kernel
theorem d_X6_init_38 : decode M_X6_init.2.1 38 = .ok (.aload_n 0, 1) := by decide +kernel
theorem d_X6_init_39 : decode M_X6_init.2.1 39 = .ok (.iconst 0, 1) := by decide +kernel
theorem d_X6_init_40 : decode M_X6_init.2.1 40 = .ok (.putfield 32, 3) := by decide +kernel
theorem d_X6_init_43 : decode M_X6_init.2.1 43 = .ok (.aload_n 0, 1) := by decide +kernel
theorem d_X6_init_44 : decode M_X6_init.2.1 44 = .ok (.iconst 0, 1) := by decide +kernel
theorem d_X6_init_45 : decode M_X6_init.2.1 45 = .ok (.putfield 35, 3) := by decide +kernel
theorem d_X6_init_48 : decode M_X6_init.2.1 48 = .ok (.aload_n 0, 1) := by decide +kernel
theorem d_X6_init_49 : decode M_X6_init.2.1 49 = .ok (.iconst 0, 1) := by decide +kernel
theorem d_X6_init_50 : decode M_X6_init.2.1 50 = .ok (.putfield 38, 3) := by decide +kernel
theorem d_X6_init_53 : decode M_X6_init.2.1 53 = .ok (.aload_n 0, 1) := by decide +kernel
theorem d_X6_init_54 : decode M_X6_init.2.1 54 = .ok (.iconst 1, 1) := by decide +kernel
theorem d_X6_init_55 : decode M_X6_init.2.1 55 = .ok (.putfield 41, 3) := by decide +kernel
theorem d_X6_init_58 : decode M_X6_init.2.1 58 = .ok (.aload_n 0, 1) := by decide +kernel
theorem d_X6_init_59 : decode M_X6_init.2.1 59 = .ok (.iconst 0, 1) := by decide +kernel
theorem d_X6_init_60 : decode M_X6_init.2.1 60 = .ok (.putfield 44, 3) := by decide +kernel
theorem d_X6_init_63 : decode M_X6_init.2.1 63 = .ok (.return_, 1) := by decide +kernel
theorem ce_X6_init : zw_CeI M_X6_init 0 := ⟨⟨⟨by decide +kernel, by decide +kernel, by decide +kernel⟩, (zw_mG (List.mem_of_getElem? (i := 394) (by decide +kernel)) rfl), (zw_mG (List.mem_of_getElem? (i := 104) (by decide +kernel)) rfl), by decide, by decide +kernel⟩, (zw_mG (List.mem_of_getElem? (i := 393) (by decide +kernel)) rfl), rfl, rfl⟩
def kS_X2_init_128 (S : aS) : aS := (zw_pI (zw_pI (zw_pI (zw_pI (zw_pI (zw_pI (zw_pI (zw_pI (zw_pR (zw_pR (zw_pI (zw_pR S 128 0 129) 128 1 0) 128 2 130) 128 3 131) 128 4 0) 128 5 0) 128 6 0) 128 7 0) 128 8 0) 128 9 0) 128 10 0) 128 11 0)
theorem kZ_X2_init_128 {S : aS} (hZ : zw_Z 128 S) : zw_Z 131 (kS_X2_init_128 S) := by
  unfold kS_X2_init_128
  have hZ := hZ.up
  have hZ := hZ.pR (o := 128) (j := 0) (v := 129) (by decide)
  have hZ := hZ.pI (o := 128) (j := 1) (v := 0) (by decide)
  have hZ := hZ.up
  have hZ := hZ.pR (o := 128) (j := 2) (v := 130) (by decide)
  have hZ := hZ.up
  have hZ := hZ.pR (o := 128) (j := 3) (v := 131) (by decide)
  have hZ := hZ.pI (o := 128) (j := 4) (v := 0) (by decide)
  have hZ := hZ.pI (o := 128) (j := 5) (v := 0) (by decide)
  have hZ := hZ.pI (o := 128) (j := 6) (v := 0) (by decide)
  have hZ := hZ.pI (o := 128) (j := 7) (v := 0) (by decide)
  have hZ := hZ.pI (o := 128) (j := 8) (v := 0) (by decide)
  have hZ := hZ.pI (o := 128) (j := 9) (v := 0) (by decide)
  have hZ := hZ.pI (o := 128) (j := 10) (v := 0) (by decide)
  have hZ := hZ.pI (o := 128) (j := 11) (v := 0) (by decide)
  exact hZ
theorem k_X2_init_128 {X : zw_X} {P : Option Value → aS → Prop} {S : aS} (hZ : zw_Z 128 S) (hP : P none (kS_X2_init_128 S)) : zw_C X M_X2_init 1 3 319 128 [.ref 128] S P := by
  show zw_V X M_X2_init 1 3 319 128 P 0 0 0 [.ref 128] [] S
  refine zv_aload_n (pc := 0) d_X2_init_0 rfl ?_
  refine zv_obj (pc := 1) d_X2_init_1 (zw_mG (List.mem_of_getElem? (i := 345) (by decide +kernel)) rfl) (by decide) (Nat.le_of_ble_eq_true rfl) ?_
  refine zv_aload_n (pc := 4) d_X2_init_4 rfl ?_
  refine zv_sipush (pc := 5) d_X2_init_5 zc_s_300 ?_
  refine kx_newa (pc := 8) (N := 300) d_X2_init_8 (by decide) (by decide +kernel) (by decide +kernel) (by decide) (by decide) rfl hZ ⟨by decide, by decide⟩ (by decide) ?_
  have hZ := hZ.up
  refine kx_putR (pc := 10) (o := 128) (v := 129) d_X2_init_10 lk_CutStones_Light_9 (Or.inr ⟨rfl, rfl, rfl⟩) (by decide) ⟨by decide, by decide⟩ (by decide +kernel) (by decide) ?_
  have hZ := hZ.pR (o := 128) (j := 0) (v := 129) (by decide)
  refine zv_aload_n (pc := 13) d_X2_init_13 rfl ?_
  refine zv_iconst (pc := 14) d_X2_init_14 zc_i_0 ?_
  refine kx_putI (pc := 15) (o := 128) (v := 0) d_X2_init_15 lk_CutStones_Light_15 (Or.inl rfl) ⟨by decide, by decide⟩ (by decide +kernel) ?_
  have hZ := hZ.pI (o := 128) (j := 1) (v := 0) (by decide)
  refine zv_aload_n (pc := 18) d_X2_init_18 rfl ?_
  refine zv_bipush (pc := 19) d_X2_init_19 zc_b_7 ?_
  refine kx_newa (pc := 21) (N := 7) d_X2_init_21 (by decide) (by decide +kernel) (by decide +kernel) (by decide) (by decide) rfl hZ ⟨by decide, by decide⟩ (by decide) ?_
  have hZ := hZ.up
  refine kx_putR (pc := 23) (o := 128) (v := 130) d_X2_init_23 lk_CutStones_Light_19 (Or.inr ⟨rfl, rfl, rfl⟩) (by decide) ⟨by decide, by decide⟩ (by decide +kernel) (by decide) ?_
  have hZ := hZ.pR (o := 128) (j := 2) (v := 130) (by decide)
  refine zv_aload_n (pc := 26) d_X2_init_26 rfl ?_
  refine zv_bipush (pc := 27) d_X2_init_27 zc_b_12 ?_
  refine kx_newa (pc := 29) (N := 12) d_X2_init_29 (by decide) (by decide +kernel) (by decide +kernel) (by decide) (by decide) rfl hZ ⟨by decide, by decide⟩ (by decide) ?_
  have hZ := hZ.up
  refine kx_putR (pc := 31) (o := 128) (v := 131) d_X2_init_31 lk_CutStones_Light_22 (Or.inr ⟨rfl, rfl, rfl⟩) (by decide) ⟨by decide, by decide⟩ (by decide +kernel) (by decide) ?_
  have hZ := hZ.pR (o := 128) (j := 3) (v := 131) (by decide)
  refine zv_aload_n (pc := 34) d_X2_init_34 rfl ?_
  refine zv_iconst (pc := 35) d_X2_init_35 zc_i_0 ?_
  refine kx_putI (pc := 36) (o := 128) (v := 0) d_X2_init_36 lk_CutStones_Light_25 (Or.inl rfl) ⟨by decide, by decide⟩ (by decide +kernel) ?_
  have hZ := hZ.pI (o := 128) (j := 4) (v := 0) (by decide)
  refine zv_aload_n (pc := 39) d_X2_init_39 rfl ?_
  refine zv_iconst (pc := 40) d_X2_init_40 zc_i_0 ?_
  refine kx_putI (pc := 41) (o := 128) (v := 0) d_X2_init_41 lk_CutStones_Light_28 (Or.inl rfl) ⟨by decide, by decide⟩ (by decide +kernel) ?_
  have hZ := hZ.pI (o := 128) (j := 5) (v := 0) (by decide)
  refine zv_aload_n (pc := 44) d_X2_init_44 rfl ?_
  refine zv_iconst (pc := 45) d_X2_init_45 zc_i_0 ?_
  refine kx_putI (pc := 46) (o := 128) (v := 0) d_X2_init_46 lk_CutStones_Light_31 (Or.inl rfl) ⟨by decide, by decide⟩ (by decide +kernel) ?_
  have hZ := hZ.pI (o := 128) (j := 6) (v := 0) (by decide)
  refine zv_aload_n (pc := 49) d_X2_init_49 rfl ?_
  refine zv_iconst (pc := 50) d_X2_init_50 zc_i_0 ?_
  refine kx_putI (pc := 51) (o := 128) (v := 0) d_X2_init_51 lk_CutStones_Light_34 (Or.inl rfl) ⟨by decide, by decide⟩ (by decide +kernel) ?_
  have hZ := hZ.pI (o := 128) (j := 7) (v := 0) (by decide)
  refine zv_aload_n (pc := 54) d_X2_init_54 rfl ?_
  refine zv_iconst (pc := 55) d_X2_init_55 zc_i_0 ?_
  refine kx_putI (pc := 56) (o := 128) (v := 0) d_X2_init_56 lk_CutStones_Light_37 (Or.inl rfl) ⟨by decide, by decide⟩ (by decide +kernel) ?_
  have hZ := hZ.pI (o := 128) (j := 8) (v := 0) (by decide)
  refine zv_aload_n (pc := 59) d_X2_init_59 rfl ?_
  refine zv_iconst (pc := 60) d_X2_init_60 zc_i_0 ?_
  refine kx_putI (pc := 61) (o := 128) (v := 0) d_X2_init_61 lk_CutStones_Light_40 (Or.inl rfl) ⟨by decide, by decide⟩ (by decide +kernel) ?_
  have hZ := hZ.pI (o := 128) (j := 9) (v := 0) (by decide)
  refine zv_aload_n (pc := 64) d_X2_init_64 rfl ?_
  refine zv_iconst (pc := 65) d_X2_init_65 zc_i_0 ?_
  refine kx_putI (pc := 66) (o := 128) (v := 0) d_X2_init_66 lk_CutStones_Light_43 (Or.inl rfl) ⟨by decide, by decide⟩ (by decide +kernel) ?_
  have hZ := hZ.pI (o := 128) (j := 10) (v := 0) (by decide)
  refine zv_aload_n (pc := 69) d_X2_init_69 rfl ?_
  refine zv_iconst (pc := 70) d_X2_init_70 zc_i_0 ?_
  refine kx_putI (pc := 71) (o := 128) (v := 0) d_X2_init_71 lk_CutStones_Light_46 (Or.inl rfl) ⟨by decide, by decide⟩ (by decide +kernel) ?_
  have hZ := hZ.pI (o := 128) (j := 11) (v := 0) (by decide)
  exact zv_vret (pc := 74) d_X2_init_74 rfl rfl (Nat.le_refl _) hP
def kS_X6_init_126 (S : aS) : aS := (zw_pI (zw_pI (zw_pI (zw_pI (zw_pI (zw_pI (zw_pI (zw_pI (zw_pR (kS_X2_init_128 (zw_pR S 126 0 127)) 126 1 128) 126 2 0) 126 3 0) 126 4 0) 126 5 0) 126 6 0) 126 7 0) 126 8 1) 126 9 0)
theorem kZ_X6_init_126 {S : aS} (hZ : zw_Z 126 S) : zw_Z 131 (kS_X6_init_126 S) := by
  unfold kS_X6_init_126
  have hZ := hZ.up
  have hZ := hZ.pR (o := 126) (j := 0) (v := 127) (by decide)
  have hZ := hZ.up
  have hZ := kZ_X2_init_128 hZ
  have hZ := hZ.pR (o := 126) (j := 1) (v := 128) (by decide)
  have hZ := hZ.pI (o := 126) (j := 2) (v := 0) (by decide)
  have hZ := hZ.pI (o := 126) (j := 3) (v := 0) (by decide)
  have hZ := hZ.pI (o := 126) (j := 4) (v := 0) (by decide)
  have hZ := hZ.pI (o := 126) (j := 5) (v := 0) (by decide)
  have hZ := hZ.pI (o := 126) (j := 6) (v := 0) (by decide)
  have hZ := hZ.pI (o := 126) (j := 7) (v := 0) (by decide)
  have hZ := hZ.pI (o := 126) (j := 8) (v := 1) (by decide)
  have hZ := hZ.pI (o := 126) (j := 9) (v := 0) (by decide)
  exact hZ
theorem k_X6_init_126 {X : zw_X} {P : Option Value → aS → Prop} {S : aS} (hZ : zw_Z 126 S) (hP : P none (kS_X6_init_126 S)) : zw_C X M_X6_init 2 5 340 126 [.ref 126] S P := by
  show zw_V X M_X6_init 2 5 340 126 P 0 0 0 [.ref 126] [] S
  refine zv_aload_n (pc := 0) d_X6_init_0 rfl ?_
  refine zv_obj (pc := 1) d_X6_init_1 (zw_mG (List.mem_of_getElem? (i := 395) (by decide +kernel)) rfl) (by decide) (Nat.le_of_ble_eq_true rfl) ?_
  refine zv_aload_n (pc := 4) d_X6_init_4 rfl ?_
  refine zv_bipush (pc := 5) d_X6_init_5 zc_b_9 ?_
  refine kx_newa (pc := 7) (N := 9) d_X6_init_7 (by decide) (by decide +kernel) (by decide +kernel) (by decide) (by decide) rfl hZ ⟨by decide, by decide⟩ (by decide) ?_
  have hZ := hZ.up
  refine kx_putR (pc := 9) (o := 126) (v := 127) d_X6_init_9 lk_CutStones_Shine_9 (Or.inr ⟨rfl, rfl, rfl⟩) (by decide) ⟨by decide, by decide⟩ (by decide +kernel) (by decide) ?_
  have hZ := hZ.pR (o := 126) (j := 0) (v := 127) (by decide)
  refine zv_aload_n (pc := 12) d_X6_init_12 rfl ?_
  refine kx_new (pc := 13) (c := 2) d_X6_init_13 rfl ⟨(zw_mG (List.mem_of_getElem? (i := 396) (by decide +kernel)) rfl), (zw_mG (List.mem_of_getElem? (i := 341) (by decide +kernel)) rfl), (zw_mG (List.mem_of_getElem? (i := 103) (by decide +kernel)) rfl)⟩ (by decide) rfl hZ ⟨by decide, by decide⟩ (by decide) (by decide +kernel) ?_
  have hZ := hZ.up
  refine zv_dup (pc := 16) d_X6_init_16 rfl ?_
  refine zv_callIN (pc := 17) (As := []) (o := 128) (st := [.ref 128, .ref 126]) (d2 := 1) (mc2 := 3) (ms2 := 319) (M2 := M_X2_init) (R2 := fun r T => r = none ∧ T = kS_X2_init_128 (zw_pR S 126 0 127)) d_X6_init_17 (by decide +kernel) ce_X2_init (Nat.le_of_ble_eq_true rfl) rfl (Nat.le_of_ble_eq_true rfl) (by decide) ⟨by decide, by decide⟩ (by decide) (k_X2_init_128 hZ ⟨rfl, rfl⟩) ?_
  rintro _ _ ⟨rfl, rfl⟩
  have hZ := kZ_X2_init_128 hZ
  show zw_V X M_X6_init 2 5 340 126 P (17 + 3) 5 340 [.ref 126] [.ref 128, .ref 126] (kS_X2_init_128 (zw_pR S 126 0 127))
  refine kx_putR (pc := 20) (o := 126) (v := 128) d_X6_init_20 lk_CutStones_Shine_18 (Or.inr ⟨rfl, rfl, rfl⟩) (by decide) ⟨by decide, by decide⟩ (by decide +kernel) (by decide) ?_
  have hZ := hZ.pR (o := 126) (j := 1) (v := 128) (by decide)
  refine zv_aload_n (pc := 23) d_X6_init_23 rfl ?_
  refine zv_iconst (pc := 24) d_X6_init_24 zc_i_0 ?_
  refine kx_putI (pc := 25) (o := 126) (v := 0) d_X6_init_25 lk_CutStones_Shine_22 (Or.inl rfl) ⟨by decide, by decide⟩ (by decide +kernel) ?_
  have hZ := hZ.pI (o := 126) (j := 2) (v := 0) (by decide)
  refine zv_aload_n (pc := 28) d_X6_init_28 rfl ?_
  refine zv_iconst (pc := 29) d_X6_init_29 zc_i_0 ?_
  refine kx_putI (pc := 30) (o := 126) (v := 0) d_X6_init_30 lk_CutStones_Shine_26 (Or.inl rfl) ⟨by decide, by decide⟩ (by decide +kernel) ?_
  have hZ := hZ.pI (o := 126) (j := 3) (v := 0) (by decide)
  refine zv_aload_n (pc := 33) d_X6_init_33 rfl ?_
  refine zv_iconst (pc := 34) d_X6_init_34 zc_i_0 ?_
  refine kx_putI (pc := 35) (o := 126) (v := 0) d_X6_init_35 lk_CutStones_Shine_29 (Or.inl rfl) ⟨by decide, by decide⟩ (by decide +kernel) ?_
  have hZ := hZ.pI (o := 126) (j := 4) (v := 0) (by decide)
  refine zv_aload_n (pc := 38) d_X6_init_38 rfl ?_
  refine zv_iconst (pc := 39) d_X6_init_39 zc_i_0 ?_
  refine kx_putI (pc := 40) (o := 126) (v := 0) d_X6_init_40 lk_CutStones_Shine_32 (Or.inl rfl) ⟨by decide, by decide⟩ (by decide +kernel) ?_
  have hZ := hZ.pI (o := 126) (j := 5) (v := 0) (by decide)
  refine zv_aload_n (pc := 43) d_X6_init_43 rfl ?_
  refine zv_iconst (pc := 44) d_X6_init_44 zc_i_0 ?_
  refine kx_putI (pc := 45) (o := 126) (v := 0) d_X6_init_45 lk_CutStones_Shine_35 (Or.inl rfl) ⟨by decide, by decide⟩ (by decide +kernel) ?_
  have hZ := hZ.pI (o := 126) (j := 6) (v := 0) (by decide)
  refine zv_aload_n (pc := 48) d_X6_init_48 rfl ?_
  refine zv_iconst (pc := 49) d_X6_init_49 zc_i_0 ?_
  refine kx_putI (pc := 50) (o := 126) (v := 0) d_X6_init_50 lk_CutStones_Shine_38 (Or.inl rfl) ⟨by decide, by decide⟩ (by decide +kernel) ?_
  have hZ := hZ.pI (o := 126) (j := 7) (v := 0) (by decide)
  refine zv_aload_n (pc := 53) d_X6_init_53 rfl ?_
  refine zv_iconst (pc := 54) d_X6_init_54 zc_i_1 ?_
  refine kx_putI (pc := 55) (o := 126) (v := 1) d_X6_init_55 lk_CutStones_Shine_41 (Or.inl rfl) ⟨by decide, by decide⟩ (by decide +kernel) ?_
  have hZ := hZ.pI (o := 126) (j := 8) (v := 1) (by decide)
  refine zv_aload_n (pc := 58) d_X6_init_58 rfl ?_
  refine zv_iconst (pc := 59) d_X6_init_59 zc_i_0 ?_
  refine kx_putI (pc := 60) (o := 126) (v := 0) d_X6_init_60 lk_CutStones_Shine_44 (Or.inl rfl) ⟨by decide, by decide⟩ (by decide +kernel) ?_
  have hZ := hZ.pI (o := 126) (j := 9) (v := 0) (by decide)
  exact zv_vret (pc := 63) d_X6_init_63 rfl rfl (Nat.le_refl _) hP
def kS_X2_init_134 (S : aS) : aS := (zw_pI (zw_pI (zw_pI (zw_pI (zw_pI (zw_pI (zw_pI (zw_pI (zw_pR (zw_pR (zw_pI (zw_pR S 134 0 135) 134 1 0) 134 2 136) 134 3 137) 134 4 0) 134 5 0) 134 6 0) 134 7 0) 134 8 0) 134 9 0) 134 10 0) 134 11 0)
theorem kZ_X2_init_134 {S : aS} (hZ : zw_Z 134 S) : zw_Z 137 (kS_X2_init_134 S) := by
  unfold kS_X2_init_134
  have hZ := hZ.up
  have hZ := hZ.pR (o := 134) (j := 0) (v := 135) (by decide)
  have hZ := hZ.pI (o := 134) (j := 1) (v := 0) (by decide)
  have hZ := hZ.up
  have hZ := hZ.pR (o := 134) (j := 2) (v := 136) (by decide)
  have hZ := hZ.up
  have hZ := hZ.pR (o := 134) (j := 3) (v := 137) (by decide)
  have hZ := hZ.pI (o := 134) (j := 4) (v := 0) (by decide)
  have hZ := hZ.pI (o := 134) (j := 5) (v := 0) (by decide)
  have hZ := hZ.pI (o := 134) (j := 6) (v := 0) (by decide)
  have hZ := hZ.pI (o := 134) (j := 7) (v := 0) (by decide)
  have hZ := hZ.pI (o := 134) (j := 8) (v := 0) (by decide)
  have hZ := hZ.pI (o := 134) (j := 9) (v := 0) (by decide)
  have hZ := hZ.pI (o := 134) (j := 10) (v := 0) (by decide)
  have hZ := hZ.pI (o := 134) (j := 11) (v := 0) (by decide)
  exact hZ
theorem k_X2_init_134 {X : zw_X} {P : Option Value → aS → Prop} {S : aS} (hZ : zw_Z 134 S) (hP : P none (kS_X2_init_134 S)) : zw_C X M_X2_init 1 3 319 134 [.ref 134] S P := by
  show zw_V X M_X2_init 1 3 319 134 P 0 0 0 [.ref 134] [] S
  refine zv_aload_n (pc := 0) d_X2_init_0 rfl ?_
  refine zv_obj (pc := 1) d_X2_init_1 (zw_mG (List.mem_of_getElem? (i := 345) (by decide +kernel)) rfl) (by decide) (Nat.le_of_ble_eq_true rfl) ?_
  refine zv_aload_n (pc := 4) d_X2_init_4 rfl ?_
  refine zv_sipush (pc := 5) d_X2_init_5 zc_s_300 ?_
  refine kx_newa (pc := 8) (N := 300) d_X2_init_8 (by decide) (by decide +kernel) (by decide +kernel) (by decide) (by decide) rfl hZ ⟨by decide, by decide⟩ (by decide) ?_
  have hZ := hZ.up
  refine kx_putR (pc := 10) (o := 134) (v := 135) d_X2_init_10 lk_CutStones_Light_9 (Or.inr ⟨rfl, rfl, rfl⟩) (by decide) ⟨by decide, by decide⟩ (by decide +kernel) (by decide) ?_
  have hZ := hZ.pR (o := 134) (j := 0) (v := 135) (by decide)
  refine zv_aload_n (pc := 13) d_X2_init_13 rfl ?_
  refine zv_iconst (pc := 14) d_X2_init_14 zc_i_0 ?_
  refine kx_putI (pc := 15) (o := 134) (v := 0) d_X2_init_15 lk_CutStones_Light_15 (Or.inl rfl) ⟨by decide, by decide⟩ (by decide +kernel) ?_
  have hZ := hZ.pI (o := 134) (j := 1) (v := 0) (by decide)
  refine zv_aload_n (pc := 18) d_X2_init_18 rfl ?_
  refine zv_bipush (pc := 19) d_X2_init_19 zc_b_7 ?_
  refine kx_newa (pc := 21) (N := 7) d_X2_init_21 (by decide) (by decide +kernel) (by decide +kernel) (by decide) (by decide) rfl hZ ⟨by decide, by decide⟩ (by decide) ?_
  have hZ := hZ.up
  refine kx_putR (pc := 23) (o := 134) (v := 136) d_X2_init_23 lk_CutStones_Light_19 (Or.inr ⟨rfl, rfl, rfl⟩) (by decide) ⟨by decide, by decide⟩ (by decide +kernel) (by decide) ?_
  have hZ := hZ.pR (o := 134) (j := 2) (v := 136) (by decide)
  refine zv_aload_n (pc := 26) d_X2_init_26 rfl ?_
  refine zv_bipush (pc := 27) d_X2_init_27 zc_b_12 ?_
  refine kx_newa (pc := 29) (N := 12) d_X2_init_29 (by decide) (by decide +kernel) (by decide +kernel) (by decide) (by decide) rfl hZ ⟨by decide, by decide⟩ (by decide) ?_
  have hZ := hZ.up
  refine kx_putR (pc := 31) (o := 134) (v := 137) d_X2_init_31 lk_CutStones_Light_22 (Or.inr ⟨rfl, rfl, rfl⟩) (by decide) ⟨by decide, by decide⟩ (by decide +kernel) (by decide) ?_
  have hZ := hZ.pR (o := 134) (j := 3) (v := 137) (by decide)
  refine zv_aload_n (pc := 34) d_X2_init_34 rfl ?_
  refine zv_iconst (pc := 35) d_X2_init_35 zc_i_0 ?_
  refine kx_putI (pc := 36) (o := 134) (v := 0) d_X2_init_36 lk_CutStones_Light_25 (Or.inl rfl) ⟨by decide, by decide⟩ (by decide +kernel) ?_
  have hZ := hZ.pI (o := 134) (j := 4) (v := 0) (by decide)
  refine zv_aload_n (pc := 39) d_X2_init_39 rfl ?_
  refine zv_iconst (pc := 40) d_X2_init_40 zc_i_0 ?_
  refine kx_putI (pc := 41) (o := 134) (v := 0) d_X2_init_41 lk_CutStones_Light_28 (Or.inl rfl) ⟨by decide, by decide⟩ (by decide +kernel) ?_
  have hZ := hZ.pI (o := 134) (j := 5) (v := 0) (by decide)
  refine zv_aload_n (pc := 44) d_X2_init_44 rfl ?_
  refine zv_iconst (pc := 45) d_X2_init_45 zc_i_0 ?_
  refine kx_putI (pc := 46) (o := 134) (v := 0) d_X2_init_46 lk_CutStones_Light_31 (Or.inl rfl) ⟨by decide, by decide⟩ (by decide +kernel) ?_
  have hZ := hZ.pI (o := 134) (j := 6) (v := 0) (by decide)
  refine zv_aload_n (pc := 49) d_X2_init_49 rfl ?_
  refine zv_iconst (pc := 50) d_X2_init_50 zc_i_0 ?_
  refine kx_putI (pc := 51) (o := 134) (v := 0) d_X2_init_51 lk_CutStones_Light_34 (Or.inl rfl) ⟨by decide, by decide⟩ (by decide +kernel) ?_
  have hZ := hZ.pI (o := 134) (j := 7) (v := 0) (by decide)
  refine zv_aload_n (pc := 54) d_X2_init_54 rfl ?_
  refine zv_iconst (pc := 55) d_X2_init_55 zc_i_0 ?_
  refine kx_putI (pc := 56) (o := 134) (v := 0) d_X2_init_56 lk_CutStones_Light_37 (Or.inl rfl) ⟨by decide, by decide⟩ (by decide +kernel) ?_
  have hZ := hZ.pI (o := 134) (j := 8) (v := 0) (by decide)
  refine zv_aload_n (pc := 59) d_X2_init_59 rfl ?_
  refine zv_iconst (pc := 60) d_X2_init_60 zc_i_0 ?_
  refine kx_putI (pc := 61) (o := 134) (v := 0) d_X2_init_61 lk_CutStones_Light_40 (Or.inl rfl) ⟨by decide, by decide⟩ (by decide +kernel) ?_
  have hZ := hZ.pI (o := 134) (j := 9) (v := 0) (by decide)
  refine zv_aload_n (pc := 64) d_X2_init_64 rfl ?_
  refine zv_iconst (pc := 65) d_X2_init_65 zc_i_0 ?_
  refine kx_putI (pc := 66) (o := 134) (v := 0) d_X2_init_66 lk_CutStones_Light_43 (Or.inl rfl) ⟨by decide, by decide⟩ (by decide +kernel) ?_
  have hZ := hZ.pI (o := 134) (j := 10) (v := 0) (by decide)
  refine zv_aload_n (pc := 69) d_X2_init_69 rfl ?_
  refine zv_iconst (pc := 70) d_X2_init_70 zc_i_0 ?_
  refine kx_putI (pc := 71) (o := 134) (v := 0) d_X2_init_71 lk_CutStones_Light_46 (Or.inl rfl) ⟨by decide, by decide⟩ (by decide +kernel) ?_
  have hZ := hZ.pI (o := 134) (j := 11) (v := 0) (by decide)
  exact zv_vret (pc := 74) d_X2_init_74 rfl rfl (Nat.le_refl _) hP
def kS_X6_init_132 (S : aS) : aS := (zw_pI (zw_pI (zw_pI (zw_pI (zw_pI (zw_pI (zw_pI (zw_pI (zw_pR (kS_X2_init_134 (zw_pR S 132 0 133)) 132 1 134) 132 2 0) 132 3 0) 132 4 0) 132 5 0) 132 6 0) 132 7 0) 132 8 1) 132 9 0)
theorem kZ_X6_init_132 {S : aS} (hZ : zw_Z 132 S) : zw_Z 137 (kS_X6_init_132 S) := by
  unfold kS_X6_init_132
  have hZ := hZ.up
  have hZ := hZ.pR (o := 132) (j := 0) (v := 133) (by decide)
  have hZ := hZ.up
  have hZ := kZ_X2_init_134 hZ
  have hZ := hZ.pR (o := 132) (j := 1) (v := 134) (by decide)
  have hZ := hZ.pI (o := 132) (j := 2) (v := 0) (by decide)
  have hZ := hZ.pI (o := 132) (j := 3) (v := 0) (by decide)
  have hZ := hZ.pI (o := 132) (j := 4) (v := 0) (by decide)
  have hZ := hZ.pI (o := 132) (j := 5) (v := 0) (by decide)
  have hZ := hZ.pI (o := 132) (j := 6) (v := 0) (by decide)
  have hZ := hZ.pI (o := 132) (j := 7) (v := 0) (by decide)
  have hZ := hZ.pI (o := 132) (j := 8) (v := 1) (by decide)
  have hZ := hZ.pI (o := 132) (j := 9) (v := 0) (by decide)
  exact hZ
theorem k_X6_init_132 {X : zw_X} {P : Option Value → aS → Prop} {S : aS} (hZ : zw_Z 132 S) (hP : P none (kS_X6_init_132 S)) : zw_C X M_X6_init 2 5 340 132 [.ref 132] S P := by
  show zw_V X M_X6_init 2 5 340 132 P 0 0 0 [.ref 132] [] S
  refine zv_aload_n (pc := 0) d_X6_init_0 rfl ?_
  refine zv_obj (pc := 1) d_X6_init_1 (zw_mG (List.mem_of_getElem? (i := 395) (by decide +kernel)) rfl) (by decide) (Nat.le_of_ble_eq_true rfl) ?_
  refine zv_aload_n (pc := 4) d_X6_init_4 rfl ?_
  refine zv_bipush (pc := 5) d_X6_init_5 zc_b_9 ?_
  refine kx_newa (pc := 7) (N := 9) d_X6_init_7 (by decide) (by decide +kernel) (by decide +kernel) (by decide) (by decide) rfl hZ ⟨by decide, by decide⟩ (by decide) ?_
  have hZ := hZ.up
  refine kx_putR (pc := 9) (o := 132) (v := 133) d_X6_init_9 lk_CutStones_Shine_9 (Or.inr ⟨rfl, rfl, rfl⟩) (by decide) ⟨by decide, by decide⟩ (by decide +kernel) (by decide) ?_
  have hZ := hZ.pR (o := 132) (j := 0) (v := 133) (by decide)
  refine zv_aload_n (pc := 12) d_X6_init_12 rfl ?_
  refine kx_new (pc := 13) (c := 2) d_X6_init_13 rfl ⟨(zw_mG (List.mem_of_getElem? (i := 396) (by decide +kernel)) rfl), (zw_mG (List.mem_of_getElem? (i := 341) (by decide +kernel)) rfl), (zw_mG (List.mem_of_getElem? (i := 103) (by decide +kernel)) rfl)⟩ (by decide) rfl hZ ⟨by decide, by decide⟩ (by decide) (by decide +kernel) ?_
  have hZ := hZ.up
  refine zv_dup (pc := 16) d_X6_init_16 rfl ?_
  refine zv_callIN (pc := 17) (As := []) (o := 134) (st := [.ref 134, .ref 132]) (d2 := 1) (mc2 := 3) (ms2 := 319) (M2 := M_X2_init) (R2 := fun r T => r = none ∧ T = kS_X2_init_134 (zw_pR S 132 0 133)) d_X6_init_17 (by decide +kernel) ce_X2_init (Nat.le_of_ble_eq_true rfl) rfl (Nat.le_of_ble_eq_true rfl) (by decide) ⟨by decide, by decide⟩ (by decide) (k_X2_init_134 hZ ⟨rfl, rfl⟩) ?_
  rintro _ _ ⟨rfl, rfl⟩
  have hZ := kZ_X2_init_134 hZ
  show zw_V X M_X6_init 2 5 340 132 P (17 + 3) 5 340 [.ref 132] [.ref 134, .ref 132] (kS_X2_init_134 (zw_pR S 132 0 133))
  refine kx_putR (pc := 20) (o := 132) (v := 134) d_X6_init_20 lk_CutStones_Shine_18 (Or.inr ⟨rfl, rfl, rfl⟩) (by decide) ⟨by decide, by decide⟩ (by decide +kernel) (by decide) ?_
  have hZ := hZ.pR (o := 132) (j := 1) (v := 134) (by decide)
  refine zv_aload_n (pc := 23) d_X6_init_23 rfl ?_
  refine zv_iconst (pc := 24) d_X6_init_24 zc_i_0 ?_
  refine kx_putI (pc := 25) (o := 132) (v := 0) d_X6_init_25 lk_CutStones_Shine_22 (Or.inl rfl) ⟨by decide, by decide⟩ (by decide +kernel) ?_
  have hZ := hZ.pI (o := 132) (j := 2) (v := 0) (by decide)
  refine zv_aload_n (pc := 28) d_X6_init_28 rfl ?_
  refine zv_iconst (pc := 29) d_X6_init_29 zc_i_0 ?_
  refine kx_putI (pc := 30) (o := 132) (v := 0) d_X6_init_30 lk_CutStones_Shine_26 (Or.inl rfl) ⟨by decide, by decide⟩ (by decide +kernel) ?_
  have hZ := hZ.pI (o := 132) (j := 3) (v := 0) (by decide)
  refine zv_aload_n (pc := 33) d_X6_init_33 rfl ?_
  refine zv_iconst (pc := 34) d_X6_init_34 zc_i_0 ?_
  refine kx_putI (pc := 35) (o := 132) (v := 0) d_X6_init_35 lk_CutStones_Shine_29 (Or.inl rfl) ⟨by decide, by decide⟩ (by decide +kernel) ?_
  have hZ := hZ.pI (o := 132) (j := 4) (v := 0) (by decide)
  refine zv_aload_n (pc := 38) d_X6_init_38 rfl ?_
  refine zv_iconst (pc := 39) d_X6_init_39 zc_i_0 ?_
  refine kx_putI (pc := 40) (o := 132) (v := 0) d_X6_init_40 lk_CutStones_Shine_32 (Or.inl rfl) ⟨by decide, by decide⟩ (by decide +kernel) ?_
  have hZ := hZ.pI (o := 132) (j := 5) (v := 0) (by decide)
  refine zv_aload_n (pc := 43) d_X6_init_43 rfl ?_
  refine zv_iconst (pc := 44) d_X6_init_44 zc_i_0 ?_
  refine kx_putI (pc := 45) (o := 132) (v := 0) d_X6_init_45 lk_CutStones_Shine_35 (Or.inl rfl) ⟨by decide, by decide⟩ (by decide +kernel) ?_
  have hZ := hZ.pI (o := 132) (j := 6) (v := 0) (by decide)
  refine zv_aload_n (pc := 48) d_X6_init_48 rfl ?_
  refine zv_iconst (pc := 49) d_X6_init_49 zc_i_0 ?_
  refine kx_putI (pc := 50) (o := 132) (v := 0) d_X6_init_50 lk_CutStones_Shine_38 (Or.inl rfl) ⟨by decide, by decide⟩ (by decide +kernel) ?_
  have hZ := hZ.pI (o := 132) (j := 7) (v := 0) (by decide)
  refine zv_aload_n (pc := 53) d_X6_init_53 rfl ?_
  refine zv_iconst (pc := 54) d_X6_init_54 zc_i_1 ?_
  refine kx_putI (pc := 55) (o := 132) (v := 1) d_X6_init_55 lk_CutStones_Shine_41 (Or.inl rfl) ⟨by decide, by decide⟩ (by decide +kernel) ?_
  have hZ := hZ.pI (o := 132) (j := 8) (v := 1) (by decide)
  refine zv_aload_n (pc := 58) d_X6_init_58 rfl ?_
  refine zv_iconst (pc := 59) d_X6_init_59 zc_i_0 ?_
  refine kx_putI (pc := 60) (o := 132) (v := 0) d_X6_init_60 lk_CutStones_Shine_44 (Or.inl rfl) ⟨by decide, by decide⟩ (by decide +kernel) ?_
  have hZ := hZ.pI (o := 132) (j := 9) (v := 0) (by decide)
  exact zv_vret (pc := 63) d_X6_init_63 rfl rfl (Nat.le_refl _) hP
abbrev M_X4_init : zw_M := (⟨"CutStones$Reckoner", "<init>", "()V"⟩, prog_6_method_1_code, 1, (Option.none : Option Jvm.ClassFile.FieldType))
theorem d_X4_init_0 : decode M_X4_init.2.1 0 = .ok (.aload_n 0, 1) := by decide +kernel
theorem d_X4_init_1 : decode M_X4_init.2.1 1 = .ok (.invokespecial 3, 3) := by decide +kernel
theorem d_X4_init_4 : decode M_X4_init.2.1 4 = .ok (.aload_n 0, 1) := by decide +kernel
theorem d_X4_init_5 : decode M_X4_init.2.1 5 = .ok (.bipush 32, 2) := by decide +kernel
theorem d_X4_init_7 : decode M_X4_init.2.1 7 = .ok (.newarray .int, 2) := by decide +kernel
theorem d_X4_init_9 : decode M_X4_init.2.1 9 = .ok (.putfield 9, 3) := by decide +kernel
theorem d_X4_init_12 : decode M_X4_init.2.1 12 = .ok (.aload_n 0, 1) := by decide +kernel
theorem d_X4_init_13 : decode M_X4_init.2.1 13 = .ok (.iconst 0, 1) := by decide +kernel
theorem d_X4_init_14 : decode M_X4_init.2.1 14 = .ok (.putfield 15, 3) := by decide +kernel
theorem d_X4_init_17 : decode M_X4_init.2.1 17 = .ok (.aload_n 0, 1) := by decide +kernel
theorem d_X4_init_18 : decode M_X4_init.2.1 18 = .ok (.iconst 0, 1) := by decide +kernel
theorem d_X4_init_19 : decode M_X4_init.2.1 19 = .ok (.putfield 19, 3) := by decide +kernel
theorem d_X4_init_22 : decode M_X4_init.2.1 22 = .ok (.return_, 1) := by decide +kernel
theorem ce_X4_init : zw_CeI M_X4_init 0 := ⟨⟨⟨by decide +kernel, by decide +kernel, by decide +kernel⟩, (zw_mG (List.mem_of_getElem? (i := 436) (by decide +kernel)) rfl), (zw_mG (List.mem_of_getElem? (i := 105) (by decide +kernel)) rfl), by decide, by decide +kernel⟩, (zw_mG (List.mem_of_getElem? (i := 435) (by decide +kernel)) rfl), rfl, rfl⟩
def kS_X4_init_138 (S : aS) : aS := (zw_pI (zw_pI (zw_pR S 138 0 139) 138 1 0) 138 2 0)
theorem kZ_X4_init_138 {S : aS} (hZ : zw_Z 138 S) : zw_Z 139 (kS_X4_init_138 S) := by
  unfold kS_X4_init_138
  have hZ := hZ.up
  have hZ := hZ.pR (o := 138) (j := 0) (v := 139) (by decide)
  have hZ := hZ.pI (o := 138) (j := 1) (v := 0) (by decide)
  have hZ := hZ.pI (o := 138) (j := 2) (v := 0) (by decide)
  exact hZ
theorem k_X4_init_138 {X : zw_X} {P : Option Value → aS → Prop} {S : aS} (hZ : zw_Z 138 S) (hP : P none (kS_X4_init_138 S)) : zw_C X M_X4_init 1 1 32 138 [.ref 138] S P := by
  show zw_V X M_X4_init 1 1 32 138 P 0 0 0 [.ref 138] [] S
  refine zv_aload_n (pc := 0) d_X4_init_0 rfl ?_
  refine zv_obj (pc := 1) d_X4_init_1 (zw_mG (List.mem_of_getElem? (i := 437) (by decide +kernel)) rfl) (by decide) (Nat.le_of_ble_eq_true rfl) ?_
  refine zv_aload_n (pc := 4) d_X4_init_4 rfl ?_
  refine zv_bipush (pc := 5) d_X4_init_5 zc_b_32 ?_
  refine kx_newa (pc := 7) (N := 32) d_X4_init_7 (by decide) (by decide +kernel) (by decide +kernel) (by decide) (by decide) rfl hZ ⟨by decide, by decide⟩ (by decide) ?_
  have hZ := hZ.up
  refine kx_putR (pc := 9) (o := 138) (v := 139) d_X4_init_9 lk_CutStones_Reckoner_9 (Or.inr ⟨rfl, rfl, rfl⟩) (by decide) ⟨by decide, by decide⟩ (by decide +kernel) (by decide) ?_
  have hZ := hZ.pR (o := 138) (j := 0) (v := 139) (by decide)
  refine zv_aload_n (pc := 12) d_X4_init_12 rfl ?_
  refine zv_iconst (pc := 13) d_X4_init_13 zc_i_0 ?_
  refine kx_putI (pc := 14) (o := 138) (v := 0) d_X4_init_14 lk_CutStones_Reckoner_15 (Or.inl rfl) ⟨by decide, by decide⟩ (by decide +kernel) ?_
  have hZ := hZ.pI (o := 138) (j := 1) (v := 0) (by decide)
  refine zv_aload_n (pc := 17) d_X4_init_17 rfl ?_
  refine zv_iconst (pc := 18) d_X4_init_18 zc_i_0 ?_
  refine kx_putI (pc := 19) (o := 138) (v := 0) d_X4_init_19 lk_CutStones_Reckoner_19 (Or.inr ⟨rfl, by decide +kernel⟩) ⟨by decide, by decide⟩ (by decide +kernel) ?_
  have hZ := hZ.pI (o := 138) (j := 2) (v := 0) (by decide)
  exact zv_vret (pc := 22) d_X4_init_22 rfl rfl (Nat.le_refl _) hP
abbrev M_X9_init : zw_M := (⟨"CutStones$Tests", "<init>", "()V"⟩, prog_11_method_1_code, 1, (Option.none : Option Jvm.ClassFile.FieldType))
theorem d_X9_init_0 : decode M_X9_init.2.1 0 = .ok (.aload_n 0, 1) := by decide +kernel
theorem d_X9_init_1 : decode M_X9_init.2.1 1 = .ok (.invokespecial 3, 3) := by decide +kernel
theorem d_X9_init_4 : decode M_X9_init.2.1 4 = .ok (.aload_n 0, 1) := by decide +kernel
theorem d_X9_init_5 : decode M_X9_init.2.1 5 = .ok (.iconst 0, 1) := by decide +kernel
theorem d_X9_init_6 : decode M_X9_init.2.1 6 = .ok (.putfield 9, 3) := by decide +kernel
theorem d_X9_init_9 : decode M_X9_init.2.1 9 = .ok (.aload_n 0, 1) := by decide +kernel
theorem d_X9_init_10 : decode M_X9_init.2.1 10 = .ok (.bipush 60, 2) := by decide +kernel
theorem d_X9_init_12 : decode M_X9_init.2.1 12 = .ok (.newarray .int, 2) := by decide +kernel
theorem d_X9_init_14 : decode M_X9_init.2.1 14 = .ok (.putfield 15, 3) := by decide +kernel
theorem d_X9_init_17 : decode M_X9_init.2.1 17 = .ok (.aload_n 0, 1) := by decide +kernel
theorem d_X9_init_18 : decode M_X9_init.2.1 18 = .ok (.bipush 60, 2) := by decide +kernel
theorem d_X9_init_20 : decode M_X9_init.2.1 20 = .ok (.newarray .int, 2) := by decide +kernel
theorem d_X9_init_22 : decode M_X9_init.2.1 22 = .ok (.putfield 19, 3) := by decide +kernel
theorem d_X9_init_25 : decode M_X9_init.2.1 25 = .ok (.aload_n 0, 1) := by decide +kernel
theorem d_X9_init_26 : decode M_X9_init.2.1 26 = .ok (.bipush 60, 2) := by decide +kernel
theorem d_X9_init_28 : decode M_X9_init.2.1 28 = .ok (.newarray .int, 2) := by decide +kernel
theorem d_X9_init_30 : decode M_X9_init.2.1 30 = .ok (.putfield 22, 3) := by decide +kernel
theorem d_X9_init_33 : decode M_X9_init.2.1 33 = .ok (.aload_n 0, 1) := by decide +kernel
theorem d_X9_init_34 : decode M_X9_init.2.1 34 = .ok (.bipush 60, 2) := by decide +kernel
theorem d_X9_init_36 : decode M_X9_init.2.1 36 = .ok (.newarray .int, 2) := by decide +kernel
theorem d_X9_init_38 : decode M_X9_init.2.1 38 = .ok (.putfield 25, 3) := by decide +kernel
theorem d_X9_init_41 : decode M_X9_init.2.1 41 = .ok (.return_, 1) := by decide +kernel
theorem ce_X9_init : zw_CeI M_X9_init 0 := ⟨⟨⟨by decide +kernel, by decide +kernel, by decide +kernel⟩, (zw_mG (List.mem_of_getElem? (i := 452) (by decide +kernel)) rfl), (zw_mG (List.mem_of_getElem? (i := 106) (by decide +kernel)) rfl), by decide, by decide +kernel⟩, (zw_mG (List.mem_of_getElem? (i := 451) (by decide +kernel)) rfl), rfl, rfl⟩
def kS_X9_init_142 (S : aS) : aS := (zw_pR (zw_pR (zw_pR (zw_pR (zw_pI S 142 0 0) 142 1 143) 142 2 144) 142 3 145) 142 4 146)
theorem kZ_X9_init_142 {S : aS} (hZ : zw_Z 142 S) : zw_Z 146 (kS_X9_init_142 S) := by
  unfold kS_X9_init_142
  have hZ := hZ.pI (o := 142) (j := 0) (v := 0) (by decide)
  have hZ := hZ.up
  have hZ := hZ.pR (o := 142) (j := 1) (v := 143) (by decide)
  have hZ := hZ.up
  have hZ := hZ.pR (o := 142) (j := 2) (v := 144) (by decide)
  have hZ := hZ.up
  have hZ := hZ.pR (o := 142) (j := 3) (v := 145) (by decide)
  have hZ := hZ.up
  have hZ := hZ.pR (o := 142) (j := 4) (v := 146) (by decide)
  exact hZ
theorem k_X9_init_142 {X : zw_X} {P : Option Value → aS → Prop} {S : aS} (hZ : zw_Z 142 S) (hP : P none (kS_X9_init_142 S)) : zw_C X M_X9_init 1 4 240 142 [.ref 142] S P := by
  show zw_V X M_X9_init 1 4 240 142 P 0 0 0 [.ref 142] [] S
  refine zv_aload_n (pc := 0) d_X9_init_0 rfl ?_
  refine zv_obj (pc := 1) d_X9_init_1 (zw_mG (List.mem_of_getElem? (i := 453) (by decide +kernel)) rfl) (by decide) (Nat.le_of_ble_eq_true rfl) ?_
  refine zv_aload_n (pc := 4) d_X9_init_4 rfl ?_
  refine zv_iconst (pc := 5) d_X9_init_5 zc_i_0 ?_
  refine kx_putI (pc := 6) (o := 142) (v := 0) d_X9_init_6 lk_CutStones_Tests_9 (Or.inl rfl) ⟨by decide, by decide⟩ (by decide +kernel) ?_
  have hZ := hZ.pI (o := 142) (j := 0) (v := 0) (by decide)
  refine zv_aload_n (pc := 9) d_X9_init_9 rfl ?_
  refine zv_bipush (pc := 10) d_X9_init_10 zc_b_60 ?_
  refine kx_newa (pc := 12) (N := 60) d_X9_init_12 (by decide) (by decide +kernel) (by decide +kernel) (by decide) (by decide) rfl hZ ⟨by decide, by decide⟩ (by decide) ?_
  have hZ := hZ.up
  refine kx_putR (pc := 14) (o := 142) (v := 143) d_X9_init_14 lk_CutStones_Tests_15 (Or.inr ⟨rfl, rfl, rfl⟩) (by decide) ⟨by decide, by decide⟩ (by decide +kernel) (by decide) ?_
  have hZ := hZ.pR (o := 142) (j := 1) (v := 143) (by decide)
  refine zv_aload_n (pc := 17) d_X9_init_17 rfl ?_
  refine zv_bipush (pc := 18) d_X9_init_18 zc_b_60 ?_
  refine kx_newa (pc := 20) (N := 60) d_X9_init_20 (by decide) (by decide +kernel) (by decide +kernel) (by decide) (by decide) rfl hZ ⟨by decide, by decide⟩ (by decide) ?_
  have hZ := hZ.up
  refine kx_putR (pc := 22) (o := 142) (v := 144) d_X9_init_22 lk_CutStones_Tests_19 (Or.inr ⟨rfl, rfl, rfl⟩) (by decide) ⟨by decide, by decide⟩ (by decide +kernel) (by decide) ?_
  have hZ := hZ.pR (o := 142) (j := 2) (v := 144) (by decide)
  refine zv_aload_n (pc := 25) d_X9_init_25 rfl ?_
  refine zv_bipush (pc := 26) d_X9_init_26 zc_b_60 ?_
  refine kx_newa (pc := 28) (N := 60) d_X9_init_28 (by decide) (by decide +kernel) (by decide +kernel) (by decide) (by decide) rfl hZ ⟨by decide, by decide⟩ (by decide) ?_
  have hZ := hZ.up
  refine kx_putR (pc := 30) (o := 142) (v := 145) d_X9_init_30 lk_CutStones_Tests_22 (Or.inr ⟨rfl, rfl, rfl⟩) (by decide) ⟨by decide, by decide⟩ (by decide +kernel) (by decide) ?_
  have hZ := hZ.pR (o := 142) (j := 3) (v := 145) (by decide)
  refine zv_aload_n (pc := 33) d_X9_init_33 rfl ?_
  refine zv_bipush (pc := 34) d_X9_init_34 zc_b_60 ?_
  refine kx_newa (pc := 36) (N := 60) d_X9_init_36 (by decide) (by decide +kernel) (by decide +kernel) (by decide) (by decide) rfl hZ ⟨by decide, by decide⟩ (by decide) ?_
  have hZ := hZ.up
  refine kx_putR (pc := 38) (o := 142) (v := 146) d_X9_init_38 lk_CutStones_Tests_25 (Or.inr ⟨rfl, rfl, rfl⟩) (by decide) ⟨by decide, by decide⟩ (by decide +kernel) (by decide) ?_
  have hZ := hZ.pR (o := 142) (j := 4) (v := 146) (by decide)
  exact zv_vret (pc := 41) d_X9_init_41 rfl rfl (Nat.le_refl _) hP
def kS_X10_init_1 (S : aS) : aS := (zw_fill (zw_lamps (zw_pR (zw_pR (kS_X9_init_142 (zw_pR (zw_pI (zw_pI (zw_pI (zw_pI (zw_pI (zw_pI (zw_pI (zw_pR (zw_pR (kS_X4_init_138 (zw_pR (kS_X6_init_132 (zw_pI (zw_pR (kS_X6_init_126 (zw_pI (zw_pR (kS_X2_init_122 (zw_pR (kS_X1_init_65 (zw_pR (kS_X3_init_7 (zw_pR (kS_X8_init_2 S) 1 0 2)) 1 1 7)) 1 2 65)) 1 3 122) 1 4 0)) 1 5 126) 1 6 0)) 1 7 132)) 1 8 138) 1 9 140) 141 0 (-1)) 141 1 (-1)) 141 2 (-1)) 141 3 (-1)) 141 4 (-1)) 141 5 (-1)) 141 6 (-1)) 1 10 141)) 1 11 142) 1 12 147) 132 1000 0 0) 147 (-1) 96)
theorem kZ_X10_init_1 {S : aS} (hZ : zw_Z 1 S) : zw_Z 147 (kS_X10_init_1 S) := by
  unfold kS_X10_init_1
  have hZ := hZ.up
  have hZ := kZ_X8_init_2 hZ
  have hZ := hZ.pR (o := 1) (j := 0) (v := 2) (by decide)
  have hZ := hZ.up
  have hZ := kZ_X3_init_7 hZ
  have hZ := hZ.pR (o := 1) (j := 1) (v := 7) (by decide)
  have hZ := hZ.up
  have hZ := kZ_X1_init_65 hZ
  have hZ := hZ.pR (o := 1) (j := 2) (v := 65) (by decide)
  have hZ := hZ.up
  have hZ := kZ_X2_init_122 hZ
  have hZ := hZ.pR (o := 1) (j := 3) (v := 122) (by decide)
  have hZ := hZ.pI (o := 1) (j := 4) (v := 0) (by decide)
  have hZ := hZ.up
  have hZ := kZ_X6_init_126 hZ
  have hZ := hZ.pR (o := 1) (j := 5) (v := 126) (by decide)
  have hZ := hZ.pI (o := 1) (j := 6) (v := 0) (by decide)
  have hZ := hZ.up
  have hZ := kZ_X6_init_132 hZ
  have hZ := hZ.pR (o := 1) (j := 7) (v := 132) (by decide)
  have hZ := hZ.up
  have hZ := kZ_X4_init_138 hZ
  have hZ := hZ.pR (o := 1) (j := 8) (v := 138) (by decide)
  have hZ := hZ.up
  have hZ := hZ.pR (o := 1) (j := 9) (v := 140) (by decide)
  have hZ := hZ.up
  have hZ := hZ.pI (o := 141) (j := 0) (v := (-1)) (by decide)
  have hZ := hZ.pI (o := 141) (j := 1) (v := (-1)) (by decide)
  have hZ := hZ.pI (o := 141) (j := 2) (v := (-1)) (by decide)
  have hZ := hZ.pI (o := 141) (j := 3) (v := (-1)) (by decide)
  have hZ := hZ.pI (o := 141) (j := 4) (v := (-1)) (by decide)
  have hZ := hZ.pI (o := 141) (j := 5) (v := (-1)) (by decide)
  have hZ := hZ.pI (o := 141) (j := 6) (v := (-1)) (by decide)
  have hZ := hZ.pR (o := 1) (j := 10) (v := 141) (by decide)
  have hZ := hZ.up
  have hZ := kZ_X9_init_142 hZ
  have hZ := hZ.pR (o := 1) (j := 11) (v := 142) (by decide)
  have hZ := hZ.up
  have hZ := hZ.pR (o := 1) (j := 12) (v := 147) (by decide)
  have hZ := hZ.lamps (a := 132) (x := 1000) (y := 0) (z := 0) (by decide)
  have hZ := hZ.fill (a := 147) (v := (-1)) (len := 96) (by decide)
  exact hZ
theorem k_X10_init_1 {X : zw_X} {P : Option Value → aS → Prop} {S : aS} (hZ : zw_Z 1 S) (hP : P none (kS_X10_init_1 S)) : zw_C X M_X10_init 4 146 10308 1 [.ref 1] S P := by
  show zw_V X M_X10_init 4 146 10308 1 P 0 0 0 [.ref 1] [] S
  refine zv_aload_n (pc := 0) d_X10_init_0 rfl ?_
  refine zv_obj (pc := 1) d_X10_init_1 (zw_mG (List.mem_of_getElem? (i := 121) (by decide +kernel)) rfl) (by decide) (Nat.le_of_ble_eq_true rfl) ?_
  refine zv_aload_n (pc := 4) d_X10_init_4 rfl ?_
  refine kx_new (pc := 5) (c := 8) d_X10_init_5 rfl ⟨(zw_mG (List.mem_of_getElem? (i := 124) (by decide +kernel)) rfl), (zw_mG (List.mem_of_getElem? (i := 125) (by decide +kernel)) rfl), (zw_mG (List.mem_of_getElem? (i := 97) (by decide +kernel)) rfl)⟩ (by decide) rfl hZ ⟨by decide, by decide⟩ (by decide) (by decide +kernel) ?_
  have hZ := hZ.up
  refine zv_dup (pc := 8) d_X10_init_8 rfl ?_
  refine zv_callIN (pc := 9) (As := []) (o := 2) (st := [.ref 2, .ref 1]) (d2 := 1) (mc2 := 4) (ms2 := 3503) (M2 := M_X8_init) (R2 := fun r T => r = none ∧ T = kS_X8_init_2 S) d_X10_init_9 (by decide +kernel) ce_X8_init (Nat.le_of_ble_eq_true rfl) rfl (Nat.le_of_ble_eq_true rfl) (by decide) ⟨by decide, by decide⟩ (by decide) (k_X8_init_2 hZ ⟨rfl, rfl⟩) ?_
  rintro _ _ ⟨rfl, rfl⟩
  have hZ := kZ_X8_init_2 hZ
  show zw_V X M_X10_init 4 146 10308 1 P (9 + 3) 5 3508 [.ref 1] [.ref 2, .ref 1] (kS_X8_init_2 S)
  refine kx_putR (pc := 12) (o := 1) (v := 2) d_X10_init_12 lk_CutStones_10 (Or.inr ⟨rfl, rfl, rfl⟩) (by decide) ⟨by decide, by decide⟩ (by decide +kernel) (by decide) ?_
  have hZ := hZ.pR (o := 1) (j := 0) (v := 2) (by decide)
  refine zv_aload_n (pc := 15) d_X10_init_15 rfl ?_
  refine kx_new (pc := 16) (c := 3) d_X10_init_16 rfl ⟨(zw_mG (List.mem_of_getElem? (i := 153) (by decide +kernel)) rfl), (zw_mG (List.mem_of_getElem? (i := 154) (by decide +kernel)) rfl), (zw_mG (List.mem_of_getElem? (i := 98) (by decide +kernel)) rfl)⟩ (by decide) rfl hZ ⟨by decide, by decide⟩ (by decide) (by decide +kernel) ?_
  have hZ := hZ.up
  refine zv_dup (pc := 19) d_X10_init_19 rfl ?_
  refine zv_callIN (pc := 20) (As := []) (o := 7) (st := [.ref 7, .ref 1]) (d2 := 3) (mc2 := 57) (ms2 := 2687) (M2 := M_X3_init) (R2 := fun r T => r = none ∧ T = kS_X3_init_7 (zw_pR (kS_X8_init_2 S) 1 0 2)) d_X10_init_20 (by decide +kernel) ce_X3_init (Nat.le_of_ble_eq_true rfl) rfl (Nat.le_of_ble_eq_true rfl) (by decide) ⟨by decide, by decide⟩ (by decide) (k_X3_init_7 hZ ⟨rfl, rfl⟩) ?_
  rintro _ _ ⟨rfl, rfl⟩
  have hZ := kZ_X3_init_7 hZ
  show zw_V X M_X10_init 4 146 10308 1 P (20 + 3) 63 6201 [.ref 1] [.ref 7, .ref 1] (kS_X3_init_7 (zw_pR (kS_X8_init_2 S) 1 0 2))
  refine kx_putR (pc := 23) (o := 1) (v := 7) d_X10_init_23 lk_CutStones_19 (Or.inr ⟨rfl, rfl, rfl⟩) (by decide) ⟨by decide, by decide⟩ (by decide +kernel) (by decide) ?_
  have hZ := hZ.pR (o := 1) (j := 1) (v := 7) (by decide)
  refine zv_aload_n (pc := 26) d_X10_init_26 rfl ?_
  refine kx_new (pc := 27) (c := 1) d_X10_init_27 rfl ⟨(zw_mG (List.mem_of_getElem? (i := 338) (by decide +kernel)) rfl), (zw_mG (List.mem_of_getElem? (i := 160) (by decide +kernel)) rfl), (zw_mG (List.mem_of_getElem? (i := 99) (by decide +kernel)) rfl)⟩ (by decide) rfl hZ ⟨by decide, by decide⟩ (by decide) (by decide +kernel) ?_
  have hZ := hZ.up
  refine zv_dup (pc := 30) d_X10_init_30 rfl ?_
  refine zv_callI (pc := 31) (As := []) (o := 65) (st := [.ref 65, .ref 1]) (d2 := 2) (mc2 := 56) (ms2 := 2672) (M2 := M_X1_init) (R2 := fun r T => r = none ∧ T = kS_X1_init_65 (zw_pR (kS_X3_init_7 (zw_pR (kS_X8_init_2 S) 1 0 2)) 1 1 7)) d_X10_init_31 (zw_mG (List.mem_of_getElem? (i := 339) (by decide +kernel)) rfl) ce_X1_init (Nat.le_of_ble_eq_true rfl) rfl (Nat.le_of_ble_eq_true rfl) (by decide) ⟨by decide, by decide⟩ (by decide) (k_X1_init_65 hZ ⟨rfl, rfl⟩) ?_
  rintro _ _ ⟨rfl, rfl⟩
  have hZ := kZ_X1_init_65 hZ
  show zw_V X M_X10_init 4 146 10308 1 P (31 + 3) 120 8888 [.ref 1] [.ref 65, .ref 1] (kS_X1_init_65 (zw_pR (kS_X3_init_7 (zw_pR (kS_X8_init_2 S) 1 0 2)) 1 1 7))
  refine kx_putR (pc := 34) (o := 1) (v := 65) d_X10_init_34 lk_CutStones_26 (Or.inl rfl) (by decide) ⟨by decide, by decide⟩ (by decide +kernel) (by decide) ?_
  have hZ := hZ.pR (o := 1) (j := 2) (v := 65) (by decide)
  refine zv_aload_n (pc := 37) d_X10_init_37 rfl ?_
  refine kx_new (pc := 38) (c := 2) d_X10_init_38 rfl ⟨(zw_mG (List.mem_of_getElem? (i := 340) (by decide +kernel)) rfl), (zw_mG (List.mem_of_getElem? (i := 341) (by decide +kernel)) rfl), (zw_mG (List.mem_of_getElem? (i := 103) (by decide +kernel)) rfl)⟩ (by decide) rfl hZ ⟨by decide, by decide⟩ (by decide) (by decide +kernel) ?_
  have hZ := hZ.up
  refine zv_dup (pc := 41) d_X10_init_41 rfl ?_
  refine zv_callIN (pc := 42) (As := []) (o := 122) (st := [.ref 122, .ref 1]) (d2 := 1) (mc2 := 3) (ms2 := 319) (M2 := M_X2_init) (R2 := fun r T => r = none ∧ T = kS_X2_init_122 (zw_pR (kS_X1_init_65 (zw_pR (kS_X3_init_7 (zw_pR (kS_X8_init_2 S) 1 0 2)) 1 1 7)) 1 2 65)) d_X10_init_42 (by decide +kernel) ce_X2_init (Nat.le_of_ble_eq_true rfl) rfl (Nat.le_of_ble_eq_true rfl) (by decide) ⟨by decide, by decide⟩ (by decide) (k_X2_init_122 hZ ⟨rfl, rfl⟩) ?_
  rintro _ _ ⟨rfl, rfl⟩
  have hZ := kZ_X2_init_122 hZ
  show zw_V X M_X10_init 4 146 10308 1 P (42 + 3) 124 9219 [.ref 1] [.ref 122, .ref 1] (kS_X2_init_122 (zw_pR (kS_X1_init_65 (zw_pR (kS_X3_init_7 (zw_pR (kS_X8_init_2 S) 1 0 2)) 1 1 7)) 1 2 65))
  refine kx_putR (pc := 45) (o := 1) (v := 122) d_X10_init_45 lk_CutStones_33 (Or.inr ⟨rfl, rfl, rfl⟩) (by decide) ⟨by decide, by decide⟩ (by decide +kernel) (by decide) ?_
  have hZ := hZ.pR (o := 1) (j := 3) (v := 122) (by decide)
  refine zv_aload_n (pc := 48) d_X10_init_48 rfl ?_
  refine zv_iconst (pc := 49) d_X10_init_49 zc_i_0 ?_
  refine kx_putI (pc := 50) (o := 1) (v := 0) d_X10_init_50 lk_CutStones_37 (Or.inr ⟨rfl, by decide +kernel⟩) ⟨by decide, by decide⟩ (by decide +kernel) ?_
  have hZ := hZ.pI (o := 1) (j := 4) (v := 0) (by decide)
  refine zv_aload_n (pc := 53) d_X10_init_53 rfl ?_
  refine kx_new (pc := 54) (c := 6) d_X10_init_54 rfl ⟨(zw_mG (List.mem_of_getElem? (i := 390) (by decide +kernel)) rfl), (zw_mG (List.mem_of_getElem? (i := 391) (by decide +kernel)) rfl), (zw_mG (List.mem_of_getElem? (i := 104) (by decide +kernel)) rfl)⟩ (by decide) rfl hZ ⟨by decide, by decide⟩ (by decide) (by decide +kernel) ?_
  have hZ := hZ.up
  refine zv_dup (pc := 57) d_X10_init_57 rfl ?_
  refine zv_callIN (pc := 58) (As := []) (o := 126) (st := [.ref 126, .ref 1]) (d2 := 2) (mc2 := 5) (ms2 := 340) (M2 := M_X6_init) (R2 := fun r T => r = none ∧ T = kS_X6_init_126 (zw_pI (zw_pR (kS_X2_init_122 (zw_pR (kS_X1_init_65 (zw_pR (kS_X3_init_7 (zw_pR (kS_X8_init_2 S) 1 0 2)) 1 1 7)) 1 2 65)) 1 3 122) 1 4 0)) d_X10_init_58 (by decide +kernel) ce_X6_init (Nat.le_of_ble_eq_true rfl) rfl (Nat.le_of_ble_eq_true rfl) (by decide) ⟨by decide, by decide⟩ (by decide) (k_X6_init_126 hZ ⟨rfl, rfl⟩) ?_
  rintro _ _ ⟨rfl, rfl⟩
  have hZ := kZ_X6_init_126 hZ
  show zw_V X M_X10_init 4 146 10308 1 P (58 + 3) 130 9569 [.ref 1] [.ref 126, .ref 1] (kS_X6_init_126 (zw_pI (zw_pR (kS_X2_init_122 (zw_pR (kS_X1_init_65 (zw_pR (kS_X3_init_7 (zw_pR (kS_X8_init_2 S) 1 0 2)) 1 1 7)) 1 2 65)) 1 3 122) 1 4 0))
  refine kx_putR (pc := 61) (o := 1) (v := 126) d_X10_init_61 lk_CutStones_44 (Or.inr ⟨rfl, rfl, rfl⟩) (by decide) ⟨by decide, by decide⟩ (by decide +kernel) (by decide) ?_
  have hZ := hZ.pR (o := 1) (j := 5) (v := 126) (by decide)
  refine zv_aload_n (pc := 64) d_X10_init_64 rfl ?_
  refine zv_iconst (pc := 65) d_X10_init_65 zc_i_0 ?_
  refine kx_putI (pc := 66) (o := 1) (v := 0) d_X10_init_66 lk_CutStones_48 (Or.inr ⟨rfl, by decide +kernel⟩) ⟨by decide, by decide⟩ (by decide +kernel) ?_
  have hZ := hZ.pI (o := 1) (j := 6) (v := 0) (by decide)
  refine zv_aload_n (pc := 69) d_X10_init_69 rfl ?_
  refine kx_new (pc := 70) (c := 6) d_X10_init_70 rfl ⟨(zw_mG (List.mem_of_getElem? (i := 390) (by decide +kernel)) rfl), (zw_mG (List.mem_of_getElem? (i := 391) (by decide +kernel)) rfl), (zw_mG (List.mem_of_getElem? (i := 104) (by decide +kernel)) rfl)⟩ (by decide) rfl hZ ⟨by decide, by decide⟩ (by decide) (by decide +kernel) ?_
  have hZ := hZ.up
  refine zv_dup (pc := 73) d_X10_init_73 rfl ?_
  refine zv_callIN (pc := 74) (As := []) (o := 132) (st := [.ref 132, .ref 1]) (d2 := 2) (mc2 := 5) (ms2 := 340) (M2 := M_X6_init) (R2 := fun r T => r = none ∧ T = kS_X6_init_132 (zw_pI (zw_pR (kS_X6_init_126 (zw_pI (zw_pR (kS_X2_init_122 (zw_pR (kS_X1_init_65 (zw_pR (kS_X3_init_7 (zw_pR (kS_X8_init_2 S) 1 0 2)) 1 1 7)) 1 2 65)) 1 3 122) 1 4 0)) 1 5 126) 1 6 0)) d_X10_init_74 (by decide +kernel) ce_X6_init (Nat.le_of_ble_eq_true rfl) rfl (Nat.le_of_ble_eq_true rfl) (by decide) ⟨by decide, by decide⟩ (by decide) (k_X6_init_132 hZ ⟨rfl, rfl⟩) ?_
  rintro _ _ ⟨rfl, rfl⟩
  have hZ := kZ_X6_init_132 hZ
  show zw_V X M_X10_init 4 146 10308 1 P (74 + 3) 136 9919 [.ref 1] [.ref 132, .ref 1] (kS_X6_init_132 (zw_pI (zw_pR (kS_X6_init_126 (zw_pI (zw_pR (kS_X2_init_122 (zw_pR (kS_X1_init_65 (zw_pR (kS_X3_init_7 (zw_pR (kS_X8_init_2 S) 1 0 2)) 1 1 7)) 1 2 65)) 1 3 122) 1 4 0)) 1 5 126) 1 6 0))
  refine kx_putR (pc := 77) (o := 1) (v := 132) d_X10_init_77 lk_CutStones_51 (Or.inr ⟨rfl, rfl, rfl⟩) (by decide) ⟨by decide, by decide⟩ (by decide +kernel) (by decide) ?_
  have hZ := hZ.pR (o := 1) (j := 7) (v := 132) (by decide)
  refine zv_aload_n (pc := 80) d_X10_init_80 rfl ?_
  refine kx_new (pc := 81) (c := 4) d_X10_init_81 rfl ⟨(zw_mG (List.mem_of_getElem? (i := 432) (by decide +kernel)) rfl), (zw_mG (List.mem_of_getElem? (i := 433) (by decide +kernel)) rfl), (zw_mG (List.mem_of_getElem? (i := 105) (by decide +kernel)) rfl)⟩ (by decide) rfl hZ ⟨by decide, by decide⟩ (by decide) (by decide +kernel) ?_
  have hZ := hZ.up
  refine zv_dup (pc := 84) d_X10_init_84 rfl ?_
  refine zv_callIN (pc := 85) (As := []) (o := 138) (st := [.ref 138, .ref 1]) (d2 := 1) (mc2 := 1) (ms2 := 32) (M2 := M_X4_init) (R2 := fun r T => r = none ∧ T = kS_X4_init_138 (zw_pR (kS_X6_init_132 (zw_pI (zw_pR (kS_X6_init_126 (zw_pI (zw_pR (kS_X2_init_122 (zw_pR (kS_X1_init_65 (zw_pR (kS_X3_init_7 (zw_pR (kS_X8_init_2 S) 1 0 2)) 1 1 7)) 1 2 65)) 1 3 122) 1 4 0)) 1 5 126) 1 6 0)) 1 7 132)) d_X10_init_85 (by decide +kernel) ce_X4_init (Nat.le_of_ble_eq_true rfl) rfl (Nat.le_of_ble_eq_true rfl) (by decide) ⟨by decide, by decide⟩ (by decide) (k_X4_init_138 hZ ⟨rfl, rfl⟩) ?_
  rintro _ _ ⟨rfl, rfl⟩
  have hZ := kZ_X4_init_138 hZ
  show zw_V X M_X10_init 4 146 10308 1 P (85 + 3) 138 9954 [.ref 1] [.ref 138, .ref 1] (kS_X4_init_138 (zw_pR (kS_X6_init_132 (zw_pI (zw_pR (kS_X6_init_126 (zw_pI (zw_pR (kS_X2_init_122 (zw_pR (kS_X1_init_65 (zw_pR (kS_X3_init_7 (zw_pR (kS_X8_init_2 S) 1 0 2)) 1 1 7)) 1 2 65)) 1 3 122) 1 4 0)) 1 5 126) 1 6 0)) 1 7 132))
  refine kx_putR (pc := 88) (o := 1) (v := 138) d_X10_init_88 lk_CutStones_57 (Or.inr ⟨rfl, rfl, rfl⟩) (by decide) ⟨by decide, by decide⟩ (by decide +kernel) (by decide) ?_
  have hZ := hZ.pR (o := 1) (j := 8) (v := 138) (by decide)
  refine zv_aload_n (pc := 91) d_X10_init_91 rfl ?_
  refine zv_bipush (pc := 92) d_X10_init_92 zc_b_6 ?_
  refine kx_newa (pc := 94) (N := 6) d_X10_init_94 (by decide) (by decide +kernel) (by decide +kernel) (by decide) (by decide) rfl hZ ⟨by decide, by decide⟩ (by decide) ?_
  have hZ := hZ.up
  refine kx_putR (pc := 96) (o := 1) (v := 140) d_X10_init_96 lk_CutStones_61 (Or.inr ⟨rfl, rfl, rfl⟩) (by decide) ⟨by decide, by decide⟩ (by decide +kernel) (by decide) ?_
  have hZ := hZ.pR (o := 1) (j := 9) (v := 140) (by decide)
  refine zv_aload_n (pc := 99) d_X10_init_99 rfl ?_
  refine zv_bipush (pc := 100) d_X10_init_100 zc_b_7 ?_
  refine kx_newa (pc := 102) (N := 7) d_X10_init_102 (by decide) (by decide +kernel) (by decide +kernel) (by decide) (by decide) rfl hZ ⟨by decide, by decide⟩ (by decide) ?_
  have hZ := hZ.up
  refine zv_dup (pc := 104) d_X10_init_104 rfl ?_
  refine zv_iconst (pc := 105) d_X10_init_105 zc_i_0 ?_
  refine zv_iconst (pc := 106) d_X10_init_106 zc_i_m1 ?_
  refine kx_iast (pc := 107) (o := 141) (j := 0) d_X10_init_107 ⟨by decide, by decide⟩ (by decide +kernel) (by decide +kernel) (by decide +kernel) ?_
  have hZ := hZ.pI (o := 141) (j := 0) (v := (-1)) (by decide)
  refine zv_dup (pc := 108) d_X10_init_108 rfl ?_
  refine zv_iconst (pc := 109) d_X10_init_109 zc_i_1 ?_
  refine zv_iconst (pc := 110) d_X10_init_110 zc_i_m1 ?_
  refine kx_iast (pc := 111) (o := 141) (j := 1) d_X10_init_111 ⟨by decide, by decide⟩ (by decide +kernel) (by decide +kernel) (by decide +kernel) ?_
  have hZ := hZ.pI (o := 141) (j := 1) (v := (-1)) (by decide)
  refine zv_dup (pc := 112) d_X10_init_112 rfl ?_
  refine zv_iconst (pc := 113) d_X10_init_113 zc_i_2 ?_
  refine zv_iconst (pc := 114) d_X10_init_114 zc_i_m1 ?_
  refine kx_iast (pc := 115) (o := 141) (j := 2) d_X10_init_115 ⟨by decide, by decide⟩ (by decide +kernel) (by decide +kernel) (by decide +kernel) ?_
  have hZ := hZ.pI (o := 141) (j := 2) (v := (-1)) (by decide)
  refine zv_dup (pc := 116) d_X10_init_116 rfl ?_
  refine zv_iconst (pc := 117) d_X10_init_117 zc_i_3 ?_
  refine zv_iconst (pc := 118) d_X10_init_118 zc_i_m1 ?_
  refine kx_iast (pc := 119) (o := 141) (j := 3) d_X10_init_119 ⟨by decide, by decide⟩ (by decide +kernel) (by decide +kernel) (by decide +kernel) ?_
  have hZ := hZ.pI (o := 141) (j := 3) (v := (-1)) (by decide)
  refine zv_dup (pc := 120) d_X10_init_120 rfl ?_
  refine zv_iconst (pc := 121) d_X10_init_121 zc_i_4 ?_
  refine zv_iconst (pc := 122) d_X10_init_122 zc_i_m1 ?_
  refine kx_iast (pc := 123) (o := 141) (j := 4) d_X10_init_123 ⟨by decide, by decide⟩ (by decide +kernel) (by decide +kernel) (by decide +kernel) ?_
  have hZ := hZ.pI (o := 141) (j := 4) (v := (-1)) (by decide)
  refine zv_dup (pc := 124) d_X10_init_124 rfl ?_
  refine zv_iconst (pc := 125) d_X10_init_125 zc_i_5 ?_
  refine zv_iconst (pc := 126) d_X10_init_126 zc_i_m1 ?_
  refine kx_iast (pc := 127) (o := 141) (j := 5) d_X10_init_127 ⟨by decide, by decide⟩ (by decide +kernel) (by decide +kernel) (by decide +kernel) ?_
  have hZ := hZ.pI (o := 141) (j := 5) (v := (-1)) (by decide)
  refine zv_dup (pc := 128) d_X10_init_128 rfl ?_
  refine zv_bipush (pc := 129) d_X10_init_129 zc_b_6 ?_
  refine zv_iconst (pc := 131) d_X10_init_131 zc_i_m1 ?_
  refine kx_iast (pc := 132) (o := 141) (j := 6) d_X10_init_132 ⟨by decide, by decide⟩ (by decide +kernel) (by decide +kernel) (by decide +kernel) ?_
  have hZ := hZ.pI (o := 141) (j := 6) (v := (-1)) (by decide)
  refine kx_putR (pc := 133) (o := 1) (v := 141) d_X10_init_133 lk_CutStones_65 (Or.inr ⟨rfl, rfl, rfl⟩) (by decide) ⟨by decide, by decide⟩ (by decide +kernel) (by decide) ?_
  have hZ := hZ.pR (o := 1) (j := 10) (v := 141) (by decide)
  refine zv_aload_n (pc := 136) d_X10_init_136 rfl ?_
  refine kx_new (pc := 137) (c := 9) d_X10_init_137 rfl ⟨(zw_mG (List.mem_of_getElem? (i := 448) (by decide +kernel)) rfl), (zw_mG (List.mem_of_getElem? (i := 449) (by decide +kernel)) rfl), (zw_mG (List.mem_of_getElem? (i := 106) (by decide +kernel)) rfl)⟩ (by decide) rfl hZ ⟨by decide, by decide⟩ (by decide) (by decide +kernel) ?_
  have hZ := hZ.up
  refine zv_dup (pc := 140) d_X10_init_140 rfl ?_
  refine zv_callIN (pc := 141) (As := []) (o := 142) (st := [.ref 142, .ref 1]) (d2 := 1) (mc2 := 4) (ms2 := 240) (M2 := M_X9_init) (R2 := fun r T => r = none ∧ T = kS_X9_init_142 (zw_pR (zw_pI (zw_pI (zw_pI (zw_pI (zw_pI (zw_pI (zw_pI (zw_pR (zw_pR (kS_X4_init_138 (zw_pR (kS_X6_init_132 (zw_pI (zw_pR (kS_X6_init_126 (zw_pI (zw_pR (kS_X2_init_122 (zw_pR (kS_X1_init_65 (zw_pR (kS_X3_init_7 (zw_pR (kS_X8_init_2 S) 1 0 2)) 1 1 7)) 1 2 65)) 1 3 122) 1 4 0)) 1 5 126) 1 6 0)) 1 7 132)) 1 8 138) 1 9 140) 141 0 (-1)) 141 1 (-1)) 141 2 (-1)) 141 3 (-1)) 141 4 (-1)) 141 5 (-1)) 141 6 (-1)) 1 10 141)) d_X10_init_141 (by decide +kernel) ce_X9_init (Nat.le_of_ble_eq_true rfl) rfl (Nat.le_of_ble_eq_true rfl) (by decide) ⟨by decide, by decide⟩ (by decide) (k_X9_init_142 hZ ⟨rfl, rfl⟩) ?_
  rintro _ _ ⟨rfl, rfl⟩
  have hZ := kZ_X9_init_142 hZ
  show zw_V X M_X10_init 4 146 10308 1 P (141 + 3) 145 10212 [.ref 1] [.ref 142, .ref 1] (kS_X9_init_142 (zw_pR (zw_pI (zw_pI (zw_pI (zw_pI (zw_pI (zw_pI (zw_pI (zw_pR (zw_pR (kS_X4_init_138 (zw_pR (kS_X6_init_132 (zw_pI (zw_pR (kS_X6_init_126 (zw_pI (zw_pR (kS_X2_init_122 (zw_pR (kS_X1_init_65 (zw_pR (kS_X3_init_7 (zw_pR (kS_X8_init_2 S) 1 0 2)) 1 1 7)) 1 2 65)) 1 3 122) 1 4 0)) 1 5 126) 1 6 0)) 1 7 132)) 1 8 138) 1 9 140) 141 0 (-1)) 141 1 (-1)) 141 2 (-1)) 141 3 (-1)) 141 4 (-1)) 141 5 (-1)) 141 6 (-1)) 1 10 141))
  refine kx_putR (pc := 144) (o := 1) (v := 142) d_X10_init_144 lk_CutStones_71 (Or.inr ⟨rfl, rfl, rfl⟩) (by decide) ⟨by decide, by decide⟩ (by decide +kernel) (by decide) ?_
  have hZ := hZ.pR (o := 1) (j := 11) (v := 142) (by decide)
  refine zv_aload_n (pc := 147) d_X10_init_147 rfl ?_
  refine zv_bipush (pc := 148) d_X10_init_148 zc_b_96 ?_
  refine kx_newa (pc := 150) (N := 96) d_X10_init_150 (by decide) (by decide +kernel) (by decide +kernel) (by decide) (by decide) rfl hZ ⟨by decide, by decide⟩ (by decide) ?_
  have hZ := hZ.up
  refine kx_putR (pc := 152) (o := 1) (v := 147) d_X10_init_152 lk_CutStones_75 (Or.inr ⟨rfl, rfl, rfl⟩) (by decide) ⟨by decide, by decide⟩ (by decide +kernel) (by decide) ?_
  have hZ := hZ.pR (o := 1) (j := 12) (v := 147) (by decide)
  refine zv_aload_n (pc := 155) d_X10_init_155 rfl ?_
  refine kx_getR (pc := 156) (o := 1) (v := 132) d_X10_init_156 lk_CutStones_51 (by decide) ⟨by decide, by decide⟩ (by decide +kernel) rfl (by decide) ?_
  refine zv_sipush (pc := 159) d_X10_init_159 zc_s_1000 ?_
  refine zv_iconst (pc := 162) d_X10_init_162 zc_i_0 ?_
  refine zv_iconst (pc := 163) d_X10_init_163 zc_i_0 ?_
  refine zv_callV (pc := 164) (As := [.int 1000, .int 0, .int 0]) (o := 132) (st := []) (d2 := 0) (mc2 := 0) (ms2 := 0) (M2 := M_X6_setLamps) (R2 := fun r T => r = none ∧ T = zw_lamps (zw_pR (zw_pR (kS_X9_init_142 (zw_pR (zw_pI (zw_pI (zw_pI (zw_pI (zw_pI (zw_pI (zw_pI (zw_pR (zw_pR (kS_X4_init_138 (zw_pR (kS_X6_init_132 (zw_pI (zw_pR (kS_X6_init_126 (zw_pI (zw_pR (kS_X2_init_122 (zw_pR (kS_X1_init_65 (zw_pR (kS_X3_init_7 (zw_pR (kS_X8_init_2 S) 1 0 2)) 1 1 7)) 1 2 65)) 1 3 122) 1 4 0)) 1 5 126) 1 6 0)) 1 7 132)) 1 8 138) 1 9 140) 141 0 (-1)) 141 1 (-1)) 141 2 (-1)) 141 3 (-1)) 141 4 (-1)) 141 5 (-1)) 141 6 (-1)) 1 10 141)) 1 11 142) 1 12 147) 132 1000 0 0) d_X10_init_164 (zw_mG (List.mem_of_getElem? (i := 474) (by decide +kernel)) rfl) ce_X6_setLamps (Or.inl ⟨6, _, by decide, by decide, by decide +kernel, rfl, rfl⟩) (Nat.le_of_ble_eq_true rfl) rfl (Nat.le_of_ble_eq_true rfl) (by decide) ⟨by decide, by decide⟩ (by decide) (ci_lamps ⟨by decide, by decide⟩ (by decide +kernel) ⟨rfl, rfl⟩) ?_
  rintro _ _ ⟨rfl, rfl⟩
  have hZ := hZ.lamps (a := 132) (x := 1000) (y := 0) (z := 0) (by decide)
  show zw_V X M_X10_init 4 146 10308 1 P (164 + 3) 146 10308 [.ref 1] [] (zw_lamps (zw_pR (zw_pR (kS_X9_init_142 (zw_pR (zw_pI (zw_pI (zw_pI (zw_pI (zw_pI (zw_pI (zw_pI (zw_pR (zw_pR (kS_X4_init_138 (zw_pR (kS_X6_init_132 (zw_pI (zw_pR (kS_X6_init_126 (zw_pI (zw_pR (kS_X2_init_122 (zw_pR (kS_X1_init_65 (zw_pR (kS_X3_init_7 (zw_pR (kS_X8_init_2 S) 1 0 2)) 1 1 7)) 1 2 65)) 1 3 122) 1 4 0)) 1 5 126) 1 6 0)) 1 7 132)) 1 8 138) 1 9 140) 141 0 (-1)) 141 1 (-1)) 141 2 (-1)) 141 3 (-1)) 141 4 (-1)) 141 5 (-1)) 141 6 (-1)) 1 10 141)) 1 11 142) 1 12 147) 132 1000 0 0)
  refine zv_aload_n (pc := 167) d_X10_init_167 rfl ?_
  refine kx_getR (pc := 168) (o := 1) (v := 147) d_X10_init_168 lk_CutStones_75 (by decide) ⟨by decide, by decide⟩ (by decide +kernel) rfl (by decide) ?_
  refine zv_iconst (pc := 171) d_X10_init_171 zc_i_m1 ?_
  refine zv_callS (pc := 172) (As := [.ref 147, .int (-1)]) (st := []) (d2 := 0) (mc2 := 0) (ms2 := 0) (M2 := M_J7_fill_53178) (R2 := fun r T => r = none ∧ T = zw_fill (zw_lamps (zw_pR (zw_pR (kS_X9_init_142 (zw_pR (zw_pI (zw_pI (zw_pI (zw_pI (zw_pI (zw_pI (zw_pI (zw_pR (zw_pR (kS_X4_init_138 (zw_pR (kS_X6_init_132 (zw_pI (zw_pR (kS_X6_init_126 (zw_pI (zw_pR (kS_X2_init_122 (zw_pR (kS_X1_init_65 (zw_pR (kS_X3_init_7 (zw_pR (kS_X8_init_2 S) 1 0 2)) 1 1 7)) 1 2 65)) 1 3 122) 1 4 0)) 1 5 126) 1 6 0)) 1 7 132)) 1 8 138) 1 9 140) 141 0 (-1)) 141 1 (-1)) 141 2 (-1)) 141 3 (-1)) 141 4 (-1)) 141 5 (-1)) 141 6 (-1)) 1 10 141)) 1 11 142) 1 12 147) 132 1000 0 0) 147 (-1) 96) d_X10_init_172 (zw_mG (List.mem_of_getElem? (i := 478) (by decide +kernel)) rfl) ce_J7_fill_53178 (Nat.le_of_ble_eq_true rfl) rfl (Nat.le_of_ble_eq_true rfl) (by decide) ⟨by decide, by decide⟩ (by decide) (ci_fill ⟨by decide, by decide⟩ (by decide +kernel) (by decide) ⟨rfl, rfl⟩) ?_
  rintro _ _ ⟨rfl, rfl⟩
  have hZ := hZ.fill (a := 147) (v := (-1)) (len := 96) (by decide)
  show zw_V X M_X10_init 4 146 10308 1 P (172 + 3) 146 10308 [.ref 1] [] (zw_fill (zw_lamps (zw_pR (zw_pR (kS_X9_init_142 (zw_pR (zw_pI (zw_pI (zw_pI (zw_pI (zw_pI (zw_pI (zw_pI (zw_pR (zw_pR (kS_X4_init_138 (zw_pR (kS_X6_init_132 (zw_pI (zw_pR (kS_X6_init_126 (zw_pI (zw_pR (kS_X2_init_122 (zw_pR (kS_X1_init_65 (zw_pR (kS_X3_init_7 (zw_pR (kS_X8_init_2 S) 1 0 2)) 1 1 7)) 1 2 65)) 1 3 122) 1 4 0)) 1 5 126) 1 6 0)) 1 7 132)) 1 8 138) 1 9 140) 141 0 (-1)) 141 1 (-1)) 141 2 (-1)) 141 3 (-1)) 141 4 (-1)) 141 5 (-1)) 141 6 (-1)) 1 10 141)) 1 11 142) 1 12 147) 132 1000 0 0) 147 (-1) 96)
  exact zv_vret (pc := 175) d_X10_init_175 rfl rfl (Nat.le_refl _) hP
