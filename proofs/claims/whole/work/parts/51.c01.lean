def kS_X0_init_45 (S : aS) : aS := (zw_pI (zw_pI (zw_pI (zw_pI (zw_pI (zw_pI (zw_pI (zw_pR S 45 0 46) 45 1 0) 45 2 0) 45 3 0) 45 4 0) 45 5 0) 45 6 0) 45 7 0)
theorem kZ_X0_init_45 {S : aS} (hZ : zw_Z 45 S) : zw_Z 46 (kS_X0_init_45 S) := by
  unfold kS_X0_init_45
  have hZ := hZ.up
  have hZ := hZ.pR (o := 45) (j := 0) (v := 46) (by decide)
  have hZ := hZ.pI (o := 45) (j := 1) (v := 0) (by decide)
  have hZ := hZ.pI (o := 45) (j := 2) (v := 0) (by decide)
  have hZ := hZ.pI (o := 45) (j := 3) (v := 0) (by decide)
  have hZ := hZ.pI (o := 45) (j := 4) (v := 0) (by decide)
  have hZ := hZ.pI (o := 45) (j := 5) (v := 0) (by decide)
  have hZ := hZ.pI (o := 45) (j := 6) (v := 0) (by decide)
  have hZ := hZ.pI (o := 45) (j := 7) (v := 0) (by decide)
  exact hZ
theorem k_X0_init_45 {X : zw_X} {P : Option Value → aS → Prop} {S : aS} (hZ : zw_Z 45 S) (hP : P none (kS_X0_init_45 S)) : zw_C X M_X0_init 1 1 144 45 [.ref 45] S P := by
  show zw_V X M_X0_init 1 1 144 45 P 0 0 0 [.ref 45] [] S
  refine zv_aload_n (pc := 0) d_X0_init_0 rfl ?_
  refine zv_obj (pc := 1) d_X0_init_1 (zw_mG (List.mem_of_getElem? (i := 195) (by decide +kernel)) rfl) (by decide) (Nat.le_of_ble_eq_true rfl) ?_
  refine zv_aload_n (pc := 4) d_X0_init_4 rfl ?_
  refine zv_sipush (pc := 5) d_X0_init_5 zc_s_144 ?_
  refine kx_newa (pc := 8) (N := 144) d_X0_init_8 (by decide) (by decide +kernel) (by decide +kernel) (by decide) (by decide) rfl hZ ⟨by decide, by decide⟩ (by decide) ?_
  have hZ := hZ.up
  refine kx_putR (pc := 10) (o := 45) (v := 46) d_X0_init_10 lk_CutStones_Drawing_9 (Or.inr ⟨rfl, rfl, rfl⟩) (by decide) ⟨by decide, by decide⟩ (by decide +kernel) (by decide) ?_
  have hZ := hZ.pR (o := 45) (j := 0) (v := 46) (by decide)
  refine zv_aload_n (pc := 13) d_X0_init_13 rfl ?_
  refine zv_iconst (pc := 14) d_X0_init_14 zc_i_0 ?_
  refine kx_putI (pc := 15) (o := 45) (v := 0) d_X0_init_15 lk_CutStones_Drawing_15 (Or.inl rfl) ⟨by decide, by decide⟩ (by decide +kernel) ?_
  have hZ := hZ.pI (o := 45) (j := 1) (v := 0) (by decide)
  refine zv_aload_n (pc := 18) d_X0_init_18 rfl ?_
  refine zv_iconst (pc := 19) d_X0_init_19 zc_i_0 ?_
  refine kx_putI (pc := 20) (o := 45) (v := 0) d_X0_init_20 lk_CutStones_Drawing_19 (Or.inl rfl) ⟨by decide, by decide⟩ (by decide +kernel) ?_
  have hZ := hZ.pI (o := 45) (j := 2) (v := 0) (by decide)
  refine zv_aload_n (pc := 23) d_X0_init_23 rfl ?_
  refine zv_iconst (pc := 24) d_X0_init_24 zc_i_0 ?_
  refine kx_putI (pc := 25) (o := 45) (v := 0) d_X0_init_25 lk_CutStones_Drawing_22 (Or.inl rfl) ⟨by decide, by decide⟩ (by decide +kernel) ?_
  have hZ := hZ.pI (o := 45) (j := 3) (v := 0) (by decide)
  refine zv_aload_n (pc := 28) d_X0_init_28 rfl ?_
  refine zv_iconst (pc := 29) d_X0_init_29 zc_i_0 ?_
  refine kx_putI (pc := 30) (o := 45) (v := 0) d_X0_init_30 lk_CutStones_Drawing_25 (Or.inl rfl) ⟨by decide, by decide⟩ (by decide +kernel) ?_
  have hZ := hZ.pI (o := 45) (j := 4) (v := 0) (by decide)
  refine zv_aload_n (pc := 33) d_X0_init_33 rfl ?_
  refine zv_iconst (pc := 34) d_X0_init_34 zc_i_0 ?_
  refine kx_putI (pc := 35) (o := 45) (v := 0) d_X0_init_35 lk_CutStones_Drawing_28 (Or.inl rfl) ⟨by decide, by decide⟩ (by decide +kernel) ?_
  have hZ := hZ.pI (o := 45) (j := 5) (v := 0) (by decide)
  refine zv_aload_n (pc := 38) d_X0_init_38 rfl ?_
  refine zv_iconst (pc := 39) d_X0_init_39 zc_i_0 ?_
  refine kx_putI (pc := 40) (o := 45) (v := 0) d_X0_init_40 lk_CutStones_Drawing_31 (Or.inl rfl) ⟨by decide, by decide⟩ (by decide +kernel) ?_
  have hZ := hZ.pI (o := 45) (j := 6) (v := 0) (by decide)
  refine zv_aload_n (pc := 43) d_X0_init_43 rfl ?_
  refine zv_iconst (pc := 44) d_X0_init_44 zc_i_0 ?_
  refine kx_putI (pc := 45) (o := 45) (v := 0) d_X0_init_45 lk_CutStones_Drawing_34 (Or.inl rfl) ⟨by decide, by decide⟩ (by decide +kernel) ?_
  have hZ := hZ.pI (o := 45) (j := 7) (v := 0) (by decide)
  exact zv_vret (pc := 48) d_X0_init_48 rfl rfl (Nat.le_refl _) hP
def kS_X0_init_47 (S : aS) : aS := (zw_pI (zw_pI (zw_pI (zw_pI (zw_pI (zw_pI (zw_pI (zw_pR S 47 0 48) 47 1 0) 47 2 0) 47 3 0) 47 4 0) 47 5 0) 47 6 0) 47 7 0)
theorem kZ_X0_init_47 {S : aS} (hZ : zw_Z 47 S) : zw_Z 48 (kS_X0_init_47 S) := by
  unfold kS_X0_init_47
  have hZ := hZ.up
  have hZ := hZ.pR (o := 47) (j := 0) (v := 48) (by decide)
  have hZ := hZ.pI (o := 47) (j := 1) (v := 0) (by decide)
  have hZ := hZ.pI (o := 47) (j := 2) (v := 0) (by decide)
  have hZ := hZ.pI (o := 47) (j := 3) (v := 0) (by decide)
  have hZ := hZ.pI (o := 47) (j := 4) (v := 0) (by decide)
  have hZ := hZ.pI (o := 47) (j := 5) (v := 0) (by decide)
  have hZ := hZ.pI (o := 47) (j := 6) (v := 0) (by decide)
  have hZ := hZ.pI (o := 47) (j := 7) (v := 0) (by decide)
  exact hZ
theorem k_X0_init_47 {X : zw_X} {P : Option Value → aS → Prop} {S : aS} (hZ : zw_Z 47 S) (hP : P none (kS_X0_init_47 S)) : zw_C X M_X0_init 1 1 144 47 [.ref 47] S P := by
  show zw_V X M_X0_init 1 1 144 47 P 0 0 0 [.ref 47] [] S
  refine zv_aload_n (pc := 0) d_X0_init_0 rfl ?_
  refine zv_obj (pc := 1) d_X0_init_1 (zw_mG (List.mem_of_getElem? (i := 195) (by decide +kernel)) rfl) (by decide) (Nat.le_of_ble_eq_true rfl) ?_
  refine zv_aload_n (pc := 4) d_X0_init_4 rfl ?_
  refine zv_sipush (pc := 5) d_X0_init_5 zc_s_144 ?_
  refine kx_newa (pc := 8) (N := 144) d_X0_init_8 (by decide) (by decide +kernel) (by decide +kernel) (by decide) (by decide) rfl hZ ⟨by decide, by decide⟩ (by decide) ?_
  have hZ := hZ.up
  refine kx_putR (pc := 10) (o := 47) (v := 48) d_X0_init_10 lk_CutStones_Drawing_9 (Or.inr ⟨rfl, rfl, rfl⟩) (by decide) ⟨by decide, by decide⟩ (by decide +kernel) (by decide) ?_
  have hZ := hZ.pR (o := 47) (j := 0) (v := 48) (by decide)
  refine zv_aload_n (pc := 13) d_X0_init_13 rfl ?_
  refine zv_iconst (pc := 14) d_X0_init_14 zc_i_0 ?_
  refine kx_putI (pc := 15) (o := 47) (v := 0) d_X0_init_15 lk_CutStones_Drawing_15 (Or.inl rfl) ⟨by decide, by decide⟩ (by decide +kernel) ?_
  have hZ := hZ.pI (o := 47) (j := 1) (v := 0) (by decide)
  refine zv_aload_n (pc := 18) d_X0_init_18 rfl ?_
  refine zv_iconst (pc := 19) d_X0_init_19 zc_i_0 ?_
  refine kx_putI (pc := 20) (o := 47) (v := 0) d_X0_init_20 lk_CutStones_Drawing_19 (Or.inl rfl) ⟨by decide, by decide⟩ (by decide +kernel) ?_
  have hZ := hZ.pI (o := 47) (j := 2) (v := 0) (by decide)
  refine zv_aload_n (pc := 23) d_X0_init_23 rfl ?_
  refine zv_iconst (pc := 24) d_X0_init_24 zc_i_0 ?_
  refine kx_putI (pc := 25) (o := 47) (v := 0) d_X0_init_25 lk_CutStones_Drawing_22 (Or.inl rfl) ⟨by decide, by decide⟩ (by decide +kernel) ?_
  have hZ := hZ.pI (o := 47) (j := 3) (v := 0) (by decide)
  refine zv_aload_n (pc := 28) d_X0_init_28 rfl ?_
  refine zv_iconst (pc := 29) d_X0_init_29 zc_i_0 ?_
  refine kx_putI (pc := 30) (o := 47) (v := 0) d_X0_init_30 lk_CutStones_Drawing_25 (Or.inl rfl) ⟨by decide, by decide⟩ (by decide +kernel) ?_
  have hZ := hZ.pI (o := 47) (j := 4) (v := 0) (by decide)
  refine zv_aload_n (pc := 33) d_X0_init_33 rfl ?_
  refine zv_iconst (pc := 34) d_X0_init_34 zc_i_0 ?_
  refine kx_putI (pc := 35) (o := 47) (v := 0) d_X0_init_35 lk_CutStones_Drawing_28 (Or.inl rfl) ⟨by decide, by decide⟩ (by decide +kernel) ?_
  have hZ := hZ.pI (o := 47) (j := 5) (v := 0) (by decide)
  refine zv_aload_n (pc := 38) d_X0_init_38 rfl ?_
  refine zv_iconst (pc := 39) d_X0_init_39 zc_i_0 ?_
  refine kx_putI (pc := 40) (o := 47) (v := 0) d_X0_init_40 lk_CutStones_Drawing_31 (Or.inl rfl) ⟨by decide, by decide⟩ (by decide +kernel) ?_
  have hZ := hZ.pI (o := 47) (j := 6) (v := 0) (by decide)
  refine zv_aload_n (pc := 43) d_X0_init_43 rfl ?_
  refine zv_iconst (pc := 44) d_X0_init_44 zc_i_0 ?_
  refine kx_putI (pc := 45) (o := 47) (v := 0) d_X0_init_45 lk_CutStones_Drawing_34 (Or.inl rfl) ⟨by decide, by decide⟩ (by decide +kernel) ?_
  have hZ := hZ.pI (o := 47) (j := 7) (v := 0) (by decide)
  exact zv_vret (pc := 48) d_X0_init_48 rfl rfl (Nat.le_refl _) hP
abbrev M_X5_init : zw_M := (⟨"CutStones$Rule", "<init>", "()V"⟩, prog_7_method_1_code, 1, (Option.none : Option Jvm.ClassFile.FieldType))
theorem d_X5_init_0 : decode M_X5_init.2.1 0 = .ok (.aload_n 0, 1) := by decide +kernel
theorem d_X5_init_1 : decode M_X5_init.2.1 1 = .ok (.invokespecial 1, 3) := by decide +kernel
theorem d_X5_init_4 : decode M_X5_init.2.1 4 = .ok (.aload_n 0, 1) := by decide +kernel
theorem d_X5_init_5 : decode M_X5_init.2.1 5 = .ok (.iconst 0, 1) := by decide +kernel
theorem d_X5_init_6 : decode M_X5_init.2.1 6 = .ok (.putfield 7, 3) := by decide +kernel
theorem d_X5_init_9 : decode M_X5_init.2.1 9 = .ok (.aload_n 0, 1) := by decide +kernel
theorem d_X5_init_10 : decode M_X5_init.2.1 10 = .ok (.iconst 0, 1) := by decide +kernel
theorem d_X5_init_11 : decode M_X5_init.2.1 11 = .ok (.putfield 13, 3) := by decide +kernel
theorem d_X5_init_14 : decode M_X5_init.2.1 14 = .ok (.aload_n 0, 1) := by decide +kernel
theorem d_X5_init_15 : decode M_X5_init.2.1 15 = .ok (.iconst 0, 1) := by decide +kernel
theorem d_X5_init_16 : decode M_X5_init.2.1 16 = .ok (.putfield 16, 3) := by decide +kernel
theorem d_X5_init_19 : decode M_X5_init.2.1 19 = .ok (.return_, 1) := by decide +kernel
theorem ce_X5_init : zw_CeI M_X5_init 0 := ⟨⟨⟨by decide +kernel, by decide +kernel, by decide +kernel⟩, (zw_mG (List.mem_of_getElem? (i := 237) (by decide +kernel)) rfl), (zw_mG (List.mem_of_getElem? (i := 102) (by decide +kernel)) rfl), by decide, by decide +kernel⟩, (zw_mG (List.mem_of_getElem? (i := 236) (by decide +kernel)) rfl), rfl, rfl⟩
def kS_X5_init_49 (S : aS) : aS := (zw_pI (zw_pI (zw_pI S 49 0 0) 49 1 0) 49 2 0)
theorem kZ_X5_init_49 {S : aS} (hZ : zw_Z 49 S) : zw_Z 49 (kS_X5_init_49 S) := by
  unfold kS_X5_init_49
  have hZ := hZ.pI (o := 49) (j := 0) (v := 0) (by decide)
  have hZ := hZ.pI (o := 49) (j := 1) (v := 0) (by decide)
  have hZ := hZ.pI (o := 49) (j := 2) (v := 0) (by decide)
  exact hZ
theorem k_X5_init_49 {X : zw_X} {P : Option Value → aS → Prop} {S : aS} (hZ : zw_Z 49 S) (hP : P none (kS_X5_init_49 S)) : zw_C X M_X5_init 1 0 0 49 [.ref 49] S P := by
  show zw_V X M_X5_init 1 0 0 49 P 0 0 0 [.ref 49] [] S
  refine zv_aload_n (pc := 0) d_X5_init_0 rfl ?_
  refine zv_obj (pc := 1) d_X5_init_1 (zw_mG (List.mem_of_getElem? (i := 238) (by decide +kernel)) rfl) (by decide) (Nat.le_of_ble_eq_true rfl) ?_
  refine zv_aload_n (pc := 4) d_X5_init_4 rfl ?_
  refine zv_iconst (pc := 5) d_X5_init_5 zc_i_0 ?_
  refine kx_putI (pc := 6) (o := 49) (v := 0) d_X5_init_6 lk_CutStones_Rule_7 (Or.inl rfl) ⟨by decide, by decide⟩ (by decide +kernel) ?_
  have hZ := hZ.pI (o := 49) (j := 0) (v := 0) (by decide)
  refine zv_aload_n (pc := 9) d_X5_init_9 rfl ?_
  refine zv_iconst (pc := 10) d_X5_init_10 zc_i_0 ?_
  refine kx_putI (pc := 11) (o := 49) (v := 0) d_X5_init_11 lk_CutStones_Rule_13 (Or.inl rfl) ⟨by decide, by decide⟩ (by decide +kernel) ?_
  have hZ := hZ.pI (o := 49) (j := 1) (v := 0) (by decide)
  refine zv_aload_n (pc := 14) d_X5_init_14 rfl ?_
  refine zv_iconst (pc := 15) d_X5_init_15 zc_i_0 ?_
  refine kx_putI (pc := 16) (o := 49) (v := 0) d_X5_init_16 lk_CutStones_Rule_16 (Or.inl rfl) ⟨by decide, by decide⟩ (by decide +kernel) ?_
  have hZ := hZ.pI (o := 49) (j := 2) (v := 0) (by decide)
  exact zv_vret (pc := 19) d_X5_init_19 rfl rfl (Nat.le_refl _) hP
def kS_X5_init_50 (S : aS) : aS := (zw_pI (zw_pI (zw_pI S 50 0 0) 50 1 0) 50 2 0)
theorem kZ_X5_init_50 {S : aS} (hZ : zw_Z 50 S) : zw_Z 50 (kS_X5_init_50 S) := by
  unfold kS_X5_init_50
  have hZ := hZ.pI (o := 50) (j := 0) (v := 0) (by decide)
  have hZ := hZ.pI (o := 50) (j := 1) (v := 0) (by decide)
  have hZ := hZ.pI (o := 50) (j := 2) (v := 0) (by decide)
  exact hZ
theorem k_X5_init_50 {X : zw_X} {P : Option Value → aS → Prop} {S : aS} (hZ : zw_Z 50 S) (hP : P none (kS_X5_init_50 S)) : zw_C X M_X5_init 1 0 0 50 [.ref 50] S P := by
  show zw_V X M_X5_init 1 0 0 50 P 0 0 0 [.ref 50] [] S
  refine zv_aload_n (pc := 0) d_X5_init_0 rfl ?_
  refine zv_obj (pc := 1) d_X5_init_1 (zw_mG (List.mem_of_getElem? (i := 238) (by decide +kernel)) rfl) (by decide) (Nat.le_of_ble_eq_true rfl) ?_
  refine zv_aload_n (pc := 4) d_X5_init_4 rfl ?_
  refine zv_iconst (pc := 5) d_X5_init_5 zc_i_0 ?_
  refine kx_putI (pc := 6) (o := 50) (v := 0) d_X5_init_6 lk_CutStones_Rule_7 (Or.inl rfl) ⟨by decide, by decide⟩ (by decide +kernel) ?_
  have hZ := hZ.pI (o := 50) (j := 0) (v := 0) (by decide)
  refine zv_aload_n (pc := 9) d_X5_init_9 rfl ?_
  refine zv_iconst (pc := 10) d_X5_init_10 zc_i_0 ?_
  refine kx_putI (pc := 11) (o := 50) (v := 0) d_X5_init_11 lk_CutStones_Rule_13 (Or.inl rfl) ⟨by decide, by decide⟩ (by decide +kernel) ?_
  have hZ := hZ.pI (o := 50) (j := 1) (v := 0) (by decide)
  refine zv_aload_n (pc := 14) d_X5_init_14 rfl ?_
  refine zv_iconst (pc := 15) d_X5_init_15 zc_i_0 ?_
  refine kx_putI (pc := 16) (o := 50) (v := 0) d_X5_init_16 lk_CutStones_Rule_16 (Or.inl rfl) ⟨by decide, by decide⟩ (by decide +kernel) ?_
  have hZ := hZ.pI (o := 50) (j := 2) (v := 0) (by decide)
  exact zv_vret (pc := 19) d_X5_init_19 rfl rfl (Nat.le_refl _) hP
def kS_X5_init_51 (S : aS) : aS := (zw_pI (zw_pI (zw_pI S 51 0 0) 51 1 0) 51 2 0)
theorem kZ_X5_init_51 {S : aS} (hZ : zw_Z 51 S) : zw_Z 51 (kS_X5_init_51 S) := by
  unfold kS_X5_init_51
  have hZ := hZ.pI (o := 51) (j := 0) (v := 0) (by decide)
  have hZ := hZ.pI (o := 51) (j := 1) (v := 0) (by decide)
  have hZ := hZ.pI (o := 51) (j := 2) (v := 0) (by decide)
  exact hZ
theorem k_X5_init_51 {X : zw_X} {P : Option Value → aS → Prop} {S : aS} (hZ : zw_Z 51 S) (hP : P none (kS_X5_init_51 S)) : zw_C X M_X5_init 1 0 0 51 [.ref 51] S P := by
  show zw_V X M_X5_init 1 0 0 51 P 0 0 0 [.ref 51] [] S
  refine zv_aload_n (pc := 0) d_X5_init_0 rfl ?_
  refine zv_obj (pc := 1) d_X5_init_1 (zw_mG (List.mem_of_getElem? (i := 238) (by decide +kernel)) rfl) (by decide) (Nat.le_of_ble_eq_true rfl) ?_
  refine zv_aload_n (pc := 4) d_X5_init_4 rfl ?_
  refine zv_iconst (pc := 5) d_X5_init_5 zc_i_0 ?_
  refine kx_putI (pc := 6) (o := 51) (v := 0) d_X5_init_6 lk_CutStones_Rule_7 (Or.inl rfl) ⟨by decide, by decide⟩ (by decide +kernel) ?_
  have hZ := hZ.pI (o := 51) (j := 0) (v := 0) (by decide)
  refine zv_aload_n (pc := 9) d_X5_init_9 rfl ?_
  refine zv_iconst (pc := 10) d_X5_init_10 zc_i_0 ?_
  refine kx_putI (pc := 11) (o := 51) (v := 0) d_X5_init_11 lk_CutStones_Rule_13 (Or.inl rfl) ⟨by decide, by decide⟩ (by decide +kernel) ?_
  have hZ := hZ.pI (o := 51) (j := 1) (v := 0) (by decide)
  refine zv_aload_n (pc := 14) d_X5_init_14 rfl ?_
  refine zv_iconst (pc := 15) d_X5_init_15 zc_i_0 ?_
  refine kx_putI (pc := 16) (o := 51) (v := 0) d_X5_init_16 lk_CutStones_Rule_16 (Or.inl rfl) ⟨by decide, by decide⟩ (by decide +kernel) ?_
  have hZ := hZ.pI (o := 51) (j := 2) (v := 0) (by decide)
  exact zv_vret (pc := 19) d_X5_init_19 rfl rfl (Nat.le_refl _) hP
def kS_X5_init_52 (S : aS) : aS := (zw_pI (zw_pI (zw_pI S 52 0 0) 52 1 0) 52 2 0)
theorem kZ_X5_init_52 {S : aS} (hZ : zw_Z 52 S) : zw_Z 52 (kS_X5_init_52 S) := by
  unfold kS_X5_init_52
  have hZ := hZ.pI (o := 52) (j := 0) (v := 0) (by decide)
  have hZ := hZ.pI (o := 52) (j := 1) (v := 0) (by decide)
  have hZ := hZ.pI (o := 52) (j := 2) (v := 0) (by decide)
  exact hZ
theorem k_X5_init_52 {X : zw_X} {P : Option Value → aS → Prop} {S : aS} (hZ : zw_Z 52 S) (hP : P none (kS_X5_init_52 S)) : zw_C X M_X5_init 1 0 0 52 [.ref 52] S P := by
  show zw_V X M_X5_init 1 0 0 52 P 0 0 0 [.ref 52] [] S
  refine zv_aload_n (pc := 0) d_X5_init_0 rfl ?_
  refine zv_obj (pc := 1) d_X5_init_1 (zw_mG (List.mem_of_getElem? (i := 238) (by decide +kernel)) rfl) (by decide) (Nat.le_of_ble_eq_true rfl) ?_
  refine zv_aload_n (pc := 4) d_X5_init_4 rfl ?_
  refine zv_iconst (pc := 5) d_X5_init_5 zc_i_0 ?_
  refine kx_putI (pc := 6) (o := 52) (v := 0) d_X5_init_6 lk_CutStones_Rule_7 (Or.inl rfl) ⟨by decide, by decide⟩ (by decide +kernel) ?_
  have hZ := hZ.pI (o := 52) (j := 0) (v := 0) (by decide)
  refine zv_aload_n (pc := 9) d_X5_init_9 rfl ?_
  refine zv_iconst (pc := 10) d_X5_init_10 zc_i_0 ?_
  refine kx_putI (pc := 11) (o := 52) (v := 0) d_X5_init_11 lk_CutStones_Rule_13 (Or.inl rfl) ⟨by decide, by decide⟩ (by decide +kernel) ?_
  have hZ := hZ.pI (o := 52) (j := 1) (v := 0) (by decide)
  refine zv_aload_n (pc := 14) d_X5_init_14 rfl ?_
  refine zv_iconst (pc := 15) d_X5_init_15 zc_i_0 ?_
  refine kx_putI (pc := 16) (o := 52) (v := 0) d_X5_init_16 lk_CutStones_Rule_16 (Or.inl rfl) ⟨by decide, by decide⟩ (by decide +kernel) ?_
  have hZ := hZ.pI (o := 52) (j := 2) (v := 0) (by decide)
  exact zv_vret (pc := 19) d_X5_init_19 rfl rfl (Nat.le_refl _) hP
def kS_X5_init_53 (S : aS) : aS := (zw_pI (zw_pI (zw_pI S 53 0 0) 53 1 0) 53 2 0)
theorem kZ_X5_init_53 {S : aS} (hZ : zw_Z 53 S) : zw_Z 53 (kS_X5_init_53 S) := by
  unfold kS_X5_init_53
  have hZ := hZ.pI (o := 53) (j := 0) (v := 0) (by decide)
  have hZ := hZ.pI (o := 53) (j := 1) (v := 0) (by decide)
  have hZ := hZ.pI (o := 53) (j := 2) (v := 0) (by decide)
  exact hZ
theorem k_X5_init_53 {X : zw_X} {P : Option Value → aS → Prop} {S : aS} (hZ : zw_Z 53 S) (hP : P none (kS_X5_init_53 S)) : zw_C X M_X5_init 1 0 0 53 [.ref 53] S P := by
  show zw_V X M_X5_init 1 0 0 53 P 0 0 0 [.ref 53] [] S
  refine zv_aload_n (pc := 0) d_X5_init_0 rfl ?_
  refine zv_obj (pc := 1) d_X5_init_1 (zw_mG (List.mem_of_getElem? (i := 238) (by decide +kernel)) rfl) (by decide) (Nat.le_of_ble_eq_true rfl) ?_
  refine zv_aload_n (pc := 4) d_X5_init_4 rfl ?_
  refine zv_iconst (pc := 5) d_X5_init_5 zc_i_0 ?_
  refine kx_putI (pc := 6) (o := 53) (v := 0) d_X5_init_6 lk_CutStones_Rule_7 (Or.inl rfl) ⟨by decide, by decide⟩ (by decide +kernel) ?_
  have hZ := hZ.pI (o := 53) (j := 0) (v := 0) (by decide)
  refine zv_aload_n (pc := 9) d_X5_init_9 rfl ?_
  refine zv_iconst (pc := 10) d_X5_init_10 zc_i_0 ?_
  refine kx_putI (pc := 11) (o := 53) (v := 0) d_X5_init_11 lk_CutStones_Rule_13 (Or.inl rfl) ⟨by decide, by decide⟩ (by decide +kernel) ?_
  have hZ := hZ.pI (o := 53) (j := 1) (v := 0) (by decide)
  refine zv_aload_n (pc := 14) d_X5_init_14 rfl ?_
  refine zv_iconst (pc := 15) d_X5_init_15 zc_i_0 ?_
  refine kx_putI (pc := 16) (o := 53) (v := 0) d_X5_init_16 lk_CutStones_Rule_16 (Or.inl rfl) ⟨by decide, by decide⟩ (by decide +kernel) ?_
  have hZ := hZ.pI (o := 53) (j := 2) (v := 0) (by decide)
  exact zv_vret (pc := 19) d_X5_init_19 rfl rfl (Nat.le_refl _) hP
def kS_X5_init_54 (S : aS) : aS := (zw_pI (zw_pI (zw_pI S 54 0 0) 54 1 0) 54 2 0)
theorem kZ_X5_init_54 {S : aS} (hZ : zw_Z 54 S) : zw_Z 54 (kS_X5_init_54 S) := by
  unfold kS_X5_init_54
  have hZ := hZ.pI (o := 54) (j := 0) (v := 0) (by decide)
  have hZ := hZ.pI (o := 54) (j := 1) (v := 0) (by decide)
  have hZ := hZ.pI (o := 54) (j := 2) (v := 0) (by decide)
  exact hZ
theorem k_X5_init_54 {X : zw_X} {P : Option Value → aS → Prop} {S : aS} (hZ : zw_Z 54 S) (hP : P none (kS_X5_init_54 S)) : zw_C X M_X5_init 1 0 0 54 [.ref 54] S P := by
  show zw_V X M_X5_init 1 0 0 54 P 0 0 0 [.ref 54] [] S
  refine zv_aload_n (pc := 0) d_X5_init_0 rfl ?_
  refine zv_obj (pc := 1) d_X5_init_1 (zw_mG (List.mem_of_getElem? (i := 238) (by decide +kernel)) rfl) (by decide) (Nat.le_of_ble_eq_true rfl) ?_
  refine zv_aload_n (pc := 4) d_X5_init_4 rfl ?_
  refine zv_iconst (pc := 5) d_X5_init_5 zc_i_0 ?_
  refine kx_putI (pc := 6) (o := 54) (v := 0) d_X5_init_6 lk_CutStones_Rule_7 (Or.inl rfl) ⟨by decide, by decide⟩ (by decide +kernel) ?_
  have hZ := hZ.pI (o := 54) (j := 0) (v := 0) (by decide)
  refine zv_aload_n (pc := 9) d_X5_init_9 rfl ?_
  refine zv_iconst (pc := 10) d_X5_init_10 zc_i_0 ?_
  refine kx_putI (pc := 11) (o := 54) (v := 0) d_X5_init_11 lk_CutStones_Rule_13 (Or.inl rfl) ⟨by decide, by decide⟩ (by decide +kernel) ?_
  have hZ := hZ.pI (o := 54) (j := 1) (v := 0) (by decide)
  refine zv_aload_n (pc := 14) d_X5_init_14 rfl ?_
  refine zv_iconst (pc := 15) d_X5_init_15 zc_i_0 ?_
  refine kx_putI (pc := 16) (o := 54) (v := 0) d_X5_init_16 lk_CutStones_Rule_16 (Or.inl rfl) ⟨by decide, by decide⟩ (by decide +kernel) ?_
  have hZ := hZ.pI (o := 54) (j := 2) (v := 0) (by decide)
  exact zv_vret (pc := 19) d_X5_init_19 rfl rfl (Nat.le_refl _) hP
def kS_X5_init_55 (S : aS) : aS := (zw_pI (zw_pI (zw_pI S 55 0 0) 55 1 0) 55 2 0)
theorem kZ_X5_init_55 {S : aS} (hZ : zw_Z 55 S) : zw_Z 55 (kS_X5_init_55 S) := by
  unfold kS_X5_init_55
  have hZ := hZ.pI (o := 55) (j := 0) (v := 0) (by decide)
  have hZ := hZ.pI (o := 55) (j := 1) (v := 0) (by decide)
  have hZ := hZ.pI (o := 55) (j := 2) (v := 0) (by decide)
  exact hZ
theorem k_X5_init_55 {X : zw_X} {P : Option Value → aS → Prop} {S : aS} (hZ : zw_Z 55 S) (hP : P none (kS_X5_init_55 S)) : zw_C X M_X5_init 1 0 0 55 [.ref 55] S P := by
  show zw_V X M_X5_init 1 0 0 55 P 0 0 0 [.ref 55] [] S
  refine zv_aload_n (pc := 0) d_X5_init_0 rfl ?_
  refine zv_obj (pc := 1) d_X5_init_1 (zw_mG (List.mem_of_getElem? (i := 238) (by decide +kernel)) rfl) (by decide) (Nat.le_of_ble_eq_true rfl) ?_
  refine zv_aload_n (pc := 4) d_X5_init_4 rfl ?_
  refine zv_iconst (pc := 5) d_X5_init_5 zc_i_0 ?_
  refine kx_putI (pc := 6) (o := 55) (v := 0) d_X5_init_6 lk_CutStones_Rule_7 (Or.inl rfl) ⟨by decide, by decide⟩ (by decide +kernel) ?_
  have hZ := hZ.pI (o := 55) (j := 0) (v := 0) (by decide)
  refine zv_aload_n (pc := 9) d_X5_init_9 rfl ?_
  refine zv_iconst (pc := 10) d_X5_init_10 zc_i_0 ?_
  refine kx_putI (pc := 11) (o := 55) (v := 0) d_X5_init_11 lk_CutStones_Rule_13 (Or.inl rfl) ⟨by decide, by decide⟩ (by decide +kernel) ?_
  have hZ := hZ.pI (o := 55) (j := 1) (v := 0) (by decide)
  refine zv_aload_n (pc := 14) d_X5_init_14 rfl ?_
  refine zv_iconst (pc := 15) d_X5_init_15 zc_i_0 ?_
  refine kx_putI (pc := 16) (o := 55) (v := 0) d_X5_init_16 lk_CutStones_Rule_16 (Or.inl rfl) ⟨by decide, by decide⟩ (by decide +kernel) ?_
  have hZ := hZ.pI (o := 55) (j := 2) (v := 0) (by decide)
  exact zv_vret (pc := 19) d_X5_init_19 rfl rfl (Nat.le_refl _) hP
def kS_X5_init_56 (S : aS) : aS := (zw_pI (zw_pI (zw_pI S 56 0 0) 56 1 0) 56 2 0)
theorem kZ_X5_init_56 {S : aS} (hZ : zw_Z 56 S) : zw_Z 56 (kS_X5_init_56 S) := by
  unfold kS_X5_init_56
  have hZ := hZ.pI (o := 56) (j := 0) (v := 0) (by decide)
  have hZ := hZ.pI (o := 56) (j := 1) (v := 0) (by decide)
  have hZ := hZ.pI (o := 56) (j := 2) (v := 0) (by decide)
  exact hZ
theorem k_X5_init_56 {X : zw_X} {P : Option Value → aS → Prop} {S : aS} (hZ : zw_Z 56 S) (hP : P none (kS_X5_init_56 S)) : zw_C X M_X5_init 1 0 0 56 [.ref 56] S P := by
  show zw_V X M_X5_init 1 0 0 56 P 0 0 0 [.ref 56] [] S
  refine zv_aload_n (pc := 0) d_X5_init_0 rfl ?_
  refine zv_obj (pc := 1) d_X5_init_1 (zw_mG (List.mem_of_getElem? (i := 238) (by decide +kernel)) rfl) (by decide) (Nat.le_of_ble_eq_true rfl) ?_
  refine zv_aload_n (pc := 4) d_X5_init_4 rfl ?_
  refine zv_iconst (pc := 5) d_X5_init_5 zc_i_0 ?_
  refine kx_putI (pc := 6) (o := 56) (v := 0) d_X5_init_6 lk_CutStones_Rule_7 (Or.inl rfl) ⟨by decide, by decide⟩ (by decide +kernel) ?_
  have hZ := hZ.pI (o := 56) (j := 0) (v := 0) (by decide)
  refine zv_aload_n (pc := 9) d_X5_init_9 rfl ?_
  refine zv_iconst (pc := 10) d_X5_init_10 zc_i_0 ?_
  refine kx_putI (pc := 11) (o := 56) (v := 0) d_X5_init_11 lk_CutStones_Rule_13 (Or.inl rfl) ⟨by decide, by decide⟩ (by decide +kernel) ?_
  have hZ := hZ.pI (o := 56) (j := 1) (v := 0) (by decide)
  refine zv_aload_n (pc := 14) d_X5_init_14 rfl ?_
  refine zv_iconst (pc := 15) d_X5_init_15 zc_i_0 ?_
  refine kx_putI (pc := 16) (o := 56) (v := 0) d_X5_init_16 lk_CutStones_Rule_16 (Or.inl rfl) ⟨by decide, by decide⟩ (by decide +kernel) ?_
  have hZ := hZ.pI (o := 56) (j := 2) (v := 0) (by decide)
  exact zv_vret (pc := 19) d_X5_init_19 rfl rfl (Nat.le_refl _) hP
def kS_X5_init_57 (S : aS) : aS := (zw_pI (zw_pI (zw_pI S 57 0 0) 57 1 0) 57 2 0)
theorem kZ_X5_init_57 {S : aS} (hZ : zw_Z 57 S) : zw_Z 57 (kS_X5_init_57 S) := by
  unfold kS_X5_init_57
  have hZ := hZ.pI (o := 57) (j := 0) (v := 0) (by decide)
  have hZ := hZ.pI (o := 57) (j := 1) (v := 0) (by decide)
  have hZ := hZ.pI (o := 57) (j := 2) (v := 0) (by decide)
  exact hZ
theorem k_X5_init_57 {X : zw_X} {P : Option Value → aS → Prop} {S : aS} (hZ : zw_Z 57 S) (hP : P none (kS_X5_init_57 S)) : zw_C X M_X5_init 1 0 0 57 [.ref 57] S P := by
  show zw_V X M_X5_init 1 0 0 57 P 0 0 0 [.ref 57] [] S
  refine zv_aload_n (pc := 0) d_X5_init_0 rfl ?_
  refine zv_obj (pc := 1) d_X5_init_1 (zw_mG (List.mem_of_getElem? (i := 238) (by decide +kernel)) rfl) (by decide) (Nat.le_of_ble_eq_true rfl) ?_
  refine zv_aload_n (pc := 4) d_X5_init_4 rfl ?_
  refine zv_iconst (pc := 5) d_X5_init_5 zc_i_0 ?_
  refine kx_putI (pc := 6) (o := 57) (v := 0) d_X5_init_6 lk_CutStones_Rule_7 (Or.inl rfl) ⟨by decide, by decide⟩ (by decide +kernel) ?_
  have hZ := hZ.pI (o := 57) (j := 0) (v := 0) (by decide)
  refine zv_aload_n (pc := 9) d_X5_init_9 rfl ?_
  refine zv_iconst (pc := 10) d_X5_init_10 zc_i_0 ?_
  refine kx_putI (pc := 11) (o := 57) (v := 0) d_X5_init_11 lk_CutStones_Rule_13 (Or.inl rfl) ⟨by decide, by decide⟩ (by decide +kernel) ?_
  have hZ := hZ.pI (o := 57) (j := 1) (v := 0) (by decide)
  refine zv_aload_n (pc := 14) d_X5_init_14 rfl ?_
  refine zv_iconst (pc := 15) d_X5_init_15 zc_i_0 ?_
  refine kx_putI (pc := 16) (o := 57) (v := 0) d_X5_init_16 lk_CutStones_Rule_16 (Or.inl rfl) ⟨by decide, by decide⟩ (by decide +kernel) ?_
  have hZ := hZ.pI (o := 57) (j := 2) (v := 0) (by decide)
  exact zv_vret (pc := 19) d_X5_init_19 rfl rfl (Nat.le_refl _) hP
def kS_X5_init_58 (S : aS) : aS := (zw_pI (zw_pI (zw_pI S 58 0 0) 58 1 0) 58 2 0)
theorem kZ_X5_init_58 {S : aS} (hZ : zw_Z 58 S) : zw_Z 58 (kS_X5_init_58 S) := by
  unfold kS_X5_init_58
  have hZ := hZ.pI (o := 58) (j := 0) (v := 0) (by decide)
  have hZ := hZ.pI (o := 58) (j := 1) (v := 0) (by decide)
  have hZ := hZ.pI (o := 58) (j := 2) (v := 0) (by decide)
  exact hZ
theorem k_X5_init_58 {X : zw_X} {P : Option Value → aS → Prop} {S : aS} (hZ : zw_Z 58 S) (hP : P none (kS_X5_init_58 S)) : zw_C X M_X5_init 1 0 0 58 [.ref 58] S P := by
  show zw_V X M_X5_init 1 0 0 58 P 0 0 0 [.ref 58] [] S
  refine zv_aload_n (pc := 0) d_X5_init_0 rfl ?_
  refine zv_obj (pc := 1) d_X5_init_1 (zw_mG (List.mem_of_getElem? (i := 238) (by decide +kernel)) rfl) (by decide) (Nat.le_of_ble_eq_true rfl) ?_
  refine zv_aload_n (pc := 4) d_X5_init_4 rfl ?_
  refine zv_iconst (pc := 5) d_X5_init_5 zc_i_0 ?_
  refine kx_putI (pc := 6) (o := 58) (v := 0) d_X5_init_6 lk_CutStones_Rule_7 (Or.inl rfl) ⟨by decide, by decide⟩ (by decide +kernel) ?_
  have hZ := hZ.pI (o := 58) (j := 0) (v := 0) (by decide)
  refine zv_aload_n (pc := 9) d_X5_init_9 rfl ?_
  refine zv_iconst (pc := 10) d_X5_init_10 zc_i_0 ?_
  refine kx_putI (pc := 11) (o := 58) (v := 0) d_X5_init_11 lk_CutStones_Rule_13 (Or.inl rfl) ⟨by decide, by decide⟩ (by decide +kernel) ?_
  have hZ := hZ.pI (o := 58) (j := 1) (v := 0) (by decide)
  refine zv_aload_n (pc := 14) d_X5_init_14 rfl ?_
  refine zv_iconst (pc := 15) d_X5_init_15 zc_i_0 ?_
  refine kx_putI (pc := 16) (o := 58) (v := 0) d_X5_init_16 lk_CutStones_Rule_16 (Or.inl rfl) ⟨by decide, by decide⟩ (by decide +kernel) ?_
  have hZ := hZ.pI (o := 58) (j := 2) (v := 0) (by decide)
  exact zv_vret (pc := 19) d_X5_init_19 rfl rfl (Nat.le_refl _) hP
def kS_X5_init_59 (S : aS) : aS := (zw_pI (zw_pI (zw_pI S 59 0 0) 59 1 0) 59 2 0)
theorem kZ_X5_init_59 {S : aS} (hZ : zw_Z 59 S) : zw_Z 59 (kS_X5_init_59 S) := by
  unfold kS_X5_init_59
  have hZ := hZ.pI (o := 59) (j := 0) (v := 0) (by decide)
  have hZ := hZ.pI (o := 59) (j := 1) (v := 0) (by decide)
  have hZ := hZ.pI (o := 59) (j := 2) (v := 0) (by decide)
  exact hZ
theorem k_X5_init_59 {X : zw_X} {P : Option Value → aS → Prop} {S : aS} (hZ : zw_Z 59 S) (hP : P none (kS_X5_init_59 S)) : zw_C X M_X5_init 1 0 0 59 [.ref 59] S P := by
  show zw_V X M_X5_init 1 0 0 59 P 0 0 0 [.ref 59] [] S
  refine zv_aload_n (pc := 0) d_X5_init_0 rfl ?_
  refine zv_obj (pc := 1) d_X5_init_1 (zw_mG (List.mem_of_getElem? (i := 238) (by decide +kernel)) rfl) (by decide) (Nat.le_of_ble_eq_true rfl) ?_
  refine zv_aload_n (pc := 4) d_X5_init_4 rfl ?_
  refine zv_iconst (pc := 5) d_X5_init_5 zc_i_0 ?_
  refine kx_putI (pc := 6) (o := 59) (v := 0) d_X5_init_6 lk_CutStones_Rule_7 (Or.inl rfl) ⟨by decide, by decide⟩ (by decide +kernel) ?_
  have hZ := hZ.pI (o := 59) (j := 0) (v := 0) (by decide)
  refine zv_aload_n (pc := 9) d_X5_init_9 rfl ?_
  refine zv_iconst (pc := 10) d_X5_init_10 zc_i_0 ?_
  refine kx_putI (pc := 11) (o := 59) (v := 0) d_X5_init_11 lk_CutStones_Rule_13 (Or.inl rfl) ⟨by decide, by decide⟩ (by decide +kernel) ?_
  have hZ := hZ.pI (o := 59) (j := 1) (v := 0) (by decide)
  refine zv_aload_n (pc := 14) d_X5_init_14 rfl ?_
  refine zv_iconst (pc := 15) d_X5_init_15 zc_i_0 ?_
  refine kx_putI (pc := 16) (o := 59) (v := 0) d_X5_init_16 lk_CutStones_Rule_16 (Or.inl rfl) ⟨by decide, by decide⟩ (by decide +kernel) ?_
  have hZ := hZ.pI (o := 59) (j := 2) (v := 0) (by decide)
  exact zv_vret (pc := 19) d_X5_init_19 rfl rfl (Nat.le_refl _) hP
def kS_X5_init_60 (S : aS) : aS := (zw_pI (zw_pI (zw_pI S 60 0 0) 60 1 0) 60 2 0)
theorem kZ_X5_init_60 {S : aS} (hZ : zw_Z 60 S) : zw_Z 60 (kS_X5_init_60 S) := by
  unfold kS_X5_init_60
  have hZ := hZ.pI (o := 60) (j := 0) (v := 0) (by decide)
  have hZ := hZ.pI (o := 60) (j := 1) (v := 0) (by decide)
  have hZ := hZ.pI (o := 60) (j := 2) (v := 0) (by decide)
  exact hZ
theorem k_X5_init_60 {X : zw_X} {P : Option Value → aS → Prop} {S : aS} (hZ : zw_Z 60 S) (hP : P none (kS_X5_init_60 S)) : zw_C X M_X5_init 1 0 0 60 [.ref 60] S P := by
  show zw_V X M_X5_init 1 0 0 60 P 0 0 0 [.ref 60] [] S
  refine zv_aload_n (pc := 0) d_X5_init_0 rfl ?_
  refine zv_obj (pc := 1) d_X5_init_1 (zw_mG (List.mem_of_getElem? (i := 238) (by decide +kernel)) rfl) (by decide) (Nat.le_of_ble_eq_true rfl) ?_
  refine zv_aload_n (pc := 4) d_X5_init_4 rfl ?_
  refine zv_iconst (pc := 5) d_X5_init_5 zc_i_0 ?_
  refine kx_putI (pc := 6) (o := 60) (v := 0) d_X5_init_6 lk_CutStones_Rule_7 (Or.inl rfl) ⟨by decide, by decide⟩ (by decide +kernel) ?_
  have hZ := hZ.pI (o := 60) (j := 0) (v := 0) (by decide)
  refine zv_aload_n (pc := 9) d_X5_init_9 rfl ?_
  refine zv_iconst (pc := 10) d_X5_init_10 zc_i_0 ?_
  refine kx_putI (pc := 11) (o := 60) (v := 0) d_X5_init_11 lk_CutStones_Rule_13 (Or.inl rfl) ⟨by decide, by decide⟩ (by decide +kernel) ?_
  have hZ := hZ.pI (o := 60) (j := 1) (v := 0) (by decide)
  refine zv_aload_n (pc := 14) d_X5_init_14 rfl ?_
  refine zv_iconst (pc := 15) d_X5_init_15 zc_i_0 ?_
  refine kx_putI (pc := 16) (o := 60) (v := 0) d_X5_init_16 lk_CutStones_Rule_16 (Or.inl rfl) ⟨by decide, by decide⟩ (by decide +kernel) ?_
  have hZ := hZ.pI (o := 60) (j := 2) (v := 0) (by decide)
  exact zv_vret (pc := 19) d_X5_init_19 rfl rfl (Nat.le_refl _) hP
def kS_X5_init_61 (S : aS) : aS := (zw_pI (zw_pI (zw_pI S 61 0 0) 61 1 0) 61 2 0)
theorem kZ_X5_init_61 {S : aS} (hZ : zw_Z 61 S) : zw_Z 61 (kS_X5_init_61 S) := by
  unfold kS_X5_init_61
  have hZ := hZ.pI (o := 61) (j := 0) (v := 0) (by decide)
  have hZ := hZ.pI (o := 61) (j := 1) (v := 0) (by decide)
  have hZ := hZ.pI (o := 61) (j := 2) (v := 0) (by decide)
  exact hZ
theorem k_X5_init_61 {X : zw_X} {P : Option Value → aS → Prop} {S : aS} (hZ : zw_Z 61 S) (hP : P none (kS_X5_init_61 S)) : zw_C X M_X5_init 1 0 0 61 [.ref 61] S P := by
  show zw_V X M_X5_init 1 0 0 61 P 0 0 0 [.ref 61] [] S
  refine zv_aload_n (pc := 0) d_X5_init_0 rfl ?_
  refine zv_obj (pc := 1) d_X5_init_1 (zw_mG (List.mem_of_getElem? (i := 238) (by decide +kernel)) rfl) (by decide) (Nat.le_of_ble_eq_true rfl) ?_
  refine zv_aload_n (pc := 4) d_X5_init_4 rfl ?_
  refine zv_iconst (pc := 5) d_X5_init_5 zc_i_0 ?_
  refine kx_putI (pc := 6) (o := 61) (v := 0) d_X5_init_6 lk_CutStones_Rule_7 (Or.inl rfl) ⟨by decide, by decide⟩ (by decide +kernel) ?_
  have hZ := hZ.pI (o := 61) (j := 0) (v := 0) (by decide)
  refine zv_aload_n (pc := 9) d_X5_init_9 rfl ?_
  refine zv_iconst (pc := 10) d_X5_init_10 zc_i_0 ?_
  refine kx_putI (pc := 11) (o := 61) (v := 0) d_X5_init_11 lk_CutStones_Rule_13 (Or.inl rfl) ⟨by decide, by decide⟩ (by decide +kernel) ?_
  have hZ := hZ.pI (o := 61) (j := 1) (v := 0) (by decide)
  refine zv_aload_n (pc := 14) d_X5_init_14 rfl ?_
  refine zv_iconst (pc := 15) d_X5_init_15 zc_i_0 ?_
  refine kx_putI (pc := 16) (o := 61) (v := 0) d_X5_init_16 lk_CutStones_Rule_16 (Or.inl rfl) ⟨by decide, by decide⟩ (by decide +kernel) ?_
  have hZ := hZ.pI (o := 61) (j := 2) (v := 0) (by decide)
  exact zv_vret (pc := 19) d_X5_init_19 rfl rfl (Nat.le_refl _) hP
def kS_X5_init_62 (S : aS) : aS := (zw_pI (zw_pI (zw_pI S 62 0 0) 62 1 0) 62 2 0)
theorem kZ_X5_init_62 {S : aS} (hZ : zw_Z 62 S) : zw_Z 62 (kS_X5_init_62 S) := by
  unfold kS_X5_init_62
  have hZ := hZ.pI (o := 62) (j := 0) (v := 0) (by decide)
  have hZ := hZ.pI (o := 62) (j := 1) (v := 0) (by decide)
  have hZ := hZ.pI (o := 62) (j := 2) (v := 0) (by decide)
  exact hZ
theorem k_X5_init_62 {X : zw_X} {P : Option Value → aS → Prop} {S : aS} (hZ : zw_Z 62 S) (hP : P none (kS_X5_init_62 S)) : zw_C X M_X5_init 1 0 0 62 [.ref 62] S P := by
  show zw_V X M_X5_init 1 0 0 62 P 0 0 0 [.ref 62] [] S
  refine zv_aload_n (pc := 0) d_X5_init_0 rfl ?_
  refine zv_obj (pc := 1) d_X5_init_1 (zw_mG (List.mem_of_getElem? (i := 238) (by decide +kernel)) rfl) (by decide) (Nat.le_of_ble_eq_true rfl) ?_
  refine zv_aload_n (pc := 4) d_X5_init_4 rfl ?_
  refine zv_iconst (pc := 5) d_X5_init_5 zc_i_0 ?_
  refine kx_putI (pc := 6) (o := 62) (v := 0) d_X5_init_6 lk_CutStones_Rule_7 (Or.inl rfl) ⟨by decide, by decide⟩ (by decide +kernel) ?_
  have hZ := hZ.pI (o := 62) (j := 0) (v := 0) (by decide)
  refine zv_aload_n (pc := 9) d_X5_init_9 rfl ?_
  refine zv_iconst (pc := 10) d_X5_init_10 zc_i_0 ?_
  refine kx_putI (pc := 11) (o := 62) (v := 0) d_X5_init_11 lk_CutStones_Rule_13 (Or.inl rfl) ⟨by decide, by decide⟩ (by decide +kernel) ?_
  have hZ := hZ.pI (o := 62) (j := 1) (v := 0) (by decide)
  refine zv_aload_n (pc := 14) d_X5_init_14 rfl ?_
  refine zv_iconst (pc := 15) d_X5_init_15 zc_i_0 ?_
  refine kx_putI (pc := 16) (o := 62) (v := 0) d_X5_init_16 lk_CutStones_Rule_16 (Or.inl rfl) ⟨by decide, by decide⟩ (by decide +kernel) ?_
  have hZ := hZ.pI (o := 62) (j := 2) (v := 0) (by decide)
  exact zv_vret (pc := 19) d_X5_init_19 rfl rfl (Nat.le_refl _) hP
def kS_X5_init_63 (S : aS) : aS := (zw_pI (zw_pI (zw_pI S 63 0 0) 63 1 0) 63 2 0)
theorem kZ_X5_init_63 {S : aS} (hZ : zw_Z 63 S) : zw_Z 63 (kS_X5_init_63 S) := by
  unfold kS_X5_init_63
  have hZ := hZ.pI (o := 63) (j := 0) (v := 0) (by decide)
  have hZ := hZ.pI (o := 63) (j := 1) (v := 0) (by decide)
  have hZ := hZ.pI (o := 63) (j := 2) (v := 0) (by decide)
  exact hZ
theorem k_X5_init_63 {X : zw_X} {P : Option Value → aS → Prop} {S : aS} (hZ : zw_Z 63 S) (hP : P none (kS_X5_init_63 S)) : zw_C X M_X5_init 1 0 0 63 [.ref 63] S P := by
  show zw_V X M_X5_init 1 0 0 63 P 0 0 0 [.ref 63] [] S
  refine zv_aload_n (pc := 0) d_X5_init_0 rfl ?_
  refine zv_obj (pc := 1) d_X5_init_1 (zw_mG (List.mem_of_getElem? (i := 238) (by decide +kernel)) rfl) (by decide) (Nat.le_of_ble_eq_true rfl) ?_
  refine zv_aload_n (pc := 4) d_X5_init_4 rfl ?_
  refine zv_iconst (pc := 5) d_X5_init_5 zc_i_0 ?_
  refine kx_putI (pc := 6) (o := 63) (v := 0) d_X5_init_6 lk_CutStones_Rule_7 (Or.inl rfl) ⟨by decide, by decide⟩ (by decide +kernel) ?_
  have hZ := hZ.pI (o := 63) (j := 0) (v := 0) (by decide)
  refine zv_aload_n (pc := 9) d_X5_init_9 rfl ?_
  refine zv_iconst (pc := 10) d_X5_init_10 zc_i_0 ?_
  refine kx_putI (pc := 11) (o := 63) (v := 0) d_X5_init_11 lk_CutStones_Rule_13 (Or.inl rfl) ⟨by decide, by decide⟩ (by decide +kernel) ?_
  have hZ := hZ.pI (o := 63) (j := 1) (v := 0) (by decide)
  refine zv_aload_n (pc := 14) d_X5_init_14 rfl ?_
  refine zv_iconst (pc := 15) d_X5_init_15 zc_i_0 ?_
  refine kx_putI (pc := 16) (o := 63) (v := 0) d_X5_init_16 lk_CutStones_Rule_16 (Or.inl rfl) ⟨by decide, by decide⟩ (by decide +kernel) ?_
  have hZ := hZ.pI (o := 63) (j := 2) (v := 0) (by decide)
  exact zv_vret (pc := 19) d_X5_init_19 rfl rfl (Nat.le_refl _) hP
def kS_X5_init_64 (S : aS) : aS := (zw_pI (zw_pI (zw_pI S 64 0 0) 64 1 0) 64 2 0)
theorem kZ_X5_init_64 {S : aS} (hZ : zw_Z 64 S) : zw_Z 64 (kS_X5_init_64 S) := by
  unfold kS_X5_init_64
  have hZ := hZ.pI (o := 64) (j := 0) (v := 0) (by decide)
  have hZ := hZ.pI (o := 64) (j := 1) (v := 0) (by decide)
  have hZ := hZ.pI (o := 64) (j := 2) (v := 0) (by decide)
  exact hZ
theorem k_X5_init_64 {X : zw_X} {P : Option Value → aS → Prop} {S : aS} (hZ : zw_Z 64 S) (hP : P none (kS_X5_init_64 S)) : zw_C X M_X5_init 1 0 0 64 [.ref 64] S P := by
  show zw_V X M_X5_init 1 0 0 64 P 0 0 0 [.ref 64] [] S
  refine zv_aload_n (pc := 0) d_X5_init_0 rfl ?_
  refine zv_obj (pc := 1) d_X5_init_1 (zw_mG (List.mem_of_getElem? (i := 238) (by decide +kernel)) rfl) (by decide) (Nat.le_of_ble_eq_true rfl) ?_
  refine zv_aload_n (pc := 4) d_X5_init_4 rfl ?_
  refine zv_iconst (pc := 5) d_X5_init_5 zc_i_0 ?_
  refine kx_putI (pc := 6) (o := 64) (v := 0) d_X5_init_6 lk_CutStones_Rule_7 (Or.inl rfl) ⟨by decide, by decide⟩ (by decide +kernel) ?_
  have hZ := hZ.pI (o := 64) (j := 0) (v := 0) (by decide)
  refine zv_aload_n (pc := 9) d_X5_init_9 rfl ?_
  refine zv_iconst (pc := 10) d_X5_init_10 zc_i_0 ?_
  refine kx_putI (pc := 11) (o := 64) (v := 0) d_X5_init_11 lk_CutStones_Rule_13 (Or.inl rfl) ⟨by decide, by decide⟩ (by decide +kernel) ?_
  have hZ := hZ.pI (o := 64) (j := 1) (v := 0) (by decide)
  refine zv_aload_n (pc := 14) d_X5_init_14 rfl ?_
  refine zv_iconst (pc := 15) d_X5_init_15 zc_i_0 ?_
  refine kx_putI (pc := 16) (o := 64) (v := 0) d_X5_init_16 lk_CutStones_Rule_16 (Or.inl rfl) ⟨by decide, by decide⟩ (by decide +kernel) ?_
  have hZ := hZ.pI (o := 64) (j := 2) (v := 0) (by decide)
  exact zv_vret (pc := 19) d_X5_init_19 rfl rfl (Nat.le_refl _) hP
def kS_X1_init_8 (S : aS) : aS := (zw_pR (kS_X5_init_64 (zw_pR (kS_X5_init_63 (zw_pR (kS_X5_init_62 (zw_pR (kS_X5_init_61 (zw_pR (kS_X5_init_60 (zw_pR (kS_X5_init_59 (zw_pR (kS_X5_init_58 (zw_pR (kS_X5_init_57 (zw_pR (kS_X5_init_56 (zw_pR (kS_X5_init_55 (zw_pR (kS_X5_init_54 (zw_pR (kS_X5_init_53 (zw_pR (kS_X5_init_52 (zw_pR (kS_X5_init_51 (zw_pR (kS_X5_init_50 (zw_pR (kS_X5_init_49 (zw_pR (kS_X0_init_47 (zw_pR (kS_X0_init_45 (zw_pR (kS_X0_init_43 (zw_pR (kS_X0_init_41 (zw_pR (kS_X0_init_39 (zw_pR (kS_X0_init_37 (zw_pR (kS_X0_init_35 (zw_pR (kS_X0_init_33 (zw_pR (kS_X0_init_31 (zw_pR (kS_X0_init_29 (zw_pR (kS_X7_init_26 (zw_pR (kS_X7_init_23 (zw_pR (kS_X7_init_20 (zw_pR (kS_X7_init_17 (zw_pI (zw_pR (zw_pR (zw_pI (zw_pR (zw_pI (zw_pR (zw_pI (zw_pR (zw_pI (zw_pR (zw_pI (zw_pR (zw_pI (zw_pR S 8 0 9) 8 1 0) 8 2 10) 8 3 0) 8 4 11) 8 5 0) 8 6 12) 8 7 0) 8 8 13) 8 9 0) 8 10 14) 8 11 0) 8 12 15) 8 13 16) 8 14 0)) 9 0 17)) 9 1 20)) 9 2 23)) 9 3 26)) 10 0 29)) 10 1 31)) 10 2 33)) 10 3 35)) 10 4 37)) 10 5 39)) 11 0 41)) 11 1 43)) 11 2 45)) 11 3 47)) 12 0 49)) 12 1 50)) 12 2 51)) 12 3 52)) 12 4 53)) 12 5 54)) 12 6 55)) 12 7 56)) 13 0 57)) 13 1 58)) 13 2 59)) 13 3 60)) 13 4 61)) 13 5 62)) 13 6 63)) 13 7 64)
theorem kZ_X1_init_8 {S : aS} (hZ : zw_Z 8 S) : zw_Z 64 (kS_X1_init_8 S) := by
  unfold kS_X1_init_8
  have hZ := hZ.up
  have hZ := hZ.pR (o := 8) (j := 0) (v := 9) (by decide)
  have hZ := hZ.pI (o := 8) (j := 1) (v := 0) (by decide)
  have hZ := hZ.up
  have hZ := hZ.pR (o := 8) (j := 2) (v := 10) (by decide)
  have hZ := hZ.pI (o := 8) (j := 3) (v := 0) (by decide)
  have hZ := hZ.up
  have hZ := hZ.pR (o := 8) (j := 4) (v := 11) (by decide)
  have hZ := hZ.pI (o := 8) (j := 5) (v := 0) (by decide)
  have hZ := hZ.up
  have hZ := hZ.pR (o := 8) (j := 6) (v := 12) (by decide)
  have hZ := hZ.pI (o := 8) (j := 7) (v := 0) (by decide)
  have hZ := hZ.up
  have hZ := hZ.pR (o := 8) (j := 8) (v := 13) (by decide)
  have hZ := hZ.pI (o := 8) (j := 9) (v := 0) (by decide)
  have hZ := hZ.up
  have hZ := hZ.pR (o := 8) (j := 10) (v := 14) (by decide)
  have hZ := hZ.pI (o := 8) (j := 11) (v := 0) (by decide)
  have hZ := hZ.up
  have hZ := hZ.pR (o := 8) (j := 12) (v := 15) (by decide)
  have hZ := hZ.up
  have hZ := hZ.pR (o := 8) (j := 13) (v := 16) (by decide)
  have hZ := hZ.pI (o := 8) (j := 14) (v := 0) (by decide)
  have hZ := hZ.up
  have hZ := kZ_X7_init_17 hZ
  have hZ := hZ.pR (o := 9) (j := 0) (v := 17) (by decide)
  have hZ := hZ.up
  have hZ := kZ_X7_init_20 hZ
  have hZ := hZ.pR (o := 9) (j := 1) (v := 20) (by decide)
  have hZ := hZ.up
  have hZ := kZ_X7_init_23 hZ
  have hZ := hZ.pR (o := 9) (j := 2) (v := 23) (by decide)
  have hZ := hZ.up
  have hZ := kZ_X7_init_26 hZ
  have hZ := hZ.pR (o := 9) (j := 3) (v := 26) (by decide)
  have hZ := hZ.up
  have hZ := kZ_X0_init_29 hZ
  have hZ := hZ.pR (o := 10) (j := 0) (v := 29) (by decide)
  have hZ := hZ.up
  have hZ := kZ_X0_init_31 hZ
  have hZ := hZ.pR (o := 10) (j := 1) (v := 31) (by decide)
  have hZ := hZ.up
  have hZ := kZ_X0_init_33 hZ
  have hZ := hZ.pR (o := 10) (j := 2) (v := 33) (by decide)
  have hZ := hZ.up
  have hZ := kZ_X0_init_35 hZ
  have hZ := hZ.pR (o := 10) (j := 3) (v := 35) (by decide)
  have hZ := hZ.up
  have hZ := kZ_X0_init_37 hZ
  have hZ := hZ.pR (o := 10) (j := 4) (v := 37) (by decide)
  have hZ := hZ.up
  have hZ := kZ_X0_init_39 hZ
  have hZ := hZ.pR (o := 10) (j := 5) (v := 39) (by decide)
  have hZ := hZ.up
  have hZ := kZ_X0_init_41 hZ
  have hZ := hZ.pR (o := 11) (j := 0) (v := 41) (by decide)
  have hZ := hZ.up
  have hZ := kZ_X0_init_43 hZ
  have hZ := hZ.pR (o := 11) (j := 1) (v := 43) (by decide)
  have hZ := hZ.up
  have hZ := kZ_X0_init_45 hZ
  have hZ := hZ.pR (o := 11) (j := 2) (v := 45) (by decide)
  have hZ := hZ.up
  have hZ := kZ_X0_init_47 hZ
  have hZ := hZ.pR (o := 11) (j := 3) (v := 47) (by decide)
  have hZ := hZ.up
  have hZ := kZ_X5_init_49 hZ
  have hZ := hZ.pR (o := 12) (j := 0) (v := 49) (by decide)
  have hZ := hZ.up
  have hZ := kZ_X5_init_50 hZ
  have hZ := hZ.pR (o := 12) (j := 1) (v := 50) (by decide)
  have hZ := hZ.up
  have hZ := kZ_X5_init_51 hZ
  have hZ := hZ.pR (o := 12) (j := 2) (v := 51) (by decide)
  have hZ := hZ.up
  have hZ := kZ_X5_init_52 hZ
  have hZ := hZ.pR (o := 12) (j := 3) (v := 52) (by decide)
  have hZ := hZ.up
  have hZ := kZ_X5_init_53 hZ
  have hZ := hZ.pR (o := 12) (j := 4) (v := 53) (by decide)
  have hZ := hZ.up
  have hZ := kZ_X5_init_54 hZ
  have hZ := hZ.pR (o := 12) (j := 5) (v := 54) (by decide)
  have hZ := hZ.up
  have hZ := kZ_X5_init_55 hZ
  have hZ := hZ.pR (o := 12) (j := 6) (v := 55) (by decide)
  have hZ := hZ.up
  have hZ := kZ_X5_init_56 hZ
  have hZ := hZ.pR (o := 12) (j := 7) (v := 56) (by decide)
  have hZ := hZ.up
  have hZ := kZ_X5_init_57 hZ
  have hZ := hZ.pR (o := 13) (j := 0) (v := 57) (by decide)
  have hZ := hZ.up
  have hZ := kZ_X5_init_58 hZ
  have hZ := hZ.pR (o := 13) (j := 1) (v := 58) (by decide)
  have hZ := hZ.up
  have hZ := kZ_X5_init_59 hZ
  have hZ := hZ.pR (o := 13) (j := 2) (v := 59) (by decide)
  have hZ := hZ.up
  have hZ := kZ_X5_init_60 hZ
  have hZ := hZ.pR (o := 13) (j := 3) (v := 60) (by decide)
  have hZ := hZ.up
  have hZ := kZ_X5_init_61 hZ
  have hZ := hZ.pR (o := 13) (j := 4) (v := 61) (by decide)
  have hZ := hZ.up
  have hZ := kZ_X5_init_62 hZ
  have hZ := hZ.pR (o := 13) (j := 5) (v := 62) (by decide)
  have hZ := hZ.up
  have hZ := kZ_X5_init_63 hZ
  have hZ := hZ.pR (o := 13) (j := 6) (v := 63) (by decide)
  have hZ := hZ.up
  have hZ := kZ_X5_init_64 hZ
  have hZ := hZ.pR (o := 13) (j := 7) (v := 64) (by decide)
  exact hZ
theorem k_X1_init_8 {X : zw_X} {P : Option Value → aS → Prop} {S : aS} (hZ : zw_Z 8 S) (hP : P none (kS_X1_init_8 S)) : zw_C X M_X1_init 2 56 2672 8 [.ref 8] S P := by
  show zw_V X M_X1_init 2 56 2672 8 P 0 0 0 [.ref 8, .null] [] S
  refine zv_aload_n (pc := 0) d_X1_init_0 rfl ?_
  refine zv_obj (pc := 1) d_X1_init_1 (zw_mG (List.mem_of_getElem? (i := 164) (by decide +kernel)) rfl) (by decide) (Nat.le_of_ble_eq_true rfl) ?_
  refine zv_aload_n (pc := 4) d_X1_init_4 rfl ?_
  refine zv_iconst (pc := 5) d_X1_init_5 zc_i_4 ?_
  refine kx_anew (pc := 6) (C := "CutStones$Stuff") (κ := 18) (N := 4) d_X1_init_6 (zw_mG (List.mem_of_getElem? (i := 165) (by decide +kernel)) rfl) (by decide) (by decide +kernel) (by decide +kernel) (by decide) (by decide) rfl hZ ⟨by decide, by decide⟩ (by decide) ?_
  have hZ := hZ.up
  refine kx_putR (pc := 9) (o := 8) (v := 9) d_X1_init_9 lk_CutStones_House_11 (Or.inr ⟨rfl, rfl, rfl⟩) (by decide) ⟨by decide, by decide⟩ (by decide +kernel) (by decide) ?_
  have hZ := hZ.pR (o := 8) (j := 0) (v := 9) (by decide)
  refine zv_aload_n (pc := 12) d_X1_init_12 rfl ?_
  refine zv_iconst (pc := 13) d_X1_init_13 zc_i_0 ?_
  refine kx_putI (pc := 14) (o := 8) (v := 0) d_X1_init_14 lk_CutStones_House_17 (Or.inl rfl) ⟨by decide, by decide⟩ (by decide +kernel) ?_
  have hZ := hZ.pI (o := 8) (j := 1) (v := 0) (by decide)
  refine zv_aload_n (pc := 17) d_X1_init_17 rfl ?_
  refine zv_bipush (pc := 18) d_X1_init_18 zc_b_6 ?_
  refine kx_anew (pc := 20) (C := "CutStones$Drawing") (κ := 16) (N := 6) d_X1_init_20 (zw_mG (List.mem_of_getElem? (i := 167) (by decide +kernel)) rfl) (by decide) (by decide +kernel) (by decide +kernel) (by decide) (by decide) rfl hZ ⟨by decide, by decide⟩ (by decide) ?_
  have hZ := hZ.up
  refine kx_putR (pc := 23) (o := 8) (v := 10) d_X1_init_23 lk_CutStones_House_23 (Or.inr ⟨rfl, rfl, rfl⟩) (by decide) ⟨by decide, by decide⟩ (by decide +kernel) (by decide) ?_
  have hZ := hZ.pR (o := 8) (j := 2) (v := 10) (by decide)
  refine zv_aload_n (pc := 26) d_X1_init_26 rfl ?_
  refine zv_iconst (pc := 27) d_X1_init_27 zc_i_0 ?_
  refine kx_putI (pc := 28) (o := 8) (v := 0) d_X1_init_28 lk_CutStones_House_27 (Or.inl rfl) ⟨by decide, by decide⟩ (by decide +kernel) ?_
  have hZ := hZ.pI (o := 8) (j := 3) (v := 0) (by decide)
  refine zv_aload_n (pc := 31) d_X1_init_31 rfl ?_
  refine zv_iconst (pc := 32) d_X1_init_32 zc_i_4 ?_
  refine kx_anew (pc := 33) (C := "CutStones$Drawing") (κ := 16) (N := 4) d_X1_init_33 (zw_mG (List.mem_of_getElem? (i := 167) (by decide +kernel)) rfl) (by decide) (by decide +kernel) (by decide +kernel) (by decide) (by decide) rfl hZ ⟨by decide, by decide⟩ (by decide) ?_
  have hZ := hZ.up
  refine kx_putR (pc := 36) (o := 8) (v := 11) d_X1_init_36 lk_CutStones_House_30 (Or.inr ⟨rfl, rfl, rfl⟩) (by decide) ⟨by decide, by decide⟩ (by decide +kernel) (by decide) ?_
  have hZ := hZ.pR (o := 8) (j := 4) (v := 11) (by decide)
  refine zv_aload_n (pc := 39) d_X1_init_39 rfl ?_
  refine zv_iconst (pc := 40) d_X1_init_40 zc_i_0 ?_
  refine kx_putI (pc := 41) (o := 8) (v := 0) d_X1_init_41 lk_CutStones_House_33 (Or.inl rfl) ⟨by decide, by decide⟩ (by decide +kernel) ?_
  have hZ := hZ.pI (o := 8) (j := 5) (v := 0) (by decide)
  refine zv_aload_n (pc := 44) d_X1_init_44 rfl ?_
  refine zv_bipush (pc := 45) d_X1_init_45 zc_b_8 ?_
  refine kx_anew (pc := 47) (C := "CutStones$Rule") (κ := 17) (N := 8) d_X1_init_47 (zw_mG (List.mem_of_getElem? (i := 169) (by decide +kernel)) rfl) (by decide) (by decide +kernel) (by decide +kernel) (by decide) (by decide) rfl hZ ⟨by decide, by decide⟩ (by decide) ?_
  have hZ := hZ.up
  refine kx_putR (pc := 50) (o := 8) (v := 12) d_X1_init_50 lk_CutStones_House_38 (Or.inr ⟨rfl, rfl, rfl⟩) (by decide) ⟨by decide, by decide⟩ (by decide +kernel) (by decide) ?_
  have hZ := hZ.pR (o := 8) (j := 6) (v := 12) (by decide)
  refine zv_aload_n (pc := 53) d_X1_init_53 rfl ?_
  refine zv_iconst (pc := 54) d_X1_init_54 zc_i_0 ?_
  refine kx_putI (pc := 55) (o := 8) (v := 0) d_X1_init_55 lk_CutStones_House_42 (Or.inl rfl) ⟨by decide, by decide⟩ (by decide +kernel) ?_
  have hZ := hZ.pI (o := 8) (j := 7) (v := 0) (by decide)
  refine zv_aload_n (pc := 58) d_X1_init_58 rfl ?_
  refine zv_bipush (pc := 59) d_X1_init_59 zc_b_8 ?_
  refine kx_anew (pc := 61) (C := "CutStones$Rule") (κ := 17) (N := 8) d_X1_init_61 (zw_mG (List.mem_of_getElem? (i := 169) (by decide +kernel)) rfl) (by decide) (by decide +kernel) (by decide +kernel) (by decide) (by decide) rfl hZ ⟨by decide, by decide⟩ (by decide) ?_
  have hZ := hZ.up
  refine kx_putR (pc := 64) (o := 8) (v := 13) d_X1_init_64 lk_CutStones_House_45 (Or.inr ⟨rfl, rfl, rfl⟩) (by decide) ⟨by decide, by decide⟩ (by decide +kernel) (by decide) ?_
  have hZ := hZ.pR (o := 8) (j := 8) (v := 13) (by decide)
  refine zv_aload_n (pc := 67) d_X1_init_67 rfl ?_
  refine zv_iconst (pc := 68) d_X1_init_68 zc_i_0 ?_
  refine kx_putI (pc := 69) (o := 8) (v := 0) d_X1_init_69 lk_CutStones_House_48 (Or.inl rfl) ⟨by decide, by decide⟩ (by decide +kernel) ?_
  have hZ := hZ.pI (o := 8) (j := 9) (v := 0) (by decide)
  refine zv_aload_n (pc := 72) d_X1_init_72 rfl ?_
  refine zv_bipush (pc := 73) d_X1_init_73 zc_b_30 ?_
  refine kx_newa (pc := 75) (N := 30) d_X1_init_75 (by decide) (by decide +kernel) (by decide +kernel) (by decide) (by decide) rfl hZ ⟨by decide, by decide⟩ (by decide) ?_
  have hZ := hZ.up
  refine kx_putR (pc := 77) (o := 8) (v := 14) d_X1_init_77 lk_CutStones_House_51 (Or.inr ⟨rfl, rfl, rfl⟩) (by decide) ⟨by decide, by decide⟩ (by decide +kernel) (by decide) ?_
  have hZ := hZ.pR (o := 8) (j := 10) (v := 14) (by decide)
  refine zv_aload_n (pc := 80) d_X1_init_80 rfl ?_
  refine zv_iconst (pc := 81) d_X1_init_81 zc_i_0 ?_
  refine kx_putI (pc := 82) (o := 8) (v := 0) d_X1_init_82 lk_CutStones_House_55 (Or.inl rfl) ⟨by decide, by decide⟩ (by decide +kernel) ?_
  have hZ := hZ.pI (o := 8) (j := 11) (v := 0) (by decide)
  refine zv_aload_n (pc := 85) d_X1_init_85 rfl ?_
  refine zv_sipush (pc := 86) d_X1_init_86 zc_s_500 ?_
  refine kx_newa (pc := 89) (N := 500) d_X1_init_89 (by decide) (by decide +kernel) (by decide +kernel) (by decide) (by decide) rfl hZ ⟨by decide, by decide⟩ (by decide) ?_
  have hZ := hZ.up
  refine kx_putR (pc := 91) (o := 8) (v := 15) d_X1_init_91 lk_CutStones_House_58 (Or.inr ⟨rfl, rfl, rfl⟩) (by decide) ⟨by decide, by decide⟩ (by decide +kernel) (by decide) ?_
  have hZ := hZ.pR (o := 8) (j := 12) (v := 15) (by decide)
  refine zv_aload_n (pc := 94) d_X1_init_94 rfl ?_
  refine zv_sipush (pc := 95) d_X1_init_95 zc_s_500 ?_
  refine kx_newa (pc := 98) (N := 500) d_X1_init_98 (by decide) (by decide +kernel) (by decide +kernel) (by decide) (by decide) rfl hZ ⟨by decide, by decide⟩ (by decide) ?_
  have hZ := hZ.up
  refine kx_putR (pc := 100) (o := 8) (v := 16) d_X1_init_100 lk_CutStones_House_62 (Or.inr ⟨rfl, rfl, rfl⟩) (by decide) ⟨by decide, by decide⟩ (by decide +kernel) (by decide) ?_
  have hZ := hZ.pR (o := 8) (j := 13) (v := 16) (by decide)
  refine zv_aload_n (pc := 103) d_X1_init_103 rfl ?_
  refine zv_iconst (pc := 104) d_X1_init_104 zc_i_0 ?_
  refine kx_putI (pc := 105) (o := 8) (v := 0) d_X1_init_105 lk_CutStones_House_65 (Or.inl rfl) ⟨by decide, by decide⟩ (by decide +kernel) ?_
  have hZ := hZ.pI (o := 8) (j := 14) (v := 0) (by decide)
  refine zv_iconst (pc := 108) d_X1_init_108 zc_i_0 ?_
  refine kx_istore_n (pc := 109) (L2 := [.ref 8, .int 0]) d_X1_init_109 (by decide) rfl ?_
  refine zv_iload_n (pc := 110) d_X1_init_110 rfl ?_
  refine zv_iconst (pc := 111) d_X1_init_111 zc_i_4 ?_
  refine zv_icmp_ge (pc := 112) (tg := 134) d_X1_init_112 (by decide) (fun q => absurd q (by decide +kernel)) (fun _ => ?_)
  refine zv_aload_n (pc := 115) d_X1_init_115 rfl ?_
  refine kx_getR (pc := 116) (o := 8) (v := 9) d_X1_init_116 lk_CutStones_House_11 (by decide) ⟨by decide, by decide⟩ (by decide +kernel) rfl (by decide) ?_
  refine zv_iload_n (pc := 119) d_X1_init_119 rfl ?_
  refine kx_new (pc := 120) (c := 7) d_X1_init_120 rfl ⟨(zw_mG (List.mem_of_getElem? (i := 165) (by decide +kernel)) rfl), (zw_mG (List.mem_of_getElem? (i := 171) (by decide +kernel)) rfl), (zw_mG (List.mem_of_getElem? (i := 100) (by decide +kernel)) rfl)⟩ (by decide) rfl hZ ⟨by decide, by decide⟩ (by decide) (by decide +kernel) ?_
  have hZ := hZ.up
  refine zv_dup (pc := 123) d_X1_init_123 rfl ?_
  refine zv_callIN (pc := 124) (As := []) (o := 17) (st := [.ref 17, .int 0, .ref 9]) (d2 := 1) (mc2 := 2) (ms2 := 8) (M2 := M_X7_init) (R2 := fun r T => r = none ∧ T = kS_X7_init_17 (zw_pI (zw_pR (zw_pR (zw_pI (zw_pR (zw_pI (zw_pR (zw_pI (zw_pR (zw_pI (zw_pR (zw_pI (zw_pR (zw_pI (zw_pR S 8 0 9) 8 1 0) 8 2 10) 8 3 0) 8 4 11) 8 5 0) 8 6 12) 8 7 0) 8 8 13) 8 9 0) 8 10 14) 8 11 0) 8 12 15) 8 13 16) 8 14 0)) d_X1_init_124 (by decide +kernel) ce_X7_init (Nat.le_of_ble_eq_true rfl) rfl (Nat.le_of_ble_eq_true rfl) (by decide) ⟨by decide, by decide⟩ (by decide) (k_X7_init_17 hZ ⟨rfl, rfl⟩) ?_
  rintro _ _ ⟨rfl, rfl⟩
  have hZ := kZ_X7_init_17 hZ
  show zw_V X M_X1_init 2 56 2672 8 P (124 + 3) 11 1071 [.ref 8, .int 0] [.ref 17, .int 0, .ref 9] (kS_X7_init_17 (zw_pI (zw_pR (zw_pR (zw_pI (zw_pR (zw_pI (zw_pR (zw_pI (zw_pR (zw_pI (zw_pR (zw_pI (zw_pR (zw_pI (zw_pR S 8 0 9) 8 1 0) 8 2 10) 8 3 0) 8 4 11) 8 5 0) 8 6 12) 8 7 0) 8 8 13) 8 9 0) 8 10 14) 8 11 0) 8 12 15) 8 13 16) 8 14 0))
  refine kx_aast (pc := 127) (o := 9) (κ := 18) (j := 0) d_X1_init_127 ⟨by decide, by decide⟩ (by decide +kernel) (by decide) (by decide +kernel) (by decide +kernel) ⟨by decide, by decide⟩ (by decide +kernel) ?_
  have hZ := hZ.pR (o := 9) (j := 0) (v := 17) (by decide)
  refine kx_iinc (pc := 128) (x2 := 1) (L2 := [.ref 8, .int 1]) d_X1_init_128 (by decide) rfl zc_i_1 (by decide +kernel) rfl ?_
  refine zv_goto (pc := 131) (tg := 110) d_X1_init_131 (by decide) ?_
  refine zv_iload_n (pc := 110) d_X1_init_110 rfl ?_
  refine zv_iconst (pc := 111) d_X1_init_111 zc_i_4 ?_
  refine zv_icmp_ge (pc := 112) (tg := 134) d_X1_init_112 (by decide) (fun q => absurd q (by decide +kernel)) (fun _ => ?_)
  refine zv_aload_n (pc := 115) d_X1_init_115 rfl ?_
  refine kx_getR (pc := 116) (o := 8) (v := 9) d_X1_init_116 lk_CutStones_House_11 (by decide) ⟨by decide, by decide⟩ (by decide +kernel) rfl (by decide) ?_
  refine zv_iload_n (pc := 119) d_X1_init_119 rfl ?_
  refine kx_new (pc := 120) (c := 7) d_X1_init_120 rfl ⟨(zw_mG (List.mem_of_getElem? (i := 165) (by decide +kernel)) rfl), (zw_mG (List.mem_of_getElem? (i := 171) (by decide +kernel)) rfl), (zw_mG (List.mem_of_getElem? (i := 100) (by decide +kernel)) rfl)⟩ (by decide) rfl hZ ⟨by decide, by decide⟩ (by decide) (by decide +kernel) ?_
  have hZ := hZ.up
  refine zv_dup (pc := 123) d_X1_init_123 rfl ?_
  refine zv_callIN (pc := 124) (As := []) (o := 20) (st := [.ref 20, .int 1, .ref 9]) (d2 := 1) (mc2 := 2) (ms2 := 8) (M2 := M_X7_init) (R2 := fun r T => r = none ∧ T = kS_X7_init_20 (zw_pR (kS_X7_init_17 (zw_pI (zw_pR (zw_pR (zw_pI (zw_pR (zw_pI (zw_pR (zw_pI (zw_pR (zw_pI (zw_pR (zw_pI (zw_pR (zw_pI (zw_pR S 8 0 9) 8 1 0) 8 2 10) 8 3 0) 8 4 11) 8 5 0) 8 6 12) 8 7 0) 8 8 13) 8 9 0) 8 10 14) 8 11 0) 8 12 15) 8 13 16) 8 14 0)) 9 0 17)) d_X1_init_124 (by decide +kernel) ce_X7_init (Nat.le_of_ble_eq_true rfl) rfl (Nat.le_of_ble_eq_true rfl) (by decide) ⟨by decide, by decide⟩ (by decide) (k_X7_init_20 hZ ⟨rfl, rfl⟩) ?_
  rintro _ _ ⟨rfl, rfl⟩
  have hZ := kZ_X7_init_20 hZ
  show zw_V X M_X1_init 2 56 2672 8 P (124 + 3) 14 1082 [.ref 8, .int 1] [.ref 20, .int 1, .ref 9] (kS_X7_init_20 (zw_pR (kS_X7_init_17 (zw_pI (zw_pR (zw_pR (zw_pI (zw_pR (zw_pI (zw_pR (zw_pI (zw_pR (zw_pI (zw_pR (zw_pI (zw_pR (zw_pI (zw_pR S 8 0 9) 8 1 0) 8 2 10) 8 3 0) 8 4 11) 8 5 0) 8 6 12) 8 7 0) 8 8 13) 8 9 0) 8 10 14) 8 11 0) 8 12 15) 8 13 16) 8 14 0)) 9 0 17))
  refine kx_aast (pc := 127) (o := 9) (κ := 18) (j := 1) d_X1_init_127 ⟨by decide, by decide⟩ (by decide +kernel) (by decide) (by decide +kernel) (by decide +kernel) ⟨by decide, by decide⟩ (by decide +kernel) ?_
  have hZ := hZ.pR (o := 9) (j := 1) (v := 20) (by decide)
  refine kx_iinc (pc := 128) (x2 := 2) (L2 := [.ref 8, .int 2]) d_X1_init_128 (by decide) rfl zc_i_1 (by decide +kernel) rfl ?_
  refine zv_goto (pc := 131) (tg := 110) d_X1_init_131 (by decide) ?_
  refine zv_iload_n (pc := 110) d_X1_init_110 rfl ?_
  refine zv_iconst (pc := 111) d_X1_init_111 zc_i_4 ?_
  refine zv_icmp_ge (pc := 112) (tg := 134) d_X1_init_112 (by decide) (fun q => absurd q (by decide +kernel)) (fun _ => ?_)
  refine zv_aload_n (pc := 115) d_X1_init_115 rfl ?_
  refine kx_getR (pc := 116) (o := 8) (v := 9) d_X1_init_116 lk_CutStones_House_11 (by decide) ⟨by decide, by decide⟩ (by decide +kernel) rfl (by decide) ?_
  refine zv_iload_n (pc := 119) d_X1_init_119 rfl ?_
  refine kx_new (pc := 120) (c := 7) d_X1_init_120 rfl ⟨(zw_mG (List.mem_of_getElem? (i := 165) (by decide +kernel)) rfl), (zw_mG (List.mem_of_getElem? (i := 171) (by decide +kernel)) rfl), (zw_mG (List.mem_of_getElem? (i := 100) (by decide +kernel)) rfl)⟩ (by decide) rfl hZ ⟨by decide, by decide⟩ (by decide) (by decide +kernel) ?_
  have hZ := hZ.up
  refine zv_dup (pc := 123) d_X1_init_123 rfl ?_
  refine zv_callIN (pc := 124) (As := []) (o := 23) (st := [.ref 23, .int 2, .ref 9]) (d2 := 1) (mc2 := 2) (ms2 := 8) (M2 := M_X7_init) (R2 := fun r T => r = none ∧ T = kS_X7_init_23 (zw_pR (kS_X7_init_20 (zw_pR (kS_X7_init_17 (zw_pI (zw_pR (zw_pR (zw_pI (zw_pR (zw_pI (zw_pR (zw_pI (zw_pR (zw_pI (zw_pR (zw_pI (zw_pR (zw_pI (zw_pR S 8 0 9) 8 1 0) 8 2 10) 8 3 0) 8 4 11) 8 5 0) 8 6 12) 8 7 0) 8 8 13) 8 9 0) 8 10 14) 8 11 0) 8 12 15) 8 13 16) 8 14 0)) 9 0 17)) 9 1 20)) d_X1_init_124 (by decide +kernel) ce_X7_init (Nat.le_of_ble_eq_true rfl) rfl (Nat.le_of_ble_eq_true rfl) (by decide) ⟨by decide, by decide⟩ (by decide) (k_X7_init_23 hZ ⟨rfl, rfl⟩) ?_
  rintro _ _ ⟨rfl, rfl⟩
  have hZ := kZ_X7_init_23 hZ
  show zw_V X M_X1_init 2 56 2672 8 P (124 + 3) 17 1093 [.ref 8, .int 2] [.ref 23, .int 2, .ref 9] (kS_X7_init_23 (zw_pR (kS_X7_init_20 (zw_pR (kS_X7_init_17 (zw_pI (zw_pR (zw_pR (zw_pI (zw_pR (zw_pI (zw_pR (zw_pI (zw_pR (zw_pI (zw_pR (zw_pI (zw_pR (zw_pI (zw_pR S 8 0 9) 8 1 0) 8 2 10) 8 3 0) 8 4 11) 8 5 0) 8 6 12) 8 7 0) 8 8 13) 8 9 0) 8 10 14) 8 11 0) 8 12 15) 8 13 16) 8 14 0)) 9 0 17)) 9 1 20))
  refine kx_aast (pc := 127) (o := 9) (κ := 18) (j := 2) d_X1_init_127 ⟨by decide, by decide⟩ (by decide +kernel) (by decide) (by decide +kernel) (by decide +kernel) ⟨by decide, by decide⟩ (by decide +kernel) ?_
  have hZ := hZ.pR (o := 9) (j := 2) (v := 23) (by decide)
  refine kx_iinc (pc := 128) (x2 := 3) (L2 := [.ref 8, .int 3]) d_X1_init_128 (by decide) rfl zc_i_1 (by decide +kernel) rfl ?_
  refine zv_goto (pc := 131) (tg := 110) d_X1_init_131 (by decide) ?_
  refine zv_iload_n (pc := 110) d_X1_init_110 rfl ?_
  refine zv_iconst (pc := 111) d_X1_init_111 zc_i_4 ?_
  refine zv_icmp_ge (pc := 112) (tg := 134) d_X1_init_112 (by decide) (fun q => absurd q (by decide +kernel)) (fun _ => ?_)
  refine zv_aload_n (pc := 115) d_X1_init_115 rfl ?_
  refine kx_getR (pc := 116) (o := 8) (v := 9) d_X1_init_116 lk_CutStones_House_11 (by decide) ⟨by decide, by decide⟩ (by decide +kernel) rfl (by decide) ?_
  refine zv_iload_n (pc := 119) d_X1_init_119 rfl ?_
  refine kx_new (pc := 120) (c := 7) d_X1_init_120 rfl ⟨(zw_mG (List.mem_of_getElem? (i := 165) (by decide +kernel)) rfl), (zw_mG (List.mem_of_getElem? (i := 171) (by decide +kernel)) rfl), (zw_mG (List.mem_of_getElem? (i := 100) (by decide +kernel)) rfl)⟩ (by decide) rfl hZ ⟨by decide, by decide⟩ (by decide) (by decide +kernel) ?_
  have hZ := hZ.up
  refine zv_dup (pc := 123) d_X1_init_123 rfl ?_
  refine zv_callIN (pc := 124) (As := []) (o := 26) (st := [.ref 26, .int 3, .ref 9]) (d2 := 1) (mc2 := 2) (ms2 := 8) (M2 := M_X7_init) (R2 := fun r T => r = none ∧ T = kS_X7_init_26 (zw_pR (kS_X7_init_23 (zw_pR (kS_X7_init_20 (zw_pR (kS_X7_init_17 (zw_pI (zw_pR (zw_pR (zw_pI (zw_pR (zw_pI (zw_pR (zw_pI (zw_pR (zw_pI (zw_pR (zw_pI (zw_pR (zw_pI (zw_pR S 8 0 9) 8 1 0) 8 2 10) 8 3 0) 8 4 11) 8 5 0) 8 6 12) 8 7 0) 8 8 13) 8 9 0) 8 10 14) 8 11 0) 8 12 15) 8 13 16) 8 14 0)) 9 0 17)) 9 1 20)) 9 2 23)) d_X1_init_124 (by decide +kernel) ce_X7_init (Nat.le_of_ble_eq_true rfl) rfl (Nat.le_of_ble_eq_true rfl) (by decide) ⟨by decide, by decide⟩ (by decide) (k_X7_init_26 hZ ⟨rfl, rfl⟩) ?_
  rintro _ _ ⟨rfl, rfl⟩
  have hZ := kZ_X7_init_26 hZ
  show zw_V X M_X1_init 2 56 2672 8 P (124 + 3) 20 1104 [.ref 8, .int 3] [.ref 26, .int 3, .ref 9] (kS_X7_init_26 (zw_pR (kS_X7_init_23 (zw_pR (kS_X7_init_20 (zw_pR (kS_X7_init_17 (zw_pI (zw_pR (zw_pR (zw_pI (zw_pR (zw_pI (zw_pR (zw_pI (zw_pR (zw_pI (zw_pR (zw_pI (zw_pR (zw_pI (zw_pR S 8 0 9) 8 1 0) 8 2 10) 8 3 0) 8 4 11) 8 5 0) 8 6 12) 8 7 0) 8 8 13) 8 9 0) 8 10 14) 8 11 0) 8 12 15) 8 13 16) 8 14 0)) 9 0 17)) 9 1 20)) 9 2 23))
  refine kx_aast (pc := 127) (o := 9) (κ := 18) (j := 3) d_X1_init_127 ⟨by decide, by decide⟩ (by decide +kernel) (by decide) (by decide +kernel) (by decide +kernel) ⟨by decide, by decide⟩ (by decide +kernel) ?_
  have hZ := hZ.pR (o := 9) (j := 3) (v := 26) (by decide)
  refine kx_iinc (pc := 128) (x2 := 4) (L2 := [.ref 8, .int 4]) d_X1_init_128 (by decide) rfl zc_i_1 (by decide +kernel) rfl ?_
  refine zv_goto (pc := 131) (tg := 110) d_X1_init_131 (by decide) ?_
  refine zv_iload_n (pc := 110) d_X1_init_110 rfl ?_
  refine zv_iconst (pc := 111) d_X1_init_111 zc_i_4 ?_
  refine zv_icmp_ge (pc := 112) (tg := 134) d_X1_init_112 (by decide) (fun _ => ?_) (fun q => absurd (by decide +kernel) q)
  refine zv_iconst (pc := 134) d_X1_init_134 zc_i_0 ?_
  refine kx_istore_n (pc := 135) (L2 := [.ref 8, .int 0]) d_X1_init_135 (by decide) rfl ?_
  refine zv_iload_n (pc := 136) d_X1_init_136 rfl ?_
  refine zv_bipush (pc := 137) d_X1_init_137 zc_b_6 ?_
  refine zv_icmp_ge (pc := 139) (tg := 161) d_X1_init_139 (by decide) (fun q => absurd q (by decide +kernel)) (fun _ => ?_)
  refine zv_aload_n (pc := 142) d_X1_init_142 rfl ?_
  refine kx_getR (pc := 143) (o := 8) (v := 10) d_X1_init_143 lk_CutStones_House_23 (by decide) ⟨by decide, by decide⟩ (by decide +kernel) rfl (by decide) ?_
  refine zv_iload_n (pc := 146) d_X1_init_146 rfl ?_
  refine kx_new (pc := 147) (c := 0) d_X1_init_147 rfl ⟨(zw_mG (List.mem_of_getElem? (i := 167) (by decide +kernel)) rfl), (zw_mG (List.mem_of_getElem? (i := 191) (by decide +kernel)) rfl), (zw_mG (List.mem_of_getElem? (i := 101) (by decide +kernel)) rfl)⟩ (by decide) rfl hZ ⟨by decide, by decide⟩ (by decide) (by decide +kernel) ?_
  have hZ := hZ.up
  refine zv_dup (pc := 150) d_X1_init_150 rfl ?_
  refine zv_callIN (pc := 151) (As := []) (o := 29) (st := [.ref 29, .int 0, .ref 10]) (d2 := 1) (mc2 := 1) (ms2 := 144) (M2 := M_X0_init) (R2 := fun r T => r = none ∧ T = kS_X0_init_29 (zw_pR (kS_X7_init_26 (zw_pR (kS_X7_init_23 (zw_pR (kS_X7_init_20 (zw_pR (kS_X7_init_17 (zw_pI (zw_pR (zw_pR (zw_pI (zw_pR (zw_pI (zw_pR (zw_pI (zw_pR (zw_pI (zw_pR (zw_pI (zw_pR (zw_pI (zw_pR S 8 0 9) 8 1 0) 8 2 10) 8 3 0) 8 4 11) 8 5 0) 8 6 12) 8 7 0) 8 8 13) 8 9 0) 8 10 14) 8 11 0) 8 12 15) 8 13 16) 8 14 0)) 9 0 17)) 9 1 20)) 9 2 23)) 9 3 26)) d_X1_init_151 (by decide +kernel) ce_X0_init (Nat.le_of_ble_eq_true rfl) rfl (Nat.le_of_ble_eq_true rfl) (by decide) ⟨by decide, by decide⟩ (by decide) (k_X0_init_29 hZ ⟨rfl, rfl⟩) ?_
  rintro _ _ ⟨rfl, rfl⟩
  have hZ := kZ_X0_init_29 hZ
  show zw_V X M_X1_init 2 56 2672 8 P (151 + 3) 22 1256 [.ref 8, .int 0] [.ref 29, .int 0, .ref 10] (kS_X0_init_29 (zw_pR (kS_X7_init_26 (zw_pR (kS_X7_init_23 (zw_pR (kS_X7_init_20 (zw_pR (kS_X7_init_17 (zw_pI (zw_pR (zw_pR (zw_pI (zw_pR (zw_pI (zw_pR (zw_pI (zw_pR (zw_pI (zw_pR (zw_pI (zw_pR (zw_pI (zw_pR S 8 0 9) 8 1 0) 8 2 10) 8 3 0) 8 4 11) 8 5 0) 8 6 12) 8 7 0) 8 8 13) 8 9 0) 8 10 14) 8 11 0) 8 12 15) 8 13 16) 8 14 0)) 9 0 17)) 9 1 20)) 9 2 23)) 9 3 26))
  refine kx_aast (pc := 154) (o := 10) (κ := 16) (j := 0) d_X1_init_154 ⟨by decide, by decide⟩ (by decide +kernel) (by decide) (by decide +kernel) (by decide +kernel) ⟨by decide, by decide⟩ (by decide +kernel) ?_
  have hZ := hZ.pR (o := 10) (j := 0) (v := 29) (by decide)
  refine kx_iinc (pc := 155) (x2 := 1) (L2 := [.ref 8, .int 1]) d_X1_init_155 (by decide) rfl zc_i_1 (by decide +kernel) rfl ?_
  refine zv_goto (pc := 158) (tg := 136) d_X1_init_158 (by decide) ?_
  refine zv_iload_n (pc := 136) d_X1_init_136 rfl ?_
  refine zv_bipush (pc := 137) d_X1_init_137 zc_b_6 ?_
  refine zv_icmp_ge (pc := 139) (tg := 161) d_X1_init_139 (by decide) (fun q => absurd q (by decide +kernel)) (fun _ => ?_)
  refine zv_aload_n (pc := 142) d_X1_init_142 rfl ?_
  refine kx_getR (pc := 143) (o := 8) (v := 10) d_X1_init_143 lk_CutStones_House_23 (by decide) ⟨by decide, by decide⟩ (by decide +kernel) rfl (by decide) ?_
  refine zv_iload_n (pc := 146) d_X1_init_146 rfl ?_
  refine kx_new (pc := 147) (c := 0) d_X1_init_147 rfl ⟨(zw_mG (List.mem_of_getElem? (i := 167) (by decide +kernel)) rfl), (zw_mG (List.mem_of_getElem? (i := 191) (by decide +kernel)) rfl), (zw_mG (List.mem_of_getElem? (i := 101) (by decide +kernel)) rfl)⟩ (by decide) rfl hZ ⟨by decide, by decide⟩ (by decide) (by decide +kernel) ?_
  have hZ := hZ.up
  refine zv_dup (pc := 150) d_X1_init_150 rfl ?_
  refine zv_callIN (pc := 151) (As := []) (o := 31) (st := [.ref 31, .int 1, .ref 10]) (d2 := 1) (mc2 := 1) (ms2 := 144) (M2 := M_X0_init) (R2 := fun r T => r = none ∧ T = kS_X0_init_31 (zw_pR (kS_X0_init_29 (zw_pR (kS_X7_init_26 (zw_pR (kS_X7_init_23 (zw_pR (kS_X7_init_20 (zw_pR (kS_X7_init_17 (zw_pI (zw_pR (zw_pR (zw_pI (zw_pR (zw_pI (zw_pR (zw_pI (zw_pR (zw_pI (zw_pR (zw_pI (zw_pR (zw_pI (zw_pR S 8 0 9) 8 1 0) 8 2 10) 8 3 0) 8 4 11) 8 5 0) 8 6 12) 8 7 0) 8 8 13) 8 9 0) 8 10 14) 8 11 0) 8 12 15) 8 13 16) 8 14 0)) 9 0 17)) 9 1 20)) 9 2 23)) 9 3 26)) 10 0 29)) d_X1_init_151 (by decide +kernel) ce_X0_init (Nat.le_of_ble_eq_true rfl) rfl (Nat.le_of_ble_eq_true rfl) (by decide) ⟨by decide, by decide⟩ (by decide) (k_X0_init_31 hZ ⟨rfl, rfl⟩) ?_
  rintro _ _ ⟨rfl, rfl⟩
  have hZ := kZ_X0_init_31 hZ
  show zw_V X M_X1_init 2 56 2672 8 P (151 + 3) 24 1408 [.ref 8, .int 1] [.ref 31, .int 1, .ref 10] (kS_X0_init_31 (zw_pR (kS_X0_init_29 (zw_pR (kS_X7_init_26 (zw_pR (kS_X7_init_23 (zw_pR (kS_X7_init_20 (zw_pR (kS_X7_init_17 (zw_pI (zw_pR (zw_pR (zw_pI (zw_pR (zw_pI (zw_pR (zw_pI (zw_pR (zw_pI (zw_pR (zw_pI (zw_pR (zw_pI (zw_pR S 8 0 9) 8 1 0) 8 2 10) 8 3 0) 8 4 11) 8 5 0) 8 6 12) 8 7 0) 8 8 13) 8 9 0) 8 10 14) 8 11 0) 8 12 15) 8 13 16) 8 14 0)) 9 0 17)) 9 1 20)) 9 2 23)) 9 3 26)) 10 0 29))
  refine kx_aast (pc := 154) (o := 10) (κ := 16) (j := 1) d_X1_init_154 ⟨by decide, by decide⟩ (by decide +kernel) (by decide) (by decide +kernel) (by decide +kernel) ⟨by decide, by decide⟩ (by decide +kernel) ?_
  have hZ := hZ.pR (o := 10) (j := 1) (v := 31) (by decide)
  refine kx_iinc (pc := 155) (x2 := 2) (L2 := [.ref 8, .int 2]) d_X1_init_155 (by decide) rfl zc_i_1 (by decide +kernel) rfl ?_
  refine zv_goto (pc := 158) (tg := 136) d_X1_init_158 (by decide) ?_
  refine zv_iload_n (pc := 136) d_X1_init_136 rfl ?_
  refine zv_bipush (pc := 137) d_X1_init_137 zc_b_6 ?_
  refine zv_icmp_ge (pc := 139) (tg := 161) d_X1_init_139 (by decide) (fun q => absurd q (by decide +kernel)) (fun _ => ?_)
  refine zv_aload_n (pc := 142) d_X1_init_142 rfl ?_
  refine kx_getR (pc := 143) (o := 8) (v := 10) d_X1_init_143 lk_CutStones_House_23 (by decide) ⟨by decide, by decide⟩ (by decide +kernel) rfl (by decide) ?_
  refine zv_iload_n (pc := 146) d_X1_init_146 rfl ?_
  refine kx_new (pc := 147) (c := 0) d_X1_init_147 rfl ⟨(zw_mG (List.mem_of_getElem? (i := 167) (by decide +kernel)) rfl), (zw_mG (List.mem_of_getElem? (i := 191) (by decide +kernel)) rfl), (zw_mG (List.mem_of_getElem? (i := 101) (by decide +kernel)) rfl)⟩ (by decide) rfl hZ ⟨by decide, by decide⟩ (by decide) (by decide +kernel) ?_
  have hZ := hZ.up
  refine zv_dup (pc := 150) d_X1_init_150 rfl ?_
  refine zv_callIN (pc := 151) (As := []) (o := 33) (st := [.ref 33, .int 2, .ref 10]) (d2 := 1) (mc2 := 1) (ms2 := 144) (M2 := M_X0_init) (R2 := fun r T => r = none ∧ T = kS_X0_init_33 (zw_pR (kS_X0_init_31 (zw_pR (kS_X0_init_29 (zw_pR (kS_X7_init_26 (zw_pR (kS_X7_init_23 (zw_pR (kS_X7_init_20 (zw_pR (kS_X7_init_17 (zw_pI (zw_pR (zw_pR (zw_pI (zw_pR (zw_pI (zw_pR (zw_pI (zw_pR (zw_pI (zw_pR (zw_pI (zw_pR (zw_pI (zw_pR S 8 0 9) 8 1 0) 8 2 10) 8 3 0) 8 4 11) 8 5 0) 8 6 12) 8 7 0) 8 8 13) 8 9 0) 8 10 14) 8 11 0) 8 12 15) 8 13 16) 8 14 0)) 9 0 17)) 9 1 20)) 9 2 23)) 9 3 26)) 10 0 29)) 10 1 31)) d_X1_init_151 (by decide +kernel) ce_X0_init (Nat.le_of_ble_eq_true rfl) rfl (Nat.le_of_ble_eq_true rfl) (by decide) ⟨by decide, by decide⟩ (by decide) (k_X0_init_33 hZ ⟨rfl, rfl⟩) ?_
  rintro _ _ ⟨rfl, rfl⟩
  have hZ := kZ_X0_init_33 hZ
  show zw_V X M_X1_init 2 56 2672 8 P (151 + 3) 26 1560 [.ref 8, .int 2] [.ref 33, .int 2, .ref 10] (kS_X0_init_33 (zw_pR (kS_X0_init_31 (zw_pR (kS_X0_init_29 (zw_pR (kS_X7_init_26 (zw_pR (kS_X7_init_23 (zw_pR (kS_X7_init_20 (zw_pR (kS_X7_init_17 (zw_pI (zw_pR (zw_pR (zw_pI (zw_pR (zw_pI (zw_pR (zw_pI (zw_pR (zw_pI (zw_pR (zw_pI (zw_pR (zw_pI (zw_pR S 8 0 9) 8 1 0) 8 2 10) 8 3 0) 8 4 11) 8 5 0) 8 6 12) 8 7 0) 8 8 13) 8 9 0) 8 10 14) 8 11 0) 8 12 15) 8 13 16) 8 14 0)) 9 0 17)) 9 1 20)) 9 2 23)) 9 3 26)) 10 0 29)) 10 1 31))
  refine kx_aast (pc := 154) (o := 10) (κ := 16) (j := 2) d_X1_init_154 ⟨by decide, by decide⟩ (by decide +kernel) (by decide) (by decide +kernel) (by decide +kernel) ⟨by decide, by decide⟩ (by decide +kernel) ?_
  have hZ := hZ.pR (o := 10) (j := 2) (v := 33) (by decide)
  refine kx_iinc (pc := 155) (x2 := 3) (L2 := [.ref 8, .int 3]) d_X1_init_155 (by decide) rfl zc_i_1 (by decide +kernel) rfl ?_
  refine zv_goto (pc := 158) (tg := 136) d_X1_init_158 (by decide) ?_
  refine zv_iload_n (pc := 136) d_X1_init_136 rfl ?_
  refine zv_bipush (pc := 137) d_X1_init_137 zc_b_6 ?_
  refine zv_icmp_ge (pc := 139) (tg := 161) d_X1_init_139 (by decide) (fun q => absurd q (by decide +kernel)) (fun _ => ?_)
  refine zv_aload_n (pc := 142) d_X1_init_142 rfl ?_
  refine kx_getR (pc := 143) (o := 8) (v := 10) d_X1_init_143 lk_CutStones_House_23 (by decide) ⟨by decide, by decide⟩ (by decide +kernel) rfl (by decide) ?_
  refine zv_iload_n (pc := 146) d_X1_init_146 rfl ?_
  refine kx_new (pc := 147) (c := 0) d_X1_init_147 rfl ⟨(zw_mG (List.mem_of_getElem? (i := 167) (by decide +kernel)) rfl), (zw_mG (List.mem_of_getElem? (i := 191) (by decide +kernel)) rfl), (zw_mG (List.mem_of_getElem? (i := 101) (by decide +kernel)) rfl)⟩ (by decide) rfl hZ ⟨by decide, by decide⟩ (by decide) (by decide +kernel) ?_
  have hZ := hZ.up
  refine zv_dup (pc := 150) d_X1_init_150 rfl ?_
  refine zv_callIN (pc := 151) (As := []) (o := 35) (st := [.ref 35, .int 3, .ref 10]) (d2 := 1) (mc2 := 1) (ms2 := 144) (M2 := M_X0_init) (R2 := fun r T => r = none ∧ T = kS_X0_init_35 (zw_pR (kS_X0_init_33 (zw_pR (kS_X0_init_31 (zw_pR (kS_X0_init_29 (zw_pR (kS_X7_init_26 (zw_pR (kS_X7_init_23 (zw_pR (kS_X7_init_20 (zw_pR (kS_X7_init_17 (zw_pI (zw_pR (zw_pR (zw_pI (zw_pR (zw_pI (zw_pR (zw_pI (zw_pR (zw_pI (zw_pR (zw_pI (zw_pR (zw_pI (zw_pR S 8 0 9) 8 1 0) 8 2 10) 8 3 0) 8 4 11) 8 5 0) 8 6 12) 8 7 0) 8 8 13) 8 9 0) 8 10 14) 8 11 0) 8 12 15) 8 13 16) 8 14 0)) 9 0 17)) 9 1 20)) 9 2 23)) 9 3 26)) 10 0 29)) 10 1 31)) 10 2 33)) d_X1_init_151 (by decide +kernel) ce_X0_init (Nat.le_of_ble_eq_true rfl) rfl (Nat.le_of_ble_eq_true rfl) (by decide) ⟨by decide, by decide⟩ (by decide) (k_X0_init_35 hZ ⟨rfl, rfl⟩) ?_
  rintro _ _ ⟨rfl, rfl⟩
  have hZ := kZ_X0_init_35 hZ
  show zw_V X M_X1_init 2 56 2672 8 P (151 + 3) 28 1712 [.ref 8, .int 3] [.ref 35, .int 3, .ref 10] (kS_X0_init_35 (zw_pR (kS_X0_init_33 (zw_pR (kS_X0_init_31 (zw_pR (kS_X0_init_29 (zw_pR (kS_X7_init_26 (zw_pR (kS_X7_init_23 (zw_pR (kS_X7_init_20 (zw_pR (kS_X7_init_17 (zw_pI (zw_pR (zw_pR (zw_pI (zw_pR (zw_pI (zw_pR (zw_pI (zw_pR (zw_pI (zw_pR (zw_pI (zw_pR (zw_pI (zw_pR S 8 0 9) 8 1 0) 8 2 10) 8 3 0) 8 4 11) 8 5 0) 8 6 12) 8 7 0) 8 8 13) 8 9 0) 8 10 14) 8 11 0) 8 12 15) 8 13 16) 8 14 0)) 9 0 17)) 9 1 20)) 9 2 23)) 9 3 26)) 10 0 29)) 10 1 31)) 10 2 33))
  refine kx_aast (pc := 154) (o := 10) (κ := 16) (j := 3) d_X1_init_154 ⟨by decide, by decide⟩ (by decide +kernel) (by decide) (by decide +kernel) (by decide +kernel) ⟨by decide, by decide⟩ (by decide +kernel) ?_
  have hZ := hZ.pR (o := 10) (j := 3) (v := 35) (by decide)
  refine kx_iinc (pc := 155) (x2 := 4) (L2 := [.ref 8, .int 4]) d_X1_init_155 (by decide) rfl zc_i_1 (by decide +kernel) rfl ?_
  refine zv_goto (pc := 158) (tg := 136) d_X1_init_158 (by decide) ?_
  refine zv_iload_n (pc := 136) d_X1_init_136 rfl ?_
  refine zv_bipush (pc := 137) d_X1_init_137 zc_b_6 ?_
  refine zv_icmp_ge (pc := 139) (tg := 161) d_X1_init_139 (by decide) (fun q => absurd q (by decide +kernel)) (fun _ => ?_)
  refine zv_aload_n (pc := 142) d_X1_init_142 rfl ?_
  refine kx_getR (pc := 143) (o := 8) (v := 10) d_X1_init_143 lk_CutStones_House_23 (by decide) ⟨by decide, by decide⟩ (by decide +kernel) rfl (by decide) ?_
  refine zv_iload_n (pc := 146) d_X1_init_146 rfl ?_
  refine kx_new (pc := 147) (c := 0) d_X1_init_147 rfl ⟨(zw_mG (List.mem_of_getElem? (i := 167) (by decide +kernel)) rfl), (zw_mG (List.mem_of_getElem? (i := 191) (by decide +kernel)) rfl), (zw_mG (List.mem_of_getElem? (i := 101) (by decide +kernel)) rfl)⟩ (by decide) rfl hZ ⟨by decide, by decide⟩ (by decide) (by decide +kernel) ?_
  have hZ := hZ.up
  refine zv_dup (pc := 150) d_X1_init_150 rfl ?_
  refine zv_callIN (pc := 151) (As := []) (o := 37) (st := [.ref 37, .int 4, .ref 10]) (d2 := 1) (mc2 := 1) (ms2 := 144) (M2 := M_X0_init) (R2 := fun r T => r = none ∧ T = kS_X0_init_37 (zw_pR (kS_X0_init_35 (zw_pR (kS_X0_init_33 (zw_pR (kS_X0_init_31 (zw_pR (kS_X0_init_29 (zw_pR (kS_X7_init_26 (zw_pR (kS_X7_init_23 (zw_pR (kS_X7_init_20 (zw_pR (kS_X7_init_17 (zw_pI (zw_pR (zw_pR (zw_pI (zw_pR (zw_pI (zw_pR (zw_pI (zw_pR (zw_pI (zw_pR (zw_pI (zw_pR (zw_pI (zw_pR S 8 0 9) 8 1 0) 8 2 10) 8 3 0) 8 4 11) 8 5 0) 8 6 12) 8 7 0) 8 8 13) 8 9 0) 8 10 14) 8 11 0) 8 12 15) 8 13 16) 8 14 0)) 9 0 17)) 9 1 20)) 9 2 23)) 9 3 26)) 10 0 29)) 10 1 31)) 10 2 33)) 10 3 35)) d_X1_init_151 (by decide +kernel) ce_X0_init (Nat.le_of_ble_eq_true rfl) rfl (Nat.le_of_ble_eq_true rfl) (by decide) ⟨by decide, by decide⟩ (by decide) (k_X0_init_37 hZ ⟨rfl, rfl⟩) ?_
  rintro _ _ ⟨rfl, rfl⟩
  have hZ := kZ_X0_init_37 hZ
  show zw_V X M_X1_init 2 56 2672 8 P (151 + 3) 30 1864 [.ref 8, .int 4] [.ref 37, .int 4, .ref 10] (kS_X0_init_37 (zw_pR (kS_X0_init_35 (zw_pR (kS_X0_init_33 (zw_pR (kS_X0_init_31 (zw_pR (kS_X0_init_29 (zw_pR (kS_X7_init_26 (zw_pR (kS_X7_init_23 (zw_pR (kS_X7_init_20 (zw_pR (kS_X7_init_17 (zw_pI (zw_pR (zw_pR (zw_pI (zw_pR (zw_pI (zw_pR (zw_pI (zw_pR (zw_pI (zw_pR (zw_pI (zw_pR (zw_pI (zw_pR S 8 0 9) 8 1 0) 8 2 10) 8 3 0) 8 4 11) 8 5 0) 8 6 12) 8 7 0) 8 8 13) 8 9 0) 8 10 14) 8 11 0) 8 12 15) 8 13 16) 8 14 0)) 9 0 17)) 9 1 20)) 9 2 23)) 9 3 26)) 10 0 29)) 10 1 31)) 10 2 33)) 10 3 35))
  refine kx_aast (pc := 154) (o := 10) (κ := 16) (j := 4) d_X1_init_154 ⟨by decide, by decide⟩ (by decide +kernel) (by decide) (by decide +kernel) (by decide +kernel) ⟨by decide, by decide⟩ (by decide +kernel) ?_
  have hZ := hZ.pR (o := 10) (j := 4) (v := 37) (by decide)
  refine kx_iinc (pc := 155) (x2 := 5) (L2 := [.ref 8, .int 5]) d_X1_init_155 (by decide) rfl zc_i_1 (by decide +kernel) rfl ?_
  refine zv_goto (pc := 158) (tg := 136) d_X1_init_158 (by decide) ?_
  refine zv_iload_n (pc := 136) d_X1_init_136 rfl ?_
  refine zv_bipush (pc := 137) d_X1_init_137 zc_b_6 ?_
  refine zv_icmp_ge (pc := 139) (tg := 161) d_X1_init_139 (by decide) (fun q => absurd q (by decide +kernel)) (fun _ => ?_)
  refine zv_aload_n (pc := 142) d_X1_init_142 rfl ?_
  refine kx_getR (pc := 143) (o := 8) (v := 10) d_X1_init_143 lk_CutStones_House_23 (by decide) ⟨by decide, by decide⟩ (by decide +kernel) rfl (by decide) ?_
  refine zv_iload_n (pc := 146) d_X1_init_146 rfl ?_
  refine kx_new (pc := 147) (c := 0) d_X1_init_147 rfl ⟨(zw_mG (List.mem_of_getElem? (i := 167) (by decide +kernel)) rfl), (zw_mG (List.mem_of_getElem? (i := 191) (by decide +kernel)) rfl), (zw_mG (List.mem_of_getElem? (i := 101) (by decide +kernel)) rfl)⟩ (by decide) rfl hZ ⟨by decide, by decide⟩ (by decide) (by decide +kernel) ?_
  have hZ := hZ.up
  refine zv_dup (pc := 150) d_X1_init_150 rfl ?_
  refine zv_callIN (pc := 151) (As := []) (o := 39) (st := [.ref 39, .int 5, .ref 10]) (d2 := 1) (mc2 := 1) (ms2 := 144) (M2 := M_X0_init) (R2 := fun r T => r = none ∧ T = kS_X0_init_39 (zw_pR (kS_X0_init_37 (zw_pR (kS_X0_init_35 (zw_pR (kS_X0_init_33 (zw_pR (kS_X0_init_31 (zw_pR (kS_X0_init_29 (zw_pR (kS_X7_init_26 (zw_pR (kS_X7_init_23 (zw_pR (kS_X7_init_20 (zw_pR (kS_X7_init_17 (zw_pI (zw_pR (zw_pR (zw_pI (zw_pR (zw_pI (zw_pR (zw_pI (zw_pR (zw_pI (zw_pR (zw_pI (zw_pR (zw_pI (zw_pR S 8 0 9) 8 1 0) 8 2 10) 8 3 0) 8 4 11) 8 5 0) 8 6 12) 8 7 0) 8 8 13) 8 9 0) 8 10 14) 8 11 0) 8 12 15) 8 13 16) 8 14 0)) 9 0 17)) 9 1 20)) 9 2 23)) 9 3 26)) 10 0 29)) 10 1 31)) 10 2 33)) 10 3 35)) 10 4 37)) d_X1_init_151 (by decide +kernel) ce_X0_init (Nat.le_of_ble_eq_true rfl) rfl (Nat.le_of_ble_eq_true rfl) (by decide) ⟨by decide, by decide⟩ (by decide) (k_X0_init_39 hZ ⟨rfl, rfl⟩) ?_
  rintro _ _ ⟨rfl, rfl⟩
  have hZ := kZ_X0_init_39 hZ
  show zw_V X M_X1_init 2 56 2672 8 P (151 + 3) 32 2016 [.ref 8, .int 5] [.ref 39, .int 5, .ref 10] (kS_X0_init_39 (zw_pR (kS_X0_init_37 (zw_pR (kS_X0_init_35 (zw_pR (kS_X0_init_33 (zw_pR (kS_X0_init_31 (zw_pR (kS_X0_init_29 (zw_pR (kS_X7_init_26 (zw_pR (kS_X7_init_23 (zw_pR (kS_X7_init_20 (zw_pR (kS_X7_init_17 (zw_pI (zw_pR (zw_pR (zw_pI (zw_pR (zw_pI (zw_pR (zw_pI (zw_pR (zw_pI (zw_pR (zw_pI (zw_pR (zw_pI (zw_pR S 8 0 9) 8 1 0) 8 2 10) 8 3 0) 8 4 11) 8 5 0) 8 6 12) 8 7 0) 8 8 13) 8 9 0) 8 10 14) 8 11 0) 8 12 15) 8 13 16) 8 14 0)) 9 0 17)) 9 1 20)) 9 2 23)) 9 3 26)) 10 0 29)) 10 1 31)) 10 2 33)) 10 3 35)) 10 4 37))
  refine kx_aast (pc := 154) (o := 10) (κ := 16) (j := 5) d_X1_init_154 ⟨by decide, by decide⟩ (by decide +kernel) (by decide) (by decide +kernel) (by decide +kernel) ⟨by decide, by decide⟩ (by decide +kernel) ?_
  have hZ := hZ.pR (o := 10) (j := 5) (v := 39) (by decide)
  refine kx_iinc (pc := 155) (x2 := 6) (L2 := [.ref 8, .int 6]) d_X1_init_155 (by decide) rfl zc_i_1 (by decide +kernel) rfl ?_
  refine zv_goto (pc := 158) (tg := 136) d_X1_init_158 (by decide) ?_
  refine zv_iload_n (pc := 136) d_X1_init_136 rfl ?_
  refine zv_bipush (pc := 137) d_X1_init_137 zc_b_6 ?_
  refine zv_icmp_ge (pc := 139) (tg := 161) d_X1_init_139 (by decide) (fun _ => ?_) (fun q => absurd (by decide +kernel) q)
  refine zv_iconst (pc := 161) d_X1_init_161 zc_i_0 ?_
  refine kx_istore_n (pc := 162) (L2 := [.ref 8, .int 0]) d_X1_init_162 (by decide) rfl ?_
  refine zv_iload_n (pc := 163) d_X1_init_163 rfl ?_
  refine zv_iconst (pc := 164) d_X1_init_164 zc_i_4 ?_
  refine zv_icmp_ge (pc := 165) (tg := 187) d_X1_init_165 (by decide) (fun q => absurd q (by decide +kernel)) (fun _ => ?_)
  refine zv_aload_n (pc := 168) d_X1_init_168 rfl ?_
  refine kx_getR (pc := 169) (o := 8) (v := 11) d_X1_init_169 lk_CutStones_House_30 (by decide) ⟨by decide, by decide⟩ (by decide +kernel) rfl (by decide) ?_
  refine zv_iload_n (pc := 172) d_X1_init_172 rfl ?_
  refine kx_new (pc := 173) (c := 0) d_X1_init_173 rfl ⟨(zw_mG (List.mem_of_getElem? (i := 167) (by decide +kernel)) rfl), (zw_mG (List.mem_of_getElem? (i := 191) (by decide +kernel)) rfl), (zw_mG (List.mem_of_getElem? (i := 101) (by decide +kernel)) rfl)⟩ (by decide) rfl hZ ⟨by decide, by decide⟩ (by decide) (by decide +kernel) ?_
  have hZ := hZ.up
  refine zv_dup (pc := 176) d_X1_init_176 rfl ?_
  refine zv_callIN (pc := 177) (As := []) (o := 41) (st := [.ref 41, .int 0, .ref 11]) (d2 := 1) (mc2 := 1) (ms2 := 144) (M2 := M_X0_init) (R2 := fun r T => r = none ∧ T = kS_X0_init_41 (zw_pR (kS_X0_init_39 (zw_pR (kS_X0_init_37 (zw_pR (kS_X0_init_35 (zw_pR (kS_X0_init_33 (zw_pR (kS_X0_init_31 (zw_pR (kS_X0_init_29 (zw_pR (kS_X7_init_26 (zw_pR (kS_X7_init_23 (zw_pR (kS_X7_init_20 (zw_pR (kS_X7_init_17 (zw_pI (zw_pR (zw_pR (zw_pI (zw_pR (zw_pI (zw_pR (zw_pI (zw_pR (zw_pI (zw_pR (zw_pI (zw_pR (zw_pI (zw_pR S 8 0 9) 8 1 0) 8 2 10) 8 3 0) 8 4 11) 8 5 0) 8 6 12) 8 7 0) 8 8 13) 8 9 0) 8 10 14) 8 11 0) 8 12 15) 8 13 16) 8 14 0)) 9 0 17)) 9 1 20)) 9 2 23)) 9 3 26)) 10 0 29)) 10 1 31)) 10 2 33)) 10 3 35)) 10 4 37)) 10 5 39)) d_X1_init_177 (by decide +kernel) ce_X0_init (Nat.le_of_ble_eq_true rfl) rfl (Nat.le_of_ble_eq_true rfl) (by decide) ⟨by decide, by decide⟩ (by decide) (k_X0_init_41 hZ ⟨rfl, rfl⟩) ?_
  rintro _ _ ⟨rfl, rfl⟩
  have hZ := kZ_X0_init_41 hZ
  show zw_V X M_X1_init 2 56 2672 8 P (177 + 3) 34 2168 [.ref 8, .int 0] [.ref 41, .int 0, .ref 11] (kS_X0_init_41 (zw_pR (kS_X0_init_39 (zw_pR (kS_X0_init_37 (zw_pR (kS_X0_init_35 (zw_pR (kS_X0_init_33 (zw_pR (kS_X0_init_31 (zw_pR (kS_X0_init_29 (zw_pR (kS_X7_init_26 (zw_pR (kS_X7_init_23 (zw_pR (kS_X7_init_20 (zw_pR (kS_X7_init_17 (zw_pI (zw_pR (zw_pR (zw_pI (zw_pR (zw_pI (zw_pR (zw_pI (zw_pR (zw_pI (zw_pR (zw_pI (zw_pR (zw_pI (zw_pR S 8 0 9) 8 1 0) 8 2 10) 8 3 0) 8 4 11) 8 5 0) 8 6 12) 8 7 0) 8 8 13) 8 9 0) 8 10 14) 8 11 0) 8 12 15) 8 13 16) 8 14 0)) 9 0 17)) 9 1 20)) 9 2 23)) 9 3 26)) 10 0 29)) 10 1 31)) 10 2 33)) 10 3 35)) 10 4 37)) 10 5 39))
  refine kx_aast (pc := 180) (o := 11) (κ := 16) (j := 0) d_X1_init_180 ⟨by decide, by decide⟩ (by decide +kernel) (by decide) (by decide +kernel) (by decide +kernel) ⟨by decide, by decide⟩ (by decide +kernel) ?_
  have hZ := hZ.pR (o := 11) (j := 0) (v := 41) (by decide)
  refine kx_iinc (pc := 181) (x2 := 1) (L2 := [.ref 8, .int 1]) d_X1_init_181 (by decide) rfl zc_i_1 (by decide +kernel) rfl ?_
  refine zv_goto (pc := 184) (tg := 163) d_X1_init_184 (by decide) ?_
  refine zv_iload_n (pc := 163) d_X1_init_163 rfl ?_
  refine zv_iconst (pc := 164) d_X1_init_164 zc_i_4 ?_
  refine zv_icmp_ge (pc := 165) (tg := 187) d_X1_init_165 (by decide) (fun q => absurd q (by decide +kernel)) (fun _ => ?_)
  refine zv_aload_n (pc := 168) d_X1_init_168 rfl ?_
  refine kx_getR (pc := 169) (o := 8) (v := 11) d_X1_init_169 lk_CutStones_House_30 (by decide) ⟨by decide, by decide⟩ (by decide +kernel) rfl (by decide) ?_
  refine zv_iload_n (pc := 172) d_X1_init_172 rfl ?_
  refine kx_new (pc := 173) (c := 0) d_X1_init_173 rfl ⟨(zw_mG (List.mem_of_getElem? (i := 167) (by decide +kernel)) rfl), (zw_mG (List.mem_of_getElem? (i := 191) (by decide +kernel)) rfl), (zw_mG (List.mem_of_getElem? (i := 101) (by decide +kernel)) rfl)⟩ (by decide) rfl hZ ⟨by decide, by decide⟩ (by decide) (by decide +kernel) ?_
  have hZ := hZ.up
  refine zv_dup (pc := 176) d_X1_init_176 rfl ?_
  refine zv_callIN (pc := 177) (As := []) (o := 43) (st := [.ref 43, .int 1, .ref 11]) (d2 := 1) (mc2 := 1) (ms2 := 144) (M2 := M_X0_init) (R2 := fun r T => r = none ∧ T = kS_X0_init_43 (zw_pR (kS_X0_init_41 (zw_pR (kS_X0_init_39 (zw_pR (kS_X0_init_37 (zw_pR (kS_X0_init_35 (zw_pR (kS_X0_init_33 (zw_pR (kS_X0_init_31 (zw_pR (kS_X0_init_29 (zw_pR (kS_X7_init_26 (zw_pR (kS_X7_init_23 (zw_pR (kS_X7_init_20 (zw_pR (kS_X7_init_17 (zw_pI (zw_pR (zw_pR (zw_pI (zw_pR (zw_pI (zw_pR (zw_pI (zw_pR (zw_pI (zw_pR (zw_pI (zw_pR (zw_pI (zw_pR S 8 0 9) 8 1 0) 8 2 10) 8 3 0) 8 4 11) 8 5 0) 8 6 12) 8 7 0) 8 8 13) 8 9 0) 8 10 14) 8 11 0) 8 12 15) 8 13 16) 8 14 0)) 9 0 17)) 9 1 20)) 9 2 23)) 9 3 26)) 10 0 29)) 10 1 31)) 10 2 33)) 10 3 35)) 10 4 37)) 10 5 39)) 11 0 41)) d_X1_init_177 (by decide +kernel) ce_X0_init (Nat.le_of_ble_eq_true rfl) rfl (Nat.le_of_ble_eq_true rfl) (by decide) ⟨by decide, by decide⟩ (by decide) (k_X0_init_43 hZ ⟨rfl, rfl⟩) ?_
  rintro _ _ ⟨rfl, rfl⟩
  have hZ := kZ_X0_init_43 hZ
  show zw_V X M_X1_init 2 56 2672 8 P (177 + 3) 36 2320 [.ref 8, .int 1] [.ref 43, .int 1, .ref 11] (kS_X0_init_43 (zw_pR (kS_X0_init_41 (zw_pR (kS_X0_init_39 (zw_pR (kS_X0_init_37 (zw_pR (kS_X0_init_35 (zw_pR (kS_X0_init_33 (zw_pR (kS_X0_init_31 (zw_pR (kS_X0_init_29 (zw_pR (kS_X7_init_26 (zw_pR (kS_X7_init_23 (zw_pR (kS_X7_init_20 (zw_pR (kS_X7_init_17 (zw_pI (zw_pR (zw_pR (zw_pI (zw_pR (zw_pI (zw_pR (zw_pI (zw_pR (zw_pI (zw_pR (zw_pI (zw_pR (zw_pI (zw_pR S 8 0 9) 8 1 0) 8 2 10) 8 3 0) 8 4 11) 8 5 0) 8 6 12) 8 7 0) 8 8 13) 8 9 0) 8 10 14) 8 11 0) 8 12 15) 8 13 16) 8 14 0)) 9 0 17)) 9 1 20)) 9 2 23)) 9 3 26)) 10 0 29)) 10 1 31)) 10 2 33)) 10 3 35)) 10 4 37)) 10 5 39)) 11 0 41))
  refine kx_aast (pc := 180) (o := 11) (κ := 16) (j := 1) d_X1_init_180 ⟨by decide, by decide⟩ (by decide +kernel) (by decide) (by decide +kernel) (by decide +kernel) ⟨by decide, by decide⟩ (by decide +kernel) ?_
  have hZ := hZ.pR (o := 11) (j := 1) (v := 43) (by decide)
  refine kx_iinc (pc := 181) (x2 := 2) (L2 := [.ref 8, .int 2]) d_X1_init_181 (by decide) rfl zc_i_1 (by decide +kernel) rfl ?_
  refine zv_goto (pc := 184) (tg := 163) d_X1_init_184 (by decide) ?_
  refine zv_iload_n (pc := 163) d_X1_init_163 rfl ?_
  refine zv_iconst (pc := 164) d_X1_init_164 zc_i_4 ?_
  refine zv_icmp_ge (pc := 165) (tg := 187) d_X1_init_165 (by decide) (fun q => absurd q (by decide +kernel)) (fun _ => ?_)
  refine zv_aload_n (pc := 168) d_X1_init_168 rfl ?_
  refine kx_getR (pc := 169) (o := 8) (v := 11) d_X1_init_169 lk_CutStones_House_30 (by decide) ⟨by decide, by decide⟩ (by decide +kernel) rfl (by decide) ?_
  refine zv_iload_n (pc := 172) d_X1_init_172 rfl ?_
  refine kx_new (pc := 173) (c := 0) d_X1_init_173 rfl ⟨(zw_mG (List.mem_of_getElem? (i := 167) (by decide +kernel)) rfl), (zw_mG (List.mem_of_getElem? (i := 191) (by decide +kernel)) rfl), (zw_mG (List.mem_of_getElem? (i := 101) (by decide +kernel)) rfl)⟩ (by decide) rfl hZ ⟨by decide, by decide⟩ (by decide) (by decide +kernel) ?_
  have hZ := hZ.up
  refine zv_dup (pc := 176) d_X1_init_176 rfl ?_
  refine zv_callIN (pc := 177) (As := []) (o := 45) (st := [.ref 45, .int 2, .ref 11]) (d2 := 1) (mc2 := 1) (ms2 := 144) (M2 := M_X0_init) (R2 := fun r T => r = none ∧ T = kS_X0_init_45 (zw_pR (kS_X0_init_43 (zw_pR (kS_X0_init_41 (zw_pR (kS_X0_init_39 (zw_pR (kS_X0_init_37 (zw_pR (kS_X0_init_35 (zw_pR (kS_X0_init_33 (zw_pR (kS_X0_init_31 (zw_pR (kS_X0_init_29 (zw_pR (kS_X7_init_26 (zw_pR (kS_X7_init_23 (zw_pR (kS_X7_init_20 (zw_pR (kS_X7_init_17 (zw_pI (zw_pR (zw_pR (zw_pI (zw_pR (zw_pI (zw_pR (zw_pI (zw_pR (zw_pI (zw_pR (zw_pI (zw_pR (zw_pI (zw_pR S 8 0 9) 8 1 0) 8 2 10) 8 3 0) 8 4 11) 8 5 0) 8 6 12) 8 7 0) 8 8 13) 8 9 0) 8 10 14) 8 11 0) 8 12 15) 8 13 16) 8 14 0)) 9 0 17)) 9 1 20)) 9 2 23)) 9 3 26)) 10 0 29)) 10 1 31)) 10 2 33)) 10 3 35)) 10 4 37)) 10 5 39)) 11 0 41)) 11 1 43)) d_X1_init_177 (by decide +kernel) ce_X0_init (Nat.le_of_ble_eq_true rfl) rfl (Nat.le_of_ble_eq_true rfl) (by decide) ⟨by decide, by decide⟩ (by decide) (k_X0_init_45 hZ ⟨rfl, rfl⟩) ?_
  rintro _ _ ⟨rfl, rfl⟩
  have hZ := kZ_X0_init_45 hZ
  show zw_V X M_X1_init 2 56 2672 8 P (177 + 3) 38 2472 [.ref 8, .int 2] [.ref 45, .int 2, .ref 11] (kS_X0_init_45 (zw_pR (kS_X0_init_43 (zw_pR (kS_X0_init_41 (zw_pR (kS_X0_init_39 (zw_pR (kS_X0_init_37 (zw_pR (kS_X0_init_35 (zw_pR (kS_X0_init_33 (zw_pR (kS_X0_init_31 (zw_pR (kS_X0_init_29 (zw_pR (kS_X7_init_26 (zw_pR (kS_X7_init_23 (zw_pR (kS_X7_init_20 (zw_pR (kS_X7_init_17 (zw_pI (zw_pR (zw_pR (zw_pI (zw_pR (zw_pI (zw_pR (zw_pI (zw_pR (zw_pI (zw_pR (zw_pI (zw_pR (zw_pI (zw_pR S 8 0 9) 8 1 0) 8 2 10) 8 3 0) 8 4 11) 8 5 0) 8 6 12) 8 7 0) 8 8 13) 8 9 0) 8 10 14) 8 11 0) 8 12 15) 8 13 16) 8 14 0)) 9 0 17)) 9 1 20)) 9 2 23)) 9 3 26)) 10 0 29)) 10 1 31)) 10 2 33)) 10 3 35)) 10 4 37)) 10 5 39)) 11 0 41)) 11 1 43))
  refine kx_aast (pc := 180) (o := 11) (κ := 16) (j := 2) d_X1_init_180 ⟨by decide, by decide⟩ (by decide +kernel) (by decide) (by decide +kernel) (by decide +kernel) ⟨by decide, by decide⟩ (by decide +kernel) ?_
  have hZ := hZ.pR (o := 11) (j := 2) (v := 45) (by decide)
  refine kx_iinc (pc := 181) (x2 := 3) (L2 := [.ref 8, .int 3]) d_X1_init_181 (by decide) rfl zc_i_1 (by decide +kernel) rfl ?_
  refine zv_goto (pc := 184) (tg := 163) d_X1_init_184 (by decide) ?_
  refine zv_iload_n (pc := 163) d_X1_init_163 rfl ?_
  refine zv_iconst (pc := 164) d_X1_init_164 zc_i_4 ?_
  refine zv_icmp_ge (pc := 165) (tg := 187) d_X1_init_165 (by decide) (fun q => absurd q (by decide +kernel)) (fun _ => ?_)
  refine zv_aload_n (pc := 168) d_X1_init_168 rfl ?_
  refine kx_getR (pc := 169) (o := 8) (v := 11) d_X1_init_169 lk_CutStones_House_30 (by decide) ⟨by decide, by decide⟩ (by decide +kernel) rfl (by decide) ?_
  refine zv_iload_n (pc := 172) d_X1_init_172 rfl ?_
  refine kx_new (pc := 173) (c := 0) d_X1_init_173 rfl ⟨(zw_mG (List.mem_of_getElem? (i := 167) (by decide +kernel)) rfl), (zw_mG (List.mem_of_getElem? (i := 191) (by decide +kernel)) rfl), (zw_mG (List.mem_of_getElem? (i := 101) (by decide +kernel)) rfl)⟩ (by decide) rfl hZ ⟨by decide, by decide⟩ (by decide) (by decide +kernel) ?_
  have hZ := hZ.up
  refine zv_dup (pc := 176) d_X1_init_176 rfl ?_
  refine zv_callIN (pc := 177) (As := []) (o := 47) (st := [.ref 47, .int 3, .ref 11]) (d2 := 1) (mc2 := 1) (ms2 := 144) (M2 := M_X0_init) (R2 := fun r T => r = none ∧ T = kS_X0_init_47 (zw_pR (kS_X0_init_45 (zw_pR (kS_X0_init_43 (zw_pR (kS_X0_init_41 (zw_pR (kS_X0_init_39 (zw_pR (kS_X0_init_37 (zw_pR (kS_X0_init_35 (zw_pR (kS_X0_init_33 (zw_pR (kS_X0_init_31 (zw_pR (kS_X0_init_29 (zw_pR (kS_X7_init_26 (zw_pR (kS_X7_init_23 (zw_pR (kS_X7_init_20 (zw_pR (kS_X7_init_17 (zw_pI (zw_pR (zw_pR (zw_pI (zw_pR (zw_pI (zw_pR (zw_pI (zw_pR (zw_pI (zw_pR (zw_pI (zw_pR (zw_pI (zw_pR S 8 0 9) 8 1 0) 8 2 10) 8 3 0) 8 4 11) 8 5 0) 8 6 12) 8 7 0) 8 8 13) 8 9 0) 8 10 14) 8 11 0) 8 12 15) 8 13 16) 8 14 0)) 9 0 17)) 9 1 20)) 9 2 23)) 9 3 26)) 10 0 29)) 10 1 31)) 10 2 33)) 10 3 35)) 10 4 37)) 10 5 39)) 11 0 41)) 11 1 43)) 11 2 45)) d_X1_init_177 (by decide +kernel) ce_X0_init (Nat.le_of_ble_eq_true rfl) rfl (Nat.le_of_ble_eq_true rfl) (by decide) ⟨by decide, by decide⟩ (by decide) (k_X0_init_47 hZ ⟨rfl, rfl⟩) ?_
  rintro _ _ ⟨rfl, rfl⟩
  have hZ := kZ_X0_init_47 hZ
  show zw_V X M_X1_init 2 56 2672 8 P (177 + 3) 40 2624 [.ref 8, .int 3] [.ref 47, .int 3, .ref 11] (kS_X0_init_47 (zw_pR (kS_X0_init_45 (zw_pR (kS_X0_init_43 (zw_pR (kS_X0_init_41 (zw_pR (kS_X0_init_39 (zw_pR (kS_X0_init_37 (zw_pR (kS_X0_init_35 (zw_pR (kS_X0_init_33 (zw_pR (kS_X0_init_31 (zw_pR (kS_X0_init_29 (zw_pR (kS_X7_init_26 (zw_pR (kS_X7_init_23 (zw_pR (kS_X7_init_20 (zw_pR (kS_X7_init_17 (zw_pI (zw_pR (zw_pR (zw_pI (zw_pR (zw_pI (zw_pR (zw_pI (zw_pR (zw_pI (zw_pR (zw_pI (zw_pR (zw_pI (zw_pR S 8 0 9) 8 1 0) 8 2 10) 8 3 0) 8 4 11) 8 5 0) 8 6 12) 8 7 0) 8 8 13) 8 9 0) 8 10 14) 8 11 0) 8 12 15) 8 13 16) 8 14 0)) 9 0 17)) 9 1 20)) 9 2 23)) 9 3 26)) 10 0 29)) 10 1 31)) 10 2 33)) 10 3 35)) 10 4 37)) 10 5 39)) 11 0 41)) 11 1 43)) 11 2 45))
  refine kx_aast (pc := 180) (o := 11) (κ := 16) (j := 3) d_X1_init_180 ⟨by decide, by decide⟩ (by decide +kernel) (by decide) (by decide +kernel) (by decide +kernel) ⟨by decide, by decide⟩ (by decide +kernel) ?_
  have hZ := hZ.pR (o := 11) (j := 3) (v := 47) (by decide)
  refine kx_iinc (pc := 181) (x2 := 4) (L2 := [.ref 8, .int 4]) d_X1_init_181 (by decide) rfl zc_i_1 (by decide +kernel) rfl ?_
  refine zv_goto (pc := 184) (tg := 163) d_X1_init_184 (by decide) ?_
  refine zv_iload_n (pc := 163) d_X1_init_163 rfl ?_
  refine zv_iconst (pc := 164) d_X1_init_164 zc_i_4 ?_
  refine zv_icmp_ge (pc := 165) (tg := 187) d_X1_init_165 (by decide) (fun _ => ?_) (fun q => absurd (by decide +kernel) q)
  refine zv_iconst (pc := 187) d_X1_init_187 zc_i_0 ?_
  refine kx_istore_n (pc := 188) (L2 := [.ref 8, .int 0]) d_X1_init_188 (by decide) rfl ?_
  refine zv_iload_n (pc := 189) d_X1_init_189 rfl ?_
  refine zv_bipush (pc := 190) d_X1_init_190 zc_b_8 ?_
  refine zv_icmp_ge (pc := 192) (tg := 214) d_X1_init_192 (by decide) (fun q => absurd q (by decide +kernel)) (fun _ => ?_)
  refine zv_aload_n (pc := 195) d_X1_init_195 rfl ?_
  refine kx_getR (pc := 196) (o := 8) (v := 12) d_X1_init_196 lk_CutStones_House_38 (by decide) ⟨by decide, by decide⟩ (by decide +kernel) rfl (by decide) ?_
  refine zv_iload_n (pc := 199) d_X1_init_199 rfl ?_
  refine kx_new (pc := 200) (c := 5) d_X1_init_200 rfl ⟨(zw_mG (List.mem_of_getElem? (i := 169) (by decide +kernel)) rfl), (zw_mG (List.mem_of_getElem? (i := 234) (by decide +kernel)) rfl), (zw_mG (List.mem_of_getElem? (i := 102) (by decide +kernel)) rfl)⟩ (by decide) rfl hZ ⟨by decide, by decide⟩ (by decide) (by decide +kernel) ?_
  have hZ := hZ.up
  refine zv_dup (pc := 203) d_X1_init_203 rfl ?_
  refine zv_callIN (pc := 204) (As := []) (o := 49) (st := [.ref 49, .int 0, .ref 12]) (d2 := 1) (mc2 := 0) (ms2 := 0) (M2 := M_X5_init) (R2 := fun r T => r = none ∧ T = kS_X5_init_49 (zw_pR (kS_X0_init_47 (zw_pR (kS_X0_init_45 (zw_pR (kS_X0_init_43 (zw_pR (kS_X0_init_41 (zw_pR (kS_X0_init_39 (zw_pR (kS_X0_init_37 (zw_pR (kS_X0_init_35 (zw_pR (kS_X0_init_33 (zw_pR (kS_X0_init_31 (zw_pR (kS_X0_init_29 (zw_pR (kS_X7_init_26 (zw_pR (kS_X7_init_23 (zw_pR (kS_X7_init_20 (zw_pR (kS_X7_init_17 (zw_pI (zw_pR (zw_pR (zw_pI (zw_pR (zw_pI (zw_pR (zw_pI (zw_pR (zw_pI (zw_pR (zw_pI (zw_pR (zw_pI (zw_pR S 8 0 9) 8 1 0) 8 2 10) 8 3 0) 8 4 11) 8 5 0) 8 6 12) 8 7 0) 8 8 13) 8 9 0) 8 10 14) 8 11 0) 8 12 15) 8 13 16) 8 14 0)) 9 0 17)) 9 1 20)) 9 2 23)) 9 3 26)) 10 0 29)) 10 1 31)) 10 2 33)) 10 3 35)) 10 4 37)) 10 5 39)) 11 0 41)) 11 1 43)) 11 2 45)) 11 3 47)) d_X1_init_204 (by decide +kernel) ce_X5_init (Nat.le_of_ble_eq_true rfl) rfl (Nat.le_of_ble_eq_true rfl) (by decide) ⟨by decide, by decide⟩ (by decide) (k_X5_init_49 hZ ⟨rfl, rfl⟩) ?_
  rintro _ _ ⟨rfl, rfl⟩
  have hZ := kZ_X5_init_49 hZ
  show zw_V X M_X1_init 2 56 2672 8 P (204 + 3) 41 2627 [.ref 8, .int 0] [.ref 49, .int 0, .ref 12] (kS_X5_init_49 (zw_pR (kS_X0_init_47 (zw_pR (kS_X0_init_45 (zw_pR (kS_X0_init_43 (zw_pR (kS_X0_init_41 (zw_pR (kS_X0_init_39 (zw_pR (kS_X0_init_37 (zw_pR (kS_X0_init_35 (zw_pR (kS_X0_init_33 (zw_pR (kS_X0_init_31 (zw_pR (kS_X0_init_29 (zw_pR (kS_X7_init_26 (zw_pR (kS_X7_init_23 (zw_pR (kS_X7_init_20 (zw_pR (kS_X7_init_17 (zw_pI (zw_pR (zw_pR (zw_pI (zw_pR (zw_pI (zw_pR (zw_pI (zw_pR (zw_pI (zw_pR (zw_pI (zw_pR (zw_pI (zw_pR S 8 0 9) 8 1 0) 8 2 10) 8 3 0) 8 4 11) 8 5 0) 8 6 12) 8 7 0) 8 8 13) 8 9 0) 8 10 14) 8 11 0) 8 12 15) 8 13 16) 8 14 0)) 9 0 17)) 9 1 20)) 9 2 23)) 9 3 26)) 10 0 29)) 10 1 31)) 10 2 33)) 10 3 35)) 10 4 37)) 10 5 39)) 11 0 41)) 11 1 43)) 11 2 45)) 11 3 47))
  refine kx_aast (pc := 207) (o := 12) (κ := 17) (j := 0) d_X1_init_207 ⟨by decide, by decide⟩ (by decide +kernel) (by decide) (by decide +kernel) (by decide +kernel) ⟨by decide, by decide⟩ (by decide +kernel) ?_
  have hZ := hZ.pR (o := 12) (j := 0) (v := 49) (by decide)
  refine kx_iinc (pc := 208) (x2 := 1) (L2 := [.ref 8, .int 1]) d_X1_init_208 (by decide) rfl zc_i_1 (by decide +kernel) rfl ?_
  refine zv_goto (pc := 211) (tg := 189) d_X1_init_211 (by decide) ?_
  refine zv_iload_n (pc := 189) d_X1_init_189 rfl ?_
  refine zv_bipush (pc := 190) d_X1_init_190 zc_b_8 ?_
  refine zv_icmp_ge (pc := 192) (tg := 214) d_X1_init_192 (by decide) (fun q => absurd q (by decide +kernel)) (fun _ => ?_)
  refine zv_aload_n (pc := 195) d_X1_init_195 rfl ?_
  refine kx_getR (pc := 196) (o := 8) (v := 12) d_X1_init_196 lk_CutStones_House_38 (by decide) ⟨by decide, by decide⟩ (by decide +kernel) rfl (by decide) ?_
  refine zv_iload_n (pc := 199) d_X1_init_199 rfl ?_
  refine kx_new (pc := 200) (c := 5) d_X1_init_200 rfl ⟨(zw_mG (List.mem_of_getElem? (i := 169) (by decide +kernel)) rfl), (zw_mG (List.mem_of_getElem? (i := 234) (by decide +kernel)) rfl), (zw_mG (List.mem_of_getElem? (i := 102) (by decide +kernel)) rfl)⟩ (by decide) rfl hZ ⟨by decide, by decide⟩ (by decide) (by decide +kernel) ?_
  have hZ := hZ.up
  refine zv_dup (pc := 203) d_X1_init_203 rfl ?_
  refine zv_callIN (pc := 204) (As := []) (o := 50) (st := [.ref 50, .int 1, .ref 12]) (d2 := 1) (mc2 := 0) (ms2 := 0) (M2 := M_X5_init) (R2 := fun r T => r = none ∧ T = kS_X5_init_50 (zw_pR (kS_X5_init_49 (zw_pR (kS_X0_init_47 (zw_pR (kS_X0_init_45 (zw_pR (kS_X0_init_43 (zw_pR (kS_X0_init_41 (zw_pR (kS_X0_init_39 (zw_pR (kS_X0_init_37 (zw_pR (kS_X0_init_35 (zw_pR (kS_X0_init_33 (zw_pR (kS_X0_init_31 (zw_pR (kS_X0_init_29 (zw_pR (kS_X7_init_26 (zw_pR (kS_X7_init_23 (zw_pR (kS_X7_init_20 (zw_pR (kS_X7_init_17 (zw_pI (zw_pR (zw_pR (zw_pI (zw_pR (zw_pI (zw_pR (zw_pI (zw_pR (zw_pI (zw_pR (zw_pI (zw_pR (zw_pI (zw_pR S 8 0 9) 8 1 0) 8 2 10) 8 3 0) 8 4 11) 8 5 0) 8 6 12) 8 7 0) 8 8 13) 8 9 0) 8 10 14) 8 11 0) 8 12 15) 8 13 16) 8 14 0)) 9 0 17)) 9 1 20)) 9 2 23)) 9 3 26)) 10 0 29)) 10 1 31)) 10 2 33)) 10 3 35)) 10 4 37)) 10 5 39)) 11 0 41)) 11 1 43)) 11 2 45)) 11 3 47)) 12 0 49)) d_X1_init_204 (by decide +kernel) ce_X5_init (Nat.le_of_ble_eq_true rfl) rfl (Nat.le_of_ble_eq_true rfl) (by decide) ⟨by decide, by decide⟩ (by decide) (k_X5_init_50 hZ ⟨rfl, rfl⟩) ?_
  rintro _ _ ⟨rfl, rfl⟩
  have hZ := kZ_X5_init_50 hZ
  show zw_V X M_X1_init 2 56 2672 8 P (204 + 3) 42 2630 [.ref 8, .int 1] [.ref 50, .int 1, .ref 12] (kS_X5_init_50 (zw_pR (kS_X5_init_49 (zw_pR (kS_X0_init_47 (zw_pR (kS_X0_init_45 (zw_pR (kS_X0_init_43 (zw_pR (kS_X0_init_41 (zw_pR (kS_X0_init_39 (zw_pR (kS_X0_init_37 (zw_pR (kS_X0_init_35 (zw_pR (kS_X0_init_33 (zw_pR (kS_X0_init_31 (zw_pR (kS_X0_init_29 (zw_pR (kS_X7_init_26 (zw_pR (kS_X7_init_23 (zw_pR (kS_X7_init_20 (zw_pR (kS_X7_init_17 (zw_pI (zw_pR (zw_pR (zw_pI (zw_pR (zw_pI (zw_pR (zw_pI (zw_pR (zw_pI (zw_pR (zw_pI (zw_pR (zw_pI (zw_pR S 8 0 9) 8 1 0) 8 2 10) 8 3 0) 8 4 11) 8 5 0) 8 6 12) 8 7 0) 8 8 13) 8 9 0) 8 10 14) 8 11 0) 8 12 15) 8 13 16) 8 14 0)) 9 0 17)) 9 1 20)) 9 2 23)) 9 3 26)) 10 0 29)) 10 1 31)) 10 2 33)) 10 3 35)) 10 4 37)) 10 5 39)) 11 0 41)) 11 1 43)) 11 2 45)) 11 3 47)) 12 0 49))
  refine kx_aast (pc := 207) (o := 12) (κ := 17) (j := 1) d_X1_init_207 ⟨by decide, by decide⟩ (by decide +kernel) (by decide) (by decide +kernel) (by decide +kernel) ⟨by decide, by decide⟩ (by decide +kernel) ?_
  have hZ := hZ.pR (o := 12) (j := 1) (v := 50) (by decide)
  refine kx_iinc (pc := 208) (x2 := 2) (L2 := [.ref 8, .int 2]) d_X1_init_208 (by decide) rfl zc_i_1 (by decide +kernel) rfl ?_
  refine zv_goto (pc := 211) (tg := 189) d_X1_init_211 (by decide) ?_
  refine zv_iload_n (pc := 189) d_X1_init_189 rfl ?_
  refine zv_bipush (pc := 190) d_X1_init_190 zc_b_8 ?_
  refine zv_icmp_ge (pc := 192) (tg := 214) d_X1_init_192 (by decide) (fun q => absurd q (by decide +kernel)) (fun _ => ?_)
  refine zv_aload_n (pc := 195) d_X1_init_195 rfl ?_
  refine kx_getR (pc := 196) (o := 8) (v := 12) d_X1_init_196 lk_CutStones_House_38 (by decide) ⟨by decide, by decide⟩ (by decide +kernel) rfl (by decide) ?_
  refine zv_iload_n (pc := 199) d_X1_init_199 rfl ?_
  refine kx_new (pc := 200) (c := 5) d_X1_init_200 rfl ⟨(zw_mG (List.mem_of_getElem? (i := 169) (by decide +kernel)) rfl), (zw_mG (List.mem_of_getElem? (i := 234) (by decide +kernel)) rfl), (zw_mG (List.mem_of_getElem? (i := 102) (by decide +kernel)) rfl)⟩ (by decide) rfl hZ ⟨by decide, by decide⟩ (by decide) (by decide +kernel) ?_
  have hZ := hZ.up
  refine zv_dup (pc := 203) d_X1_init_203 rfl ?_
  refine zv_callIN (pc := 204) (As := []) (o := 51) (st := [.ref 51, .int 2, .ref 12]) (d2 := 1) (mc2 := 0) (ms2 := 0) (M2 := M_X5_init) (R2 := fun r T => r = none ∧ T = kS_X5_init_51 (zw_pR (kS_X5_init_50 (zw_pR (kS_X5_init_49 (zw_pR (kS_X0_init_47 (zw_pR (kS_X0_init_45 (zw_pR (kS_X0_init_43 (zw_pR (kS_X0_init_41 (zw_pR (kS_X0_init_39 (zw_pR (kS_X0_init_37 (zw_pR (kS_X0_init_35 (zw_pR (kS_X0_init_33 (zw_pR (kS_X0_init_31 (zw_pR (kS_X0_init_29 (zw_pR (kS_X7_init_26 (zw_pR (kS_X7_init_23 (zw_pR (kS_X7_init_20 (zw_pR (kS_X7_init_17 (zw_pI (zw_pR (zw_pR (zw_pI (zw_pR (zw_pI (zw_pR (zw_pI (zw_pR (zw_pI (zw_pR (zw_pI (zw_pR (zw_pI (zw_pR S 8 0 9) 8 1 0) 8 2 10) 8 3 0) 8 4 11) 8 5 0) 8 6 12) 8 7 0) 8 8 13) 8 9 0) 8 10 14) 8 11 0) 8 12 15) 8 13 16) 8 14 0)) 9 0 17)) 9 1 20)) 9 2 23)) 9 3 26)) 10 0 29)) 10 1 31)) 10 2 33)) 10 3 35)) 10 4 37)) 10 5 39)) 11 0 41)) 11 1 43)) 11 2 45)) 11 3 47)) 12 0 49)) 12 1 50)) d_X1_init_204 (by decide +kernel) ce_X5_init (Nat.le_of_ble_eq_true rfl) rfl (Nat.le_of_ble_eq_true rfl) (by decide) ⟨by decide, by decide⟩ (by decide) (k_X5_init_51 hZ ⟨rfl, rfl⟩) ?_
  rintro _ _ ⟨rfl, rfl⟩
  have hZ := kZ_X5_init_51 hZ
  show zw_V X M_X1_init 2 56 2672 8 P (204 + 3) 43 2633 [.ref 8, .int 2] [.ref 51, .int 2, .ref 12] (kS_X5_init_51 (zw_pR (kS_X5_init_50 (zw_pR (kS_X5_init_49 (zw_pR (kS_X0_init_47 (zw_pR (kS_X0_init_45 (zw_pR (kS_X0_init_43 (zw_pR (kS_X0_init_41 (zw_pR (kS_X0_init_39 (zw_pR (kS_X0_init_37 (zw_pR (kS_X0_init_35 (zw_pR (kS_X0_init_33 (zw_pR (kS_X0_init_31 (zw_pR (kS_X0_init_29 (zw_pR (kS_X7_init_26 (zw_pR (kS_X7_init_23 (zw_pR (kS_X7_init_20 (zw_pR (kS_X7_init_17 (zw_pI (zw_pR (zw_pR (zw_pI (zw_pR (zw_pI (zw_pR (zw_pI (zw_pR (zw_pI (zw_pR (zw_pI (zw_pR (zw_pI (zw_pR S 8 0 9) 8 1 0) 8 2 10) 8 3 0) 8 4 11) 8 5 0) 8 6 12) 8 7 0) 8 8 13) 8 9 0) 8 10 14) 8 11 0) 8 12 15) 8 13 16) 8 14 0)) 9 0 17)) 9 1 20)) 9 2 23)) 9 3 26)) 10 0 29)) 10 1 31)) 10 2 33)) 10 3 35)) 10 4 37)) 10 5 39)) 11 0 41)) 11 1 43)) 11 2 45)) 11 3 47)) 12 0 49)) 12 1 50))
  refine kx_aast (pc := 207) (o := 12) (κ := 17) (j := 2) d_X1_init_207 ⟨by decide, by decide⟩ (by decide +kernel) (by decide) (by decide +kernel) (by decide +kernel) ⟨by decide, by decide⟩ (by decide +kernel) ?_
  have hZ := hZ.pR (o := 12) (j := 2) (v := 51) (by decide)
  refine kx_iinc (pc := 208) (x2 := 3) (L2 := [.ref 8, .int 3]) d_X1_init_208 (by decide) rfl zc_i_1 (by decide +kernel) rfl ?_
  refine zv_goto (pc := 211) (tg := 189) d_X1_init_211 (by decide) ?_
  refine zv_iload_n (pc := 189) d_X1_init_189 rfl ?_
  refine zv_bipush (pc := 190) d_X1_init_190 zc_b_8 ?_
  refine zv_icmp_ge (pc := 192) (tg := 214) d_X1_init_192 (by decide) (fun q => absurd q (by decide +kernel)) (fun _ => ?_)
  refine zv_aload_n (pc := 195) d_X1_init_195 rfl ?_
  refine kx_getR (pc := 196) (o := 8) (v := 12) d_X1_init_196 lk_CutStones_House_38 (by decide) ⟨by decide, by decide⟩ (by decide +kernel) rfl (by decide) ?_
  refine zv_iload_n (pc := 199) d_X1_init_199 rfl ?_
  refine kx_new (pc := 200) (c := 5) d_X1_init_200 rfl ⟨(zw_mG (List.mem_of_getElem? (i := 169) (by decide +kernel)) rfl), (zw_mG (List.mem_of_getElem? (i := 234) (by decide +kernel)) rfl), (zw_mG (List.mem_of_getElem? (i := 102) (by decide +kernel)) rfl)⟩ (by decide) rfl hZ ⟨by decide, by decide⟩ (by decide) (by decide +kernel) ?_
  have hZ := hZ.up
  refine zv_dup (pc := 203) d_X1_init_203 rfl ?_
  refine zv_callIN (pc := 204) (As := []) (o := 52) (st := [.ref 52, .int 3, .ref 12]) (d2 := 1) (mc2 := 0) (ms2 := 0) (M2 := M_X5_init) (R2 := fun r T => r = none ∧ T = kS_X5_init_52 (zw_pR (kS_X5_init_51 (zw_pR (kS_X5_init_50 (zw_pR (kS_X5_init_49 (zw_pR (kS_X0_init_47 (zw_pR (kS_X0_init_45 (zw_pR (kS_X0_init_43 (zw_pR (kS_X0_init_41 (zw_pR (kS_X0_init_39 (zw_pR (kS_X0_init_37 (zw_pR (kS_X0_init_35 (zw_pR (kS_X0_init_33 (zw_pR (kS_X0_init_31 (zw_pR (kS_X0_init_29 (zw_pR (kS_X7_init_26 (zw_pR (kS_X7_init_23 (zw_pR (kS_X7_init_20 (zw_pR (kS_X7_init_17 (zw_pI (zw_pR (zw_pR (zw_pI (zw_pR (zw_pI (zw_pR (zw_pI (zw_pR (zw_pI (zw_pR (zw_pI (zw_pR (zw_pI (zw_pR S 8 0 9) 8 1 0) 8 2 10) 8 3 0) 8 4 11) 8 5 0) 8 6 12) 8 7 0) 8 8 13) 8 9 0) 8 10 14) 8 11 0) 8 12 15) 8 13 16) 8 14 0)) 9 0 17)) 9 1 20)) 9 2 23)) 9 3 26)) 10 0 29)) 10 1 31)) 10 2 33)) 10 3 35)) 10 4 37)) 10 5 39)) 11 0 41)) 11 1 43)) 11 2 45)) 11 3 47)) 12 0 49)) 12 1 50)) 12 2 51)) d_X1_init_204 (by decide +kernel) ce_X5_init (Nat.le_of_ble_eq_true rfl) rfl (Nat.le_of_ble_eq_true rfl) (by decide) ⟨by decide, by decide⟩ (by decide) (k_X5_init_52 hZ ⟨rfl, rfl⟩) ?_
  rintro _ _ ⟨rfl, rfl⟩
  have hZ := kZ_X5_init_52 hZ
  show zw_V X M_X1_init 2 56 2672 8 P (204 + 3) 44 2636 [.ref 8, .int 3] [.ref 52, .int 3, .ref 12] (kS_X5_init_52 (zw_pR (kS_X5_init_51 (zw_pR (kS_X5_init_50 (zw_pR (kS_X5_init_49 (zw_pR (kS_X0_init_47 (zw_pR (kS_X0_init_45 (zw_pR (kS_X0_init_43 (zw_pR (kS_X0_init_41 (zw_pR (kS_X0_init_39 (zw_pR (kS_X0_init_37 (zw_pR (kS_X0_init_35 (zw_pR (kS_X0_init_33 (zw_pR (kS_X0_init_31 (zw_pR (kS_X0_init_29 (zw_pR (kS_X7_init_26 (zw_pR (kS_X7_init_23 (zw_pR (kS_X7_init_20 (zw_pR (kS_X7_init_17 (zw_pI (zw_pR (zw_pR (zw_pI (zw_pR (zw_pI (zw_pR (zw_pI (zw_pR (zw_pI (zw_pR (zw_pI (zw_pR (zw_pI (zw_pR S 8 0 9) 8 1 0) 8 2 10) 8 3 0) 8 4 11) 8 5 0) 8 6 12) 8 7 0) 8 8 13) 8 9 0) 8 10 14) 8 11 0) 8 12 15) 8 13 16) 8 14 0)) 9 0 17)) 9 1 20)) 9 2 23)) 9 3 26)) 10 0 29)) 10 1 31)) 10 2 33)) 10 3 35)) 10 4 37)) 10 5 39)) 11 0 41)) 11 1 43)) 11 2 45)) 11 3 47)) 12 0 49)) 12 1 50)) 12 2 51))
  refine kx_aast (pc := 207) (o := 12) (κ := 17) (j := 3) d_X1_init_207 ⟨by decide, by decide⟩ (by decide +kernel) (by decide) (by decide +kernel) (by decide +kernel) ⟨by decide, by decide⟩ (by decide +kernel) ?_
  have hZ := hZ.pR (o := 12) (j := 3) (v := 52) (by decide)
  refine kx_iinc (pc := 208) (x2 := 4) (L2 := [.ref 8, .int 4]) d_X1_init_208 (by decide) rfl zc_i_1 (by decide +kernel) rfl ?_
  refine zv_goto (pc := 211) (tg := 189) d_X1_init_211 (by decide) ?_
  refine zv_iload_n (pc := 189) d_X1_init_189 rfl ?_
  refine zv_bipush (pc := 190) d_X1_init_190 zc_b_8 ?_
  refine zv_icmp_ge (pc := 192) (tg := 214) d_X1_init_192 (by decide) (fun q => absurd q (by decide +kernel)) (fun _ => ?_)
  refine zv_aload_n (pc := 195) d_X1_init_195 rfl ?_
  refine kx_getR (pc := 196) (o := 8) (v := 12) d_X1_init_196 lk_CutStones_House_38 (by decide) ⟨by decide, by decide⟩ (by decide +kernel) rfl (by decide) ?_
  refine zv_iload_n (pc := 199) d_X1_init_199 rfl ?_
  refine kx_new (pc := 200) (c := 5) d_X1_init_200 rfl ⟨(zw_mG (List.mem_of_getElem? (i := 169) (by decide +kernel)) rfl), (zw_mG (List.mem_of_getElem? (i := 234) (by decide +kernel)) rfl), (zw_mG (List.mem_of_getElem? (i := 102) (by decide +kernel)) rfl)⟩ (by decide) rfl hZ ⟨by decide, by decide⟩ (by decide) (by decide +kernel) ?_
  have hZ := hZ.up
  refine zv_dup (pc := 203) d_X1_init_203 rfl ?_
  refine zv_callIN (pc := 204) (As := []) (o := 53) (st := [.ref 53, .int 4, .ref 12]) (d2 := 1) (mc2 := 0) (ms2 := 0) (M2 := M_X5_init) (R2 := fun r T => r = none ∧ T = kS_X5_init_53 (zw_pR (kS_X5_init_52 (zw_pR (kS_X5_init_51 (zw_pR (kS_X5_init_50 (zw_pR (kS_X5_init_49 (zw_pR (kS_X0_init_47 (zw_pR (kS_X0_init_45 (zw_pR (kS_X0_init_43 (zw_pR (kS_X0_init_41 (zw_pR (kS_X0_init_39 (zw_pR (kS_X0_init_37 (zw_pR (kS_X0_init_35 (zw_pR (kS_X0_init_33 (zw_pR (kS_X0_init_31 (zw_pR (kS_X0_init_29 (zw_pR (kS_X7_init_26 (zw_pR (kS_X7_init_23 (zw_pR (kS_X7_init_20 (zw_pR (kS_X7_init_17 (zw_pI (zw_pR (zw_pR (zw_pI (zw_pR (zw_pI (zw_pR (zw_pI (zw_pR (zw_pI (zw_pR (zw_pI (zw_pR (zw_pI (zw_pR S 8 0 9) 8 1 0) 8 2 10) 8 3 0) 8 4 11) 8 5 0) 8 6 12) 8 7 0) 8 8 13) 8 9 0) 8 10 14) 8 11 0) 8 12 15) 8 13 16) 8 14 0)) 9 0 17)) 9 1 20)) 9 2 23)) 9 3 26)) 10 0 29)) 10 1 31)) 10 2 33)) 10 3 35)) 10 4 37)) 10 5 39)) 11 0 41)) 11 1 43)) 11 2 45)) 11 3 47)) 12 0 49)) 12 1 50)) 12 2 51)) 12 3 52)) d_X1_init_204 (by decide +kernel) ce_X5_init (Nat.le_of_ble_eq_true rfl) rfl (Nat.le_of_ble_eq_true rfl) (by decide) ⟨by decide, by decide⟩ (by decide) (k_X5_init_53 hZ ⟨rfl, rfl⟩) ?_
  rintro _ _ ⟨rfl, rfl⟩
  have hZ := kZ_X5_init_53 hZ
  show zw_V X M_X1_init 2 56 2672 8 P (204 + 3) 45 2639 [.ref 8, .int 4] [.ref 53, .int 4, .ref 12] (kS_X5_init_53 (zw_pR (kS_X5_init_52 (zw_pR (kS_X5_init_51 (zw_pR (kS_X5_init_50 (zw_pR (kS_X5_init_49 (zw_pR (kS_X0_init_47 (zw_pR (kS_X0_init_45 (zw_pR (kS_X0_init_43 (zw_pR (kS_X0_init_41 (zw_pR (kS_X0_init_39 (zw_pR (kS_X0_init_37 (zw_pR (kS_X0_init_35 (zw_pR (kS_X0_init_33 (zw_pR (kS_X0_init_31 (zw_pR (kS_X0_init_29 (zw_pR (kS_X7_init_26 (zw_pR (kS_X7_init_23 (zw_pR (kS_X7_init_20 (zw_pR (kS_X7_init_17 (zw_pI (zw_pR (zw_pR (zw_pI (zw_pR (zw_pI (zw_pR (zw_pI (zw_pR (zw_pI (zw_pR (zw_pI (zw_pR (zw_pI (zw_pR S 8 0 9) 8 1 0) 8 2 10) 8 3 0) 8 4 11) 8 5 0) 8 6 12) 8 7 0) 8 8 13) 8 9 0) 8 10 14) 8 11 0) 8 12 15) 8 13 16) 8 14 0)) 9 0 17)) 9 1 20)) 9 2 23)) 9 3 26)) 10 0 29)) 10 1 31)) 10 2 33)) 10 3 35)) 10 4 37)) 10 5 39)) 11 0 41)) 11 1 43)) 11 2 45)) 11 3 47)) 12 0 49)) 12 1 50)) 12 2 51)) 12 3 52))
  refine kx_aast (pc := 207) (o := 12) (κ := 17) (j := 4) d_X1_init_207 ⟨by decide, by decide⟩ (by decide +kernel) (by decide) (by decide +kernel) (by decide +kernel) ⟨by decide, by decide⟩ (by decide +kernel) ?_
  have hZ := hZ.pR (o := 12) (j := 4) (v := 53) (by decide)
  refine kx_iinc (pc := 208) (x2 := 5) (L2 := [.ref 8, .int 5]) d_X1_init_208 (by decide) rfl zc_i_1 (by decide +kernel) rfl ?_
  refine zv_goto (pc := 211) (tg := 189) d_X1_init_211 (by decide) ?_
  refine zv_iload_n (pc := 189) d_X1_init_189 rfl ?_
  refine zv_bipush (pc := 190) d_X1_init_190 zc_b_8 ?_
  refine zv_icmp_ge (pc := 192) (tg := 214) d_X1_init_192 (by decide) (fun q => absurd q (by decide +kernel)) (fun _ => ?_)
  refine zv_aload_n (pc := 195) d_X1_init_195 rfl ?_
  refine kx_getR (pc := 196) (o := 8) (v := 12) d_X1_init_196 lk_CutStones_House_38 (by decide) ⟨by decide, by decide⟩ (by decide +kernel) rfl (by decide) ?_
  refine zv_iload_n (pc := 199) d_X1_init_199 rfl ?_
  refine kx_new (pc := 200) (c := 5) d_X1_init_200 rfl ⟨(zw_mG (List.mem_of_getElem? (i := 169) (by decide +kernel)) rfl), (zw_mG (List.mem_of_getElem? (i := 234) (by decide +kernel)) rfl), (zw_mG (List.mem_of_getElem? (i := 102) (by decide +kernel)) rfl)⟩ (by decide) rfl hZ ⟨by decide, by decide⟩ (by decide) (by decide +kernel) ?_
  have hZ := hZ.up
  refine zv_dup (pc := 203) d_X1_init_203 rfl ?_
  refine zv_callIN (pc := 204) (As := []) (o := 54) (st := [.ref 54, .int 5, .ref 12]) (d2 := 1) (mc2 := 0) (ms2 := 0) (M2 := M_X5_init) (R2 := fun r T => r = none ∧ T = kS_X5_init_54 (zw_pR (kS_X5_init_53 (zw_pR (kS_X5_init_52 (zw_pR (kS_X5_init_51 (zw_pR (kS_X5_init_50 (zw_pR (kS_X5_init_49 (zw_pR (kS_X0_init_47 (zw_pR (kS_X0_init_45 (zw_pR (kS_X0_init_43 (zw_pR (kS_X0_init_41 (zw_pR (kS_X0_init_39 (zw_pR (kS_X0_init_37 (zw_pR (kS_X0_init_35 (zw_pR (kS_X0_init_33 (zw_pR (kS_X0_init_31 (zw_pR (kS_X0_init_29 (zw_pR (kS_X7_init_26 (zw_pR (kS_X7_init_23 (zw_pR (kS_X7_init_20 (zw_pR (kS_X7_init_17 (zw_pI (zw_pR (zw_pR (zw_pI (zw_pR (zw_pI (zw_pR (zw_pI (zw_pR (zw_pI (zw_pR (zw_pI (zw_pR (zw_pI (zw_pR S 8 0 9) 8 1 0) 8 2 10) 8 3 0) 8 4 11) 8 5 0) 8 6 12) 8 7 0) 8 8 13) 8 9 0) 8 10 14) 8 11 0) 8 12 15) 8 13 16) 8 14 0)) 9 0 17)) 9 1 20)) 9 2 23)) 9 3 26)) 10 0 29)) 10 1 31)) 10 2 33)) 10 3 35)) 10 4 37)) 10 5 39)) 11 0 41)) 11 1 43)) 11 2 45)) 11 3 47)) 12 0 49)) 12 1 50)) 12 2 51)) 12 3 52)) 12 4 53)) d_X1_init_204 (by decide +kernel) ce_X5_init (Nat.le_of_ble_eq_true rfl) rfl (Nat.le_of_ble_eq_true rfl) (by decide) ⟨by decide, by decide⟩ (by decide) (k_X5_init_54 hZ ⟨rfl, rfl⟩) ?_
  rintro _ _ ⟨rfl, rfl⟩
  have hZ := kZ_X5_init_54 hZ
  show zw_V X M_X1_init 2 56 2672 8 P (204 + 3) 46 2642 [.ref 8, .int 5] [.ref 54, .int 5, .ref 12] (kS_X5_init_54 (zw_pR (kS_X5_init_53 (zw_pR (kS_X5_init_52 (zw_pR (kS_X5_init_51 (zw_pR (kS_X5_init_50 (zw_pR (kS_X5_init_49 (zw_pR (kS_X0_init_47 (zw_pR (kS_X0_init_45 (zw_pR (kS_X0_init_43 (zw_pR (kS_X0_init_41 (zw_pR (kS_X0_init_39 (zw_pR (kS_X0_init_37 (zw_pR (kS_X0_init_35 (zw_pR (kS_X0_init_33 (zw_pR (kS_X0_init_31 (zw_pR (kS_X0_init_29 (zw_pR (kS_X7_init_26 (zw_pR (kS_X7_init_23 (zw_pR (kS_X7_init_20 (zw_pR (kS_X7_init_17 (zw_pI (zw_pR (zw_pR (zw_pI (zw_pR (zw_pI (zw_pR (zw_pI (zw_pR (zw_pI (zw_pR (zw_pI (zw_pR (zw_pI (zw_pR S 8 0 9) 8 1 0) 8 2 10) 8 3 0) 8 4 11) 8 5 0) 8 6 12) 8 7 0) 8 8 13) 8 9 0) 8 10 14) 8 11 0) 8 12 15) 8 13 16) 8 14 0)) 9 0 17)) 9 1 20)) 9 2 23)) 9 3 26)) 10 0 29)) 10 1 31)) 10 2 33)) 10 3 35)) 10 4 37)) 10 5 39)) 11 0 41)) 11 1 43)) 11 2 45)) 11 3 47)) 12 0 49)) 12 1 50)) 12 2 51)) 12 3 52)) 12 4 53))
  refine kx_aast (pc := 207) (o := 12) (κ := 17) (j := 5) d_X1_init_207 ⟨by decide, by decide⟩ (by decide +kernel) (by decide) (by decide +kernel) (by decide +kernel) ⟨by decide, by decide⟩ (by decide +kernel) ?_
  have hZ := hZ.pR (o := 12) (j := 5) (v := 54) (by decide)
  refine kx_iinc (pc := 208) (x2 := 6) (L2 := [.ref 8, .int 6]) d_X1_init_208 (by decide) rfl zc_i_1 (by decide +kernel) rfl ?_
  refine zv_goto (pc := 211) (tg := 189) d_X1_init_211 (by decide) ?_
  refine zv_iload_n (pc := 189) d_X1_init_189 rfl ?_
  refine zv_bipush (pc := 190) d_X1_init_190 zc_b_8 ?_
  refine zv_icmp_ge (pc := 192) (tg := 214) d_X1_init_192 (by decide) (fun q => absurd q (by decide +kernel)) (fun _ => ?_)
  refine zv_aload_n (pc := 195) d_X1_init_195 rfl ?_
  refine kx_getR (pc := 196) (o := 8) (v := 12) d_X1_init_196 lk_CutStones_House_38 (by decide) ⟨by decide, by decide⟩ (by decide +kernel) rfl (by decide) ?_
  refine zv_iload_n (pc := 199) d_X1_init_199 rfl ?_
  refine kx_new (pc := 200) (c := 5) d_X1_init_200 rfl ⟨(zw_mG (List.mem_of_getElem? (i := 169) (by decide +kernel)) rfl), (zw_mG (List.mem_of_getElem? (i := 234) (by decide +kernel)) rfl), (zw_mG (List.mem_of_getElem? (i := 102) (by decide +kernel)) rfl)⟩ (by decide) rfl hZ ⟨by decide, by decide⟩ (by decide) (by decide +kernel) ?_
  have hZ := hZ.up
  refine zv_dup (pc := 203) d_X1_init_203 rfl ?_
  refine zv_callIN (pc := 204) (As := []) (o := 55) (st := [.ref 55, .int 6, .ref 12]) (d2 := 1) (mc2 := 0) (ms2 := 0) (M2 := M_X5_init) (R2 := fun r T => r = none ∧ T = kS_X5_init_55 (zw_pR (kS_X5_init_54 (zw_pR (kS_X5_init_53 (zw_pR (kS_X5_init_52 (zw_pR (kS_X5_init_51 (zw_pR (kS_X5_init_50 (zw_pR (kS_X5_init_49 (zw_pR (kS_X0_init_47 (zw_pR (kS_X0_init_45 (zw_pR (kS_X0_init_43 (zw_pR (kS_X0_init_41 (zw_pR (kS_X0_init_39 (zw_pR (kS_X0_init_37 (zw_pR (kS_X0_init_35 (zw_pR (kS_X0_init_33 (zw_pR (kS_X0_init_31 (zw_pR (kS_X0_init_29 (zw_pR (kS_X7_init_26 (zw_pR (kS_X7_init_23 (zw_pR (kS_X7_init_20 (zw_pR (kS_X7_init_17 (zw_pI (zw_pR (zw_pR (zw_pI (zw_pR (zw_pI (zw_pR (zw_pI (zw_pR (zw_pI (zw_pR (zw_pI (zw_pR (zw_pI (zw_pR S 8 0 9) 8 1 0) 8 2 10) 8 3 0) 8 4 11) 8 5 0) 8 6 12) 8 7 0) 8 8 13) 8 9 0) 8 10 14) 8 11 0) 8 12 15) 8 13 16) 8 14 0)) 9 0 17)) 9 1 20)) 9 2 23)) 9 3 26)) 10 0 29)) 10 1 31)) 10 2 33)) 10 3 35)) 10 4 37)) 10 5 39)) 11 0 41)) 11 1 43)) 11 2 45)) 11 3 47)) 12 0 49)) 12 1 50)) 12 2 51)) 12 3 52)) 12 4 53)) 12 5 54)) d_X1_init_204 (by decide +kernel) ce_X5_init (Nat.le_of_ble_eq_true rfl) rfl (Nat.le_of_ble_eq_true rfl) (by decide) ⟨by decide, by decide⟩ (by decide) (k_X5_init_55 hZ ⟨rfl, rfl⟩) ?_
  rintro _ _ ⟨rfl, rfl⟩
  have hZ := kZ_X5_init_55 hZ
  show zw_V X M_X1_init 2 56 2672 8 P (204 + 3) 47 2645 [.ref 8, .int 6] [.ref 55, .int 6, .ref 12] (kS_X5_init_55 (zw_pR (kS_X5_init_54 (zw_pR (kS_X5_init_53 (zw_pR (kS_X5_init_52 (zw_pR (kS_X5_init_51 (zw_pR (kS_X5_init_50 (zw_pR (kS_X5_init_49 (zw_pR (kS_X0_init_47 (zw_pR (kS_X0_init_45 (zw_pR (kS_X0_init_43 (zw_pR (kS_X0_init_41 (zw_pR (kS_X0_init_39 (zw_pR (kS_X0_init_37 (zw_pR (kS_X0_init_35 (zw_pR (kS_X0_init_33 (zw_pR (kS_X0_init_31 (zw_pR (kS_X0_init_29 (zw_pR (kS_X7_init_26 (zw_pR (kS_X7_init_23 (zw_pR (kS_X7_init_20 (zw_pR (kS_X7_init_17 (zw_pI (zw_pR (zw_pR (zw_pI (zw_pR (zw_pI (zw_pR (zw_pI (zw_pR (zw_pI (zw_pR (zw_pI (zw_pR (zw_pI (zw_pR S 8 0 9) 8 1 0) 8 2 10) 8 3 0) 8 4 11) 8 5 0) 8 6 12) 8 7 0) 8 8 13) 8 9 0) 8 10 14) 8 11 0) 8 12 15) 8 13 16) 8 14 0)) 9 0 17)) 9 1 20)) 9 2 23)) 9 3 26)) 10 0 29)) 10 1 31)) 10 2 33)) 10 3 35)) 10 4 37)) 10 5 39)) 11 0 41)) 11 1 43)) 11 2 45)) 11 3 47)) 12 0 49)) 12 1 50)) 12 2 51)) 12 3 52)) 12 4 53)) 12 5 54))
  refine kx_aast (pc := 207) (o := 12) (κ := 17) (j := 6) d_X1_init_207 ⟨by decide, by decide⟩ (by decide +kernel) (by decide) (by decide +kernel) (by decide +kernel) ⟨by decide, by decide⟩ (by decide +kernel) ?_
  have hZ := hZ.pR (o := 12) (j := 6) (v := 55) (by decide)
  refine kx_iinc (pc := 208) (x2 := 7) (L2 := [.ref 8, .int 7]) d_X1_init_208 (by decide) rfl zc_i_1 (by decide +kernel) rfl ?_
  refine zv_goto (pc := 211) (tg := 189) d_X1_init_211 (by decide) ?_
  refine zv_iload_n (pc := 189) d_X1_init_189 rfl ?_
  refine zv_bipush (pc := 190) d_X1_init_190 zc_b_8 ?_
  refine zv_icmp_ge (pc := 192) (tg := 214) d_X1_init_192 (by decide) (fun q => absurd q (by decide +kernel)) (fun _ => ?_)
  refine zv_aload_n (pc := 195) d_X1_init_195 rfl ?_
  refine kx_getR (pc := 196) (o := 8) (v := 12) d_X1_init_196 lk_CutStones_House_38 (by decide) ⟨by decide, by decide⟩ (by decide +kernel) rfl (by decide) ?_
  refine zv_iload_n (pc := 199) d_X1_init_199 rfl ?_
  refine kx_new (pc := 200) (c := 5) d_X1_init_200 rfl ⟨(zw_mG (List.mem_of_getElem? (i := 169) (by decide +kernel)) rfl), (zw_mG (List.mem_of_getElem? (i := 234) (by decide +kernel)) rfl), (zw_mG (List.mem_of_getElem? (i := 102) (by decide +kernel)) rfl)⟩ (by decide) rfl hZ ⟨by decide, by decide⟩ (by decide) (by decide +kernel) ?_
  have hZ := hZ.up
  refine zv_dup (pc := 203) d_X1_init_203 rfl ?_
  refine zv_callIN (pc := 204) (As := []) (o := 56) (st := [.ref 56, .int 7, .ref 12]) (d2 := 1) (mc2 := 0) (ms2 := 0) (M2 := M_X5_init) (R2 := fun r T => r = none ∧ T = kS_X5_init_56 (zw_pR (kS_X5_init_55 (zw_pR (kS_X5_init_54 (zw_pR (kS_X5_init_53 (zw_pR (kS_X5_init_52 (zw_pR (kS_X5_init_51 (zw_pR (kS_X5_init_50 (zw_pR (kS_X5_init_49 (zw_pR (kS_X0_init_47 (zw_pR (kS_X0_init_45 (zw_pR (kS_X0_init_43 (zw_pR (kS_X0_init_41 (zw_pR (kS_X0_init_39 (zw_pR (kS_X0_init_37 (zw_pR (kS_X0_init_35 (zw_pR (kS_X0_init_33 (zw_pR (kS_X0_init_31 (zw_pR (kS_X0_init_29 (zw_pR (kS_X7_init_26 (zw_pR (kS_X7_init_23 (zw_pR (kS_X7_init_20 (zw_pR (kS_X7_init_17 (zw_pI (zw_pR (zw_pR (zw_pI (zw_pR (zw_pI (zw_pR (zw_pI (zw_pR (zw_pI (zw_pR (zw_pI (zw_pR (zw_pI (zw_pR S 8 0 9) 8 1 0) 8 2 10) 8 3 0) 8 4 11) 8 5 0) 8 6 12) 8 7 0) 8 8 13) 8 9 0) 8 10 14) 8 11 0) 8 12 15) 8 13 16) 8 14 0)) 9 0 17)) 9 1 20)) 9 2 23)) 9 3 26)) 10 0 29)) 10 1 31)) 10 2 33)) 10 3 35)) 10 4 37)) 10 5 39)) 11 0 41)) 11 1 43)) 11 2 45)) 11 3 47)) 12 0 49)) 12 1 50)) 12 2 51)) 12 3 52)) 12 4 53)) 12 5 54)) 12 6 55)) d_X1_init_204 (by decide +kernel) ce_X5_init (Nat.le_of_ble_eq_true rfl) rfl (Nat.le_of_ble_eq_true rfl) (by decide) ⟨by decide, by decide⟩ (by decide) (k_X5_init_56 hZ ⟨rfl, rfl⟩) ?_
  rintro _ _ ⟨rfl, rfl⟩
  have hZ := kZ_X5_init_56 hZ
  show zw_V X M_X1_init 2 56 2672 8 P (204 + 3) 48 2648 [.ref 8, .int 7] [.ref 56, .int 7, .ref 12] (kS_X5_init_56 (zw_pR (kS_X5_init_55 (zw_pR (kS_X5_init_54 (zw_pR (kS_X5_init_53 (zw_pR (kS_X5_init_52 (zw_pR (kS_X5_init_51 (zw_pR (kS_X5_init_50 (zw_pR (kS_X5_init_49 (zw_pR (kS_X0_init_47 (zw_pR (kS_X0_init_45 (zw_pR (kS_X0_init_43 (zw_pR (kS_X0_init_41 (zw_pR (kS_X0_init_39 (zw_pR (kS_X0_init_37 (zw_pR (kS_X0_init_35 (zw_pR (kS_X0_init_33 (zw_pR (kS_X0_init_31 (zw_pR (kS_X0_init_29 (zw_pR (kS_X7_init_26 (zw_pR (kS_X7_init_23 (zw_pR (kS_X7_init_20 (zw_pR (kS_X7_init_17 (zw_pI (zw_pR (zw_pR (zw_pI (zw_pR (zw_pI (zw_pR (zw_pI (zw_pR (zw_pI (zw_pR (zw_pI (zw_pR (zw_pI (zw_pR S 8 0 9) 8 1 0) 8 2 10) 8 3 0) 8 4 11) 8 5 0) 8 6 12) 8 7 0) 8 8 13) 8 9 0) 8 10 14) 8 11 0) 8 12 15) 8 13 16) 8 14 0)) 9 0 17)) 9 1 20)) 9 2 23)) 9 3 26)) 10 0 29)) 10 1 31)) 10 2 33)) 10 3 35)) 10 4 37)) 10 5 39)) 11 0 41)) 11 1 43)) 11 2 45)) 11 3 47)) 12 0 49)) 12 1 50)) 12 2 51)) 12 3 52)) 12 4 53)) 12 5 54)) 12 6 55))
  refine kx_aast (pc := 207) (o := 12) (κ := 17) (j := 7) d_X1_init_207 ⟨by decide, by decide⟩ (by decide +kernel) (by decide) (by decide +kernel) (by decide +kernel) ⟨by decide, by decide⟩ (by decide +kernel) ?_
  have hZ := hZ.pR (o := 12) (j := 7) (v := 56) (by decide)
  refine kx_iinc (pc := 208) (x2 := 8) (L2 := [.ref 8, .int 8]) d_X1_init_208 (by decide) rfl zc_i_1 (by decide +kernel) rfl ?_
  refine zv_goto (pc := 211) (tg := 189) d_X1_init_211 (by decide) ?_
  refine zv_iload_n (pc := 189) d_X1_init_189 rfl ?_
  refine zv_bipush (pc := 190) d_X1_init_190 zc_b_8 ?_
  refine zv_icmp_ge (pc := 192) (tg := 214) d_X1_init_192 (by decide) (fun _ => ?_) (fun q => absurd (by decide +kernel) q)
  refine zv_iconst (pc := 214) d_X1_init_214 zc_i_0 ?_
  refine kx_istore_n (pc := 215) (L2 := [.ref 8, .int 0]) d_X1_init_215 (by decide) rfl ?_
  refine zv_iload_n (pc := 216) d_X1_init_216 rfl ?_
  refine zv_bipush (pc := 217) d_X1_init_217 zc_b_8 ?_
  refine zv_icmp_ge (pc := 219) (tg := 241) d_X1_init_219 (by decide) (fun q => absurd q (by decide +kernel)) (fun _ => ?_)
  refine zv_aload_n (pc := 222) d_X1_init_222 rfl ?_
  refine kx_getR (pc := 223) (o := 8) (v := 13) d_X1_init_223 lk_CutStones_House_45 (by decide) ⟨by decide, by decide⟩ (by decide +kernel) rfl (by decide) ?_
  refine zv_iload_n (pc := 226) d_X1_init_226 rfl ?_
  refine kx_new (pc := 227) (c := 5) d_X1_init_227 rfl ⟨(zw_mG (List.mem_of_getElem? (i := 169) (by decide +kernel)) rfl), (zw_mG (List.mem_of_getElem? (i := 234) (by decide +kernel)) rfl), (zw_mG (List.mem_of_getElem? (i := 102) (by decide +kernel)) rfl)⟩ (by decide) rfl hZ ⟨by decide, by decide⟩ (by decide) (by decide +kernel) ?_
  have hZ := hZ.up
  refine zv_dup (pc := 230) d_X1_init_230 rfl ?_
  refine zv_callIN (pc := 231) (As := []) (o := 57) (st := [.ref 57, .int 0, .ref 13]) (d2 := 1) (mc2 := 0) (ms2 := 0) (M2 := M_X5_init) (R2 := fun r T => r = none ∧ T = kS_X5_init_57 (zw_pR (kS_X5_init_56 (zw_pR (kS_X5_init_55 (zw_pR (kS_X5_init_54 (zw_pR (kS_X5_init_53 (zw_pR (kS_X5_init_52 (zw_pR (kS_X5_init_51 (zw_pR (kS_X5_init_50 (zw_pR (kS_X5_init_49 (zw_pR (kS_X0_init_47 (zw_pR (kS_X0_init_45 (zw_pR (kS_X0_init_43 (zw_pR (kS_X0_init_41 (zw_pR (kS_X0_init_39 (zw_pR (kS_X0_init_37 (zw_pR (kS_X0_init_35 (zw_pR (kS_X0_init_33 (zw_pR (kS_X0_init_31 (zw_pR (kS_X0_init_29 (zw_pR (kS_X7_init_26 (zw_pR (kS_X7_init_23 (zw_pR (kS_X7_init_20 (zw_pR (kS_X7_init_17 (zw_pI (zw_pR (zw_pR (zw_pI (zw_pR (zw_pI (zw_pR (zw_pI (zw_pR (zw_pI (zw_pR (zw_pI (zw_pR (zw_pI (zw_pR S 8 0 9) 8 1 0) 8 2 10) 8 3 0) 8 4 11) 8 5 0) 8 6 12) 8 7 0) 8 8 13) 8 9 0) 8 10 14) 8 11 0) 8 12 15) 8 13 16) 8 14 0)) 9 0 17)) 9 1 20)) 9 2 23)) 9 3 26)) 10 0 29)) 10 1 31)) 10 2 33)) 10 3 35)) 10 4 37)) 10 5 39)) 11 0 41)) 11 1 43)) 11 2 45)) 11 3 47)) 12 0 49)) 12 1 50)) 12 2 51)) 12 3 52)) 12 4 53)) 12 5 54)) 12 6 55)) 12 7 56)) d_X1_init_231 (by decide +kernel) ce_X5_init (Nat.le_of_ble_eq_true rfl) rfl (Nat.le_of_ble_eq_true rfl) (by decide) ⟨by decide, by decide⟩ (by decide) (k_X5_init_57 hZ ⟨rfl, rfl⟩) ?_
  rintro _ _ ⟨rfl, rfl⟩
  have hZ := kZ_X5_init_57 hZ
  show zw_V X M_X1_init 2 56 2672 8 P (231 + 3) 49 2651 [.ref 8, .int 0] [.ref 57, .int 0, .ref 13] (kS_X5_init_57 (zw_pR (kS_X5_init_56 (zw_pR (kS_X5_init_55 (zw_pR (kS_X5_init_54 (zw_pR (kS_X5_init_53 (zw_pR (kS_X5_init_52 (zw_pR (kS_X5_init_51 (zw_pR (kS_X5_init_50 (zw_pR (kS_X5_init_49 (zw_pR (kS_X0_init_47 (zw_pR (kS_X0_init_45 (zw_pR (kS_X0_init_43 (zw_pR (kS_X0_init_41 (zw_pR (kS_X0_init_39 (zw_pR (kS_X0_init_37 (zw_pR (kS_X0_init_35 (zw_pR (kS_X0_init_33 (zw_pR (kS_X0_init_31 (zw_pR (kS_X0_init_29 (zw_pR (kS_X7_init_26 (zw_pR (kS_X7_init_23 (zw_pR (kS_X7_init_20 (zw_pR (kS_X7_init_17 (zw_pI (zw_pR (zw_pR (zw_pI (zw_pR (zw_pI (zw_pR (zw_pI (zw_pR (zw_pI (zw_pR (zw_pI (zw_pR (zw_pI (zw_pR S 8 0 9) 8 1 0) 8 2 10) 8 3 0) 8 4 11) 8 5 0) 8 6 12) 8 7 0) 8 8 13) 8 9 0) 8 10 14) 8 11 0) 8 12 15) 8 13 16) 8 14 0)) 9 0 17)) 9 1 20)) 9 2 23)) 9 3 26)) 10 0 29)) 10 1 31)) 10 2 33)) 10 3 35)) 10 4 37)) 10 5 39)) 11 0 41)) 11 1 43)) 11 2 45)) 11 3 47)) 12 0 49)) 12 1 50)) 12 2 51)) 12 3 52)) 12 4 53)) 12 5 54)) 12 6 55)) 12 7 56))
  refine kx_aast (pc := 234) (o := 13) (κ := 17) (j := 0) d_X1_init_234 ⟨by decide, by decide⟩ (by decide +kernel) (by decide) (by decide +kernel) (by decide +kernel) ⟨by decide, by decide⟩ (by decide +kernel) ?_
  have hZ := hZ.pR (o := 13) (j := 0) (v := 57) (by decide)
  refine kx_iinc (pc := 235) (x2 := 1) (L2 := [.ref 8, .int 1]) d_X1_init_235 (by decide) rfl zc_i_1 (by decide +kernel) rfl ?_
  refine zv_goto (pc := 238) (tg := 216) d_X1_init_238 (by decide) ?_
  refine zv_iload_n (pc := 216) d_X1_init_216 rfl ?_
  refine zv_bipush (pc := 217) d_X1_init_217 zc_b_8 ?_
  refine zv_icmp_ge (pc := 219) (tg := 241) d_X1_init_219 (by decide) (fun q => absurd q (by decide +kernel)) (fun _ => ?_)
  refine zv_aload_n (pc := 222) d_X1_init_222 rfl ?_
  refine kx_getR (pc := 223) (o := 8) (v := 13) d_X1_init_223 lk_CutStones_House_45 (by decide) ⟨by decide, by decide⟩ (by decide +kernel) rfl (by decide) ?_
  refine zv_iload_n (pc := 226) d_X1_init_226 rfl ?_
  refine kx_new (pc := 227) (c := 5) d_X1_init_227 rfl ⟨(zw_mG (List.mem_of_getElem? (i := 169) (by decide +kernel)) rfl), (zw_mG (List.mem_of_getElem? (i := 234) (by decide +kernel)) rfl), (zw_mG (List.mem_of_getElem? (i := 102) (by decide +kernel)) rfl)⟩ (by decide) rfl hZ ⟨by decide, by decide⟩ (by decide) (by decide +kernel) ?_
  have hZ := hZ.up
  refine zv_dup (pc := 230) d_X1_init_230 rfl ?_
  refine zv_callIN (pc := 231) (As := []) (o := 58) (st := [.ref 58, .int 1, .ref 13]) (d2 := 1) (mc2 := 0) (ms2 := 0) (M2 := M_X5_init) (R2 := fun r T => r = none ∧ T = kS_X5_init_58 (zw_pR (kS_X5_init_57 (zw_pR (kS_X5_init_56 (zw_pR (kS_X5_init_55 (zw_pR (kS_X5_init_54 (zw_pR (kS_X5_init_53 (zw_pR (kS_X5_init_52 (zw_pR (kS_X5_init_51 (zw_pR (kS_X5_init_50 (zw_pR (kS_X5_init_49 (zw_pR (kS_X0_init_47 (zw_pR (kS_X0_init_45 (zw_pR (kS_X0_init_43 (zw_pR (kS_X0_init_41 (zw_pR (kS_X0_init_39 (zw_pR (kS_X0_init_37 (zw_pR (kS_X0_init_35 (zw_pR (kS_X0_init_33 (zw_pR (kS_X0_init_31 (zw_pR (kS_X0_init_29 (zw_pR (kS_X7_init_26 (zw_pR (kS_X7_init_23 (zw_pR (kS_X7_init_20 (zw_pR (kS_X7_init_17 (zw_pI (zw_pR (zw_pR (zw_pI (zw_pR (zw_pI (zw_pR (zw_pI (zw_pR (zw_pI (zw_pR (zw_pI (zw_pR (zw_pI (zw_pR S 8 0 9) 8 1 0) 8 2 10) 8 3 0) 8 4 11) 8 5 0) 8 6 12) 8 7 0) 8 8 13) 8 9 0) 8 10 14) 8 11 0) 8 12 15) 8 13 16) 8 14 0)) 9 0 17)) 9 1 20)) 9 2 23)) 9 3 26)) 10 0 29)) 10 1 31)) 10 2 33)) 10 3 35)) 10 4 37)) 10 5 39)) 11 0 41)) 11 1 43)) 11 2 45)) 11 3 47)) 12 0 49)) 12 1 50)) 12 2 51)) 12 3 52)) 12 4 53)) 12 5 54)) 12 6 55)) 12 7 56)) 13 0 57)) d_X1_init_231 (by decide +kernel) ce_X5_init (Nat.le_of_ble_eq_true rfl) rfl (Nat.le_of_ble_eq_true rfl) (by decide) ⟨by decide, by decide⟩ (by decide) (k_X5_init_58 hZ ⟨rfl, rfl⟩) ?_
  rintro _ _ ⟨rfl, rfl⟩
  have hZ := kZ_X5_init_58 hZ
  show zw_V X M_X1_init 2 56 2672 8 P (231 + 3) 50 2654 [.ref 8, .int 1] [.ref 58, .int 1, .ref 13] (kS_X5_init_58 (zw_pR (kS_X5_init_57 (zw_pR (kS_X5_init_56 (zw_pR (kS_X5_init_55 (zw_pR (kS_X5_init_54 (zw_pR (kS_X5_init_53 (zw_pR (kS_X5_init_52 (zw_pR (kS_X5_init_51 (zw_pR (kS_X5_init_50 (zw_pR (kS_X5_init_49 (zw_pR (kS_X0_init_47 (zw_pR (kS_X0_init_45 (zw_pR (kS_X0_init_43 (zw_pR (kS_X0_init_41 (zw_pR (kS_X0_init_39 (zw_pR (kS_X0_init_37 (zw_pR (kS_X0_init_35 (zw_pR (kS_X0_init_33 (zw_pR (kS_X0_init_31 (zw_pR (kS_X0_init_29 (zw_pR (kS_X7_init_26 (zw_pR (kS_X7_init_23 (zw_pR (kS_X7_init_20 (zw_pR (kS_X7_init_17 (zw_pI (zw_pR (zw_pR (zw_pI (zw_pR (zw_pI (zw_pR (zw_pI (zw_pR (zw_pI (zw_pR (zw_pI (zw_pR (zw_pI (zw_pR S 8 0 9) 8 1 0) 8 2 10) 8 3 0) 8 4 11) 8 5 0) 8 6 12) 8 7 0) 8 8 13) 8 9 0) 8 10 14) 8 11 0) 8 12 15) 8 13 16) 8 14 0)) 9 0 17)) 9 1 20)) 9 2 23)) 9 3 26)) 10 0 29)) 10 1 31)) 10 2 33)) 10 3 35)) 10 4 37)) 10 5 39)) 11 0 41)) 11 1 43)) 11 2 45)) 11 3 47)) 12 0 49)) 12 1 50)) 12 2 51)) 12 3 52)) 12 4 53)) 12 5 54)) 12 6 55)) 12 7 56)) 13 0 57))
  refine kx_aast (pc := 234) (o := 13) (κ := 17) (j := 1) d_X1_init_234 ⟨by decide, by decide⟩ (by decide +kernel) (by decide) (by decide +kernel) (by decide +kernel) ⟨by decide, by decide⟩ (by decide +kernel) ?_
  have hZ := hZ.pR (o := 13) (j := 1) (v := 58) (by decide)
  refine kx_iinc (pc := 235) (x2 := 2) (L2 := [.ref 8, .int 2]) d_X1_init_235 (by decide) rfl zc_i_1 (by decide +kernel) rfl ?_
  refine zv_goto (pc := 238) (tg := 216) d_X1_init_238 (by decide) ?_
  refine zv_iload_n (pc := 216) d_X1_init_216 rfl ?_
  refine zv_bipush (pc := 217) d_X1_init_217 zc_b_8 ?_
  refine zv_icmp_ge (pc := 219) (tg := 241) d_X1_init_219 (by decide) (fun q => absurd q (by decide +kernel)) (fun _ => ?_)
  refine zv_aload_n (pc := 222) d_X1_init_222 rfl ?_
  refine kx_getR (pc := 223) (o := 8) (v := 13) d_X1_init_223 lk_CutStones_House_45 (by decide) ⟨by decide, by decide⟩ (by decide +kernel) rfl (by decide) ?_
  refine zv_iload_n (pc := 226) d_X1_init_226 rfl ?_
  refine kx_new (pc := 227) (c := 5) d_X1_init_227 rfl ⟨(zw_mG (List.mem_of_getElem? (i := 169) (by decide +kernel)) rfl), (zw_mG (List.mem_of_getElem? (i := 234) (by decide +kernel)) rfl), (zw_mG (List.mem_of_getElem? (i := 102) (by decide +kernel)) rfl)⟩ (by decide) rfl hZ ⟨by decide, by decide⟩ (by decide) (by decide +kernel) ?_
  have hZ := hZ.up
  refine zv_dup (pc := 230) d_X1_init_230 rfl ?_
  refine zv_callIN (pc := 231) (As := []) (o := 59) (st := [.ref 59, .int 2, .ref 13]) (d2 := 1) (mc2 := 0) (ms2 := 0) (M2 := M_X5_init) (R2 := fun r T => r = none ∧ T = kS_X5_init_59 (zw_pR (kS_X5_init_58 (zw_pR (kS_X5_init_57 (zw_pR (kS_X5_init_56 (zw_pR (kS_X5_init_55 (zw_pR (kS_X5_init_54 (zw_pR (kS_X5_init_53 (zw_pR (kS_X5_init_52 (zw_pR (kS_X5_init_51 (zw_pR (kS_X5_init_50 (zw_pR (kS_X5_init_49 (zw_pR (kS_X0_init_47 (zw_pR (kS_X0_init_45 (zw_pR (kS_X0_init_43 (zw_pR (kS_X0_init_41 (zw_pR (kS_X0_init_39 (zw_pR (kS_X0_init_37 (zw_pR (kS_X0_init_35 (zw_pR (kS_X0_init_33 (zw_pR (kS_X0_init_31 (zw_pR (kS_X0_init_29 (zw_pR (kS_X7_init_26 (zw_pR (kS_X7_init_23 (zw_pR (kS_X7_init_20 (zw_pR (kS_X7_init_17 (zw_pI (zw_pR (zw_pR (zw_pI (zw_pR (zw_pI (zw_pR (zw_pI (zw_pR (zw_pI (zw_pR (zw_pI (zw_pR (zw_pI (zw_pR S 8 0 9) 8 1 0) 8 2 10) 8 3 0) 8 4 11) 8 5 0) 8 6 12) 8 7 0) 8 8 13) 8 9 0) 8 10 14) 8 11 0) 8 12 15) 8 13 16) 8 14 0)) 9 0 17)) 9 1 20)) 9 2 23)) 9 3 26)) 10 0 29)) 10 1 31)) 10 2 33)) 10 3 35)) 10 4 37)) 10 5 39)) 11 0 41)) 11 1 43)) 11 2 45)) 11 3 47)) 12 0 49)) 12 1 50)) 12 2 51)) 12 3 52)) 12 4 53)) 12 5 54)) 12 6 55)) 12 7 56)) 13 0 57)) 13 1 58)) d_X1_init_231 (by decide +kernel) ce_X5_init (Nat.le_of_ble_eq_true rfl) rfl (Nat.le_of_ble_eq_true rfl) (by decide) ⟨by decide, by decide⟩ (by decide) (k_X5_init_59 hZ ⟨rfl, rfl⟩) ?_
  rintro _ _ ⟨rfl, rfl⟩
  have hZ := kZ_X5_init_59 hZ
  show zw_V X M_X1_init 2 56 2672 8 P (231 + 3) 51 2657 [.ref 8, .int 2] [.ref 59, .int 2, .ref 13] (kS_X5_init_59 (zw_pR (kS_X5_init_58 (zw_pR (kS_X5_init_57 (zw_pR (kS_X5_init_56 (zw_pR (kS_X5_init_55 (zw_pR (kS_X5_init_54 (zw_pR (kS_X5_init_53 (zw_pR (kS_X5_init_52 (zw_pR (kS_X5_init_51 (zw_pR (kS_X5_init_50 (zw_pR (kS_X5_init_49 (zw_pR (kS_X0_init_47 (zw_pR (kS_X0_init_45 (zw_pR (kS_X0_init_43 (zw_pR (kS_X0_init_41 (zw_pR (kS_X0_init_39 (zw_pR (kS_X0_init_37 (zw_pR (kS_X0_init_35 (zw_pR (kS_X0_init_33 (zw_pR (kS_X0_init_31 (zw_pR (kS_X0_init_29 (zw_pR (kS_X7_init_26 (zw_pR (kS_X7_init_23 (zw_pR (kS_X7_init_20 (zw_pR (kS_X7_init_17 (zw_pI (zw_pR (zw_pR (zw_pI (zw_pR (zw_pI (zw_pR (zw_pI (zw_pR (zw_pI (zw_pR (zw_pI (zw_pR (zw_pI (zw_pR S 8 0 9) 8 1 0) 8 2 10) 8 3 0) 8 4 11) 8 5 0) 8 6 12) 8 7 0) 8 8 13) 8 9 0) 8 10 14) 8 11 0) 8 12 15) 8 13 16) 8 14 0)) 9 0 17)) 9 1 20)) 9 2 23)) 9 3 26)) 10 0 29)) 10 1 31)) 10 2 33)) 10 3 35)) 10 4 37)) 10 5 39)) 11 0 41)) 11 1 43)) 11 2 45)) 11 3 47)) 12 0 49)) 12 1 50)) 12 2 51)) 12 3 52)) 12 4 53)) 12 5 54)) 12 6 55)) 12 7 56)) 13 0 57)) 13 1 58))
  refine kx_aast (pc := 234) (o := 13) (κ := 17) (j := 2) d_X1_init_234 ⟨by decide, by decide⟩ (by decide +kernel) (by decide) (by decide +kernel) (by decide +kernel) ⟨by decide, by decide⟩ (by decide +kernel) ?_
  have hZ := hZ.pR (o := 13) (j := 2) (v := 59) (by decide)
  refine kx_iinc (pc := 235) (x2 := 3) (L2 := [.ref 8, .int 3]) d_X1_init_235 (by decide) rfl zc_i_1 (by decide +kernel) rfl ?_
  refine zv_goto (pc := 238) (tg := 216) d_X1_init_238 (by decide) ?_
  refine zv_iload_n (pc := 216) d_X1_init_216 rfl ?_
  refine zv_bipush (pc := 217) d_X1_init_217 zc_b_8 ?_
  refine zv_icmp_ge (pc := 219) (tg := 241) d_X1_init_219 (by decide) (fun q => absurd q (by decide +kernel)) (fun _ => ?_)
  refine zv_aload_n (pc := 222) d_X1_init_222 rfl ?_
  refine kx_getR (pc := 223) (o := 8) (v := 13) d_X1_init_223 lk_CutStones_House_45 (by decide) ⟨by decide, by decide⟩ (by decide +kernel) rfl (by decide) ?_
  refine zv_iload_n (pc := 226) d_X1_init_226 rfl ?_
  refine kx_new (pc := 227) (c := 5) d_X1_init_227 rfl ⟨(zw_mG (List.mem_of_getElem? (i := 169) (by decide +kernel)) rfl), (zw_mG (List.mem_of_getElem? (i := 234) (by decide +kernel)) rfl), (zw_mG (List.mem_of_getElem? (i := 102) (by decide +kernel)) rfl)⟩ (by decide) rfl hZ ⟨by decide, by decide⟩ (by decide) (by decide +kernel) ?_
  have hZ := hZ.up
  refine zv_dup (pc := 230) d_X1_init_230 rfl ?_
  refine zv_callIN (pc := 231) (As := []) (o := 60) (st := [.ref 60, .int 3, .ref 13]) (d2 := 1) (mc2 := 0) (ms2 := 0) (M2 := M_X5_init) (R2 := fun r T => r = none ∧ T = kS_X5_init_60 (zw_pR (kS_X5_init_59 (zw_pR (kS_X5_init_58 (zw_pR (kS_X5_init_57 (zw_pR (kS_X5_init_56 (zw_pR (kS_X5_init_55 (zw_pR (kS_X5_init_54 (zw_pR (kS_X5_init_53 (zw_pR (kS_X5_init_52 (zw_pR (kS_X5_init_51 (zw_pR (kS_X5_init_50 (zw_pR (kS_X5_init_49 (zw_pR (kS_X0_init_47 (zw_pR (kS_X0_init_45 (zw_pR (kS_X0_init_43 (zw_pR (kS_X0_init_41 (zw_pR (kS_X0_init_39 (zw_pR (kS_X0_init_37 (zw_pR (kS_X0_init_35 (zw_pR (kS_X0_init_33 (zw_pR (kS_X0_init_31 (zw_pR (kS_X0_init_29 (zw_pR (kS_X7_init_26 (zw_pR (kS_X7_init_23 (zw_pR (kS_X7_init_20 (zw_pR (kS_X7_init_17 (zw_pI (zw_pR (zw_pR (zw_pI (zw_pR (zw_pI (zw_pR (zw_pI (zw_pR (zw_pI (zw_pR (zw_pI (zw_pR (zw_pI (zw_pR S 8 0 9) 8 1 0) 8 2 10) 8 3 0) 8 4 11) 8 5 0) 8 6 12) 8 7 0) 8 8 13) 8 9 0) 8 10 14) 8 11 0) 8 12 15) 8 13 16) 8 14 0)) 9 0 17)) 9 1 20)) 9 2 23)) 9 3 26)) 10 0 29)) 10 1 31)) 10 2 33)) 10 3 35)) 10 4 37)) 10 5 39)) 11 0 41)) 11 1 43)) 11 2 45)) 11 3 47)) 12 0 49)) 12 1 50)) 12 2 51)) 12 3 52)) 12 4 53)) 12 5 54)) 12 6 55)) 12 7 56)) 13 0 57)) 13 1 58)) 13 2 59)) d_X1_init_231 (by decide +kernel) ce_X5_init (Nat.le_of_ble_eq_true rfl) rfl (Nat.le_of_ble_eq_true rfl) (by decide) ⟨by decide, by decide⟩ (by decide) (k_X5_init_60 hZ ⟨rfl, rfl⟩) ?_
  rintro _ _ ⟨rfl, rfl⟩
  have hZ := kZ_X5_init_60 hZ
  show zw_V X M_X1_init 2 56 2672 8 P (231 + 3) 52 2660 [.ref 8, .int 3] [.ref 60, .int 3, .ref 13] (kS_X5_init_60 (zw_pR (kS_X5_init_59 (zw_pR (kS_X5_init_58 (zw_pR (kS_X5_init_57 (zw_pR (kS_X5_init_56 (zw_pR (kS_X5_init_55 (zw_pR (kS_X5_init_54 (zw_pR (kS_X5_init_53 (zw_pR (kS_X5_init_52 (zw_pR (kS_X5_init_51 (zw_pR (kS_X5_init_50 (zw_pR (kS_X5_init_49 (zw_pR (kS_X0_init_47 (zw_pR (kS_X0_init_45 (zw_pR (kS_X0_init_43 (zw_pR (kS_X0_init_41 (zw_pR (kS_X0_init_39 (zw_pR (kS_X0_init_37 (zw_pR (kS_X0_init_35 (zw_pR (kS_X0_init_33 (zw_pR (kS_X0_init_31 (zw_pR (kS_X0_init_29 (zw_pR (kS_X7_init_26 (zw_pR (kS_X7_init_23 (zw_pR (kS_X7_init_20 (zw_pR (kS_X7_init_17 (zw_pI (zw_pR (zw_pR (zw_pI (zw_pR (zw_pI (zw_pR (zw_pI (zw_pR (zw_pI (zw_pR (zw_pI (zw_pR (zw_pI (zw_pR S 8 0 9) 8 1 0) 8 2 10) 8 3 0) 8 4 11) 8 5 0) 8 6 12) 8 7 0) 8 8 13) 8 9 0) 8 10 14) 8 11 0) 8 12 15) 8 13 16) 8 14 0)) 9 0 17)) 9 1 20)) 9 2 23)) 9 3 26)) 10 0 29)) 10 1 31)) 10 2 33)) 10 3 35)) 10 4 37)) 10 5 39)) 11 0 41)) 11 1 43)) 11 2 45)) 11 3 47)) 12 0 49)) 12 1 50)) 12 2 51)) 12 3 52)) 12 4 53)) 12 5 54)) 12 6 55)) 12 7 56)) 13 0 57)) 13 1 58)) 13 2 59))
  refine kx_aast (pc := 234) (o := 13) (κ := 17) (j := 3) d_X1_init_234 ⟨by decide, by decide⟩ (by decide +kernel) (by decide) (by decide +kernel) (by decide +kernel) ⟨by decide, by decide⟩ (by decide +kernel) ?_
  have hZ := hZ.pR (o := 13) (j := 3) (v := 60) (by decide)
  refine kx_iinc (pc := 235) (x2 := 4) (L2 := [.ref 8, .int 4]) d_X1_init_235 (by decide) rfl zc_i_1 (by decide +kernel) rfl ?_
  refine zv_goto (pc := 238) (tg := 216) d_X1_init_238 (by decide) ?_
  refine zv_iload_n (pc := 216) d_X1_init_216 rfl ?_
  refine zv_bipush (pc := 217) d_X1_init_217 zc_b_8 ?_
  refine zv_icmp_ge (pc := 219) (tg := 241) d_X1_init_219 (by decide) (fun q => absurd q (by decide +kernel)) (fun _ => ?_)
  refine zv_aload_n (pc := 222) d_X1_init_222 rfl ?_
  refine kx_getR (pc := 223) (o := 8) (v := 13) d_X1_init_223 lk_CutStones_House_45 (by decide) ⟨by decide, by decide⟩ (by decide +kernel) rfl (by decide) ?_
  refine zv_iload_n (pc := 226) d_X1_init_226 rfl ?_
  refine kx_new (pc := 227) (c := 5) d_X1_init_227 rfl ⟨(zw_mG (List.mem_of_getElem? (i := 169) (by decide +kernel)) rfl), (zw_mG (List.mem_of_getElem? (i := 234) (by decide +kernel)) rfl), (zw_mG (List.mem_of_getElem? (i := 102) (by decide +kernel)) rfl)⟩ (by decide) rfl hZ ⟨by decide, by decide⟩ (by decide) (by decide +kernel) ?_
  have hZ := hZ.up
  refine zv_dup (pc := 230) d_X1_init_230 rfl ?_
  refine zv_callIN (pc := 231) (As := []) (o := 61) (st := [.ref 61, .int 4, .ref 13]) (d2 := 1) (mc2 := 0) (ms2 := 0) (M2 := M_X5_init) (R2 := fun r T => r = none ∧ T = kS_X5_init_61 (zw_pR (kS_X5_init_60 (zw_pR (kS_X5_init_59 (zw_pR (kS_X5_init_58 (zw_pR (kS_X5_init_57 (zw_pR (kS_X5_init_56 (zw_pR (kS_X5_init_55 (zw_pR (kS_X5_init_54 (zw_pR (kS_X5_init_53 (zw_pR (kS_X5_init_52 (zw_pR (kS_X5_init_51 (zw_pR (kS_X5_init_50 (zw_pR (kS_X5_init_49 (zw_pR (kS_X0_init_47 (zw_pR (kS_X0_init_45 (zw_pR (kS_X0_init_43 (zw_pR (kS_X0_init_41 (zw_pR (kS_X0_init_39 (zw_pR (kS_X0_init_37 (zw_pR (kS_X0_init_35 (zw_pR (kS_X0_init_33 (zw_pR (kS_X0_init_31 (zw_pR (kS_X0_init_29 (zw_pR (kS_X7_init_26 (zw_pR (kS_X7_init_23 (zw_pR (kS_X7_init_20 (zw_pR (kS_X7_init_17 (zw_pI (zw_pR (zw_pR (zw_pI (zw_pR (zw_pI (zw_pR (zw_pI (zw_pR (zw_pI (zw_pR (zw_pI (zw_pR (zw_pI (zw_pR S 8 0 9) 8 1 0) 8 2 10) 8 3 0) 8 4 11) 8 5 0) 8 6 12) 8 7 0) 8 8 13) 8 9 0) 8 10 14) 8 11 0) 8 12 15) 8 13 16) 8 14 0)) 9 0 17)) 9 1 20)) 9 2 23)) 9 3 26)) 10 0 29)) 10 1 31)) 10 2 33)) 10 3 35)) 10 4 37)) 10 5 39)) 11 0 41)) 11 1 43)) 11 2 45)) 11 3 47)) 12 0 49)) 12 1 50)) 12 2 51)) 12 3 52)) 12 4 53)) 12 5 54)) 12 6 55)) 12 7 56)) 13 0 57)) 13 1 58)) 13 2 59)) 13 3 60)) d_X1_init_231 (by decide +kernel) ce_X5_init (Nat.le_of_ble_eq_true rfl) rfl (Nat.le_of_ble_eq_true rfl) (by decide) ⟨by decide, by decide⟩ (by decide) (k_X5_init_61 hZ ⟨rfl, rfl⟩) ?_
  rintro _ _ ⟨rfl, rfl⟩
  have hZ := kZ_X5_init_61 hZ
  show zw_V X M_X1_init 2 56 2672 8 P (231 + 3) 53 2663 [.ref 8, .int 4] [.ref 61, .int 4, .ref 13] (kS_X5_init_61 (zw_pR (kS_X5_init_60 (zw_pR (kS_X5_init_59 (zw_pR (kS_X5_init_58 (zw_pR (kS_X5_init_57 (zw_pR (kS_X5_init_56 (zw_pR (kS_X5_init_55 (zw_pR (kS_X5_init_54 (zw_pR (kS_X5_init_53 (zw_pR (kS_X5_init_52 (zw_pR (kS_X5_init_51 (zw_pR (kS_X5_init_50 (zw_pR (kS_X5_init_49 (zw_pR (kS_X0_init_47 (zw_pR (kS_X0_init_45 (zw_pR (kS_X0_init_43 (zw_pR (kS_X0_init_41 (zw_pR (kS_X0_init_39 (zw_pR (kS_X0_init_37 (zw_pR (kS_X0_init_35 (zw_pR (kS_X0_init_33 (zw_pR (kS_X0_init_31 (zw_pR (kS_X0_init_29 (zw_pR (kS_X7_init_26 (zw_pR (kS_X7_init_23 (zw_pR (kS_X7_init_20 (zw_pR (kS_X7_init_17 (zw_pI (zw_pR (zw_pR (zw_pI (zw_pR (zw_pI (zw_pR (zw_pI (zw_pR (zw_pI (zw_pR (zw_pI (zw_pR (zw_pI (zw_pR S 8 0 9) 8 1 0) 8 2 10) 8 3 0) 8 4 11) 8 5 0) 8 6 12) 8 7 0) 8 8 13) 8 9 0) 8 10 14) 8 11 0) 8 12 15) 8 13 16) 8 14 0)) 9 0 17)) 9 1 20)) 9 2 23)) 9 3 26)) 10 0 29)) 10 1 31)) 10 2 33)) 10 3 35)) 10 4 37)) 10 5 39)) 11 0 41)) 11 1 43)) 11 2 45)) 11 3 47)) 12 0 49)) 12 1 50)) 12 2 51)) 12 3 52)) 12 4 53)) 12 5 54)) 12 6 55)) 12 7 56)) 13 0 57)) 13 1 58)) 13 2 59)) 13 3 60))
  refine kx_aast (pc := 234) (o := 13) (κ := 17) (j := 4) d_X1_init_234 ⟨by decide, by decide⟩ (by decide +kernel) (by decide) (by decide +kernel) (by decide +kernel) ⟨by decide, by decide⟩ (by decide +kernel) ?_
  have hZ := hZ.pR (o := 13) (j := 4) (v := 61) (by decide)
  refine kx_iinc (pc := 235) (x2 := 5) (L2 := [.ref 8, .int 5]) d_X1_init_235 (by decide) rfl zc_i_1 (by decide +kernel) rfl ?_
  refine zv_goto (pc := 238) (tg := 216) d_X1_init_238 (by decide) ?_
  refine zv_iload_n (pc := 216) d_X1_init_216 rfl ?_
  refine zv_bipush (pc := 217) d_X1_init_217 zc_b_8 ?_
  refine zv_icmp_ge (pc := 219) (tg := 241) d_X1_init_219 (by decide) (fun q => absurd q (by decide +kernel)) (fun _ => ?_)
  refine zv_aload_n (pc := 222) d_X1_init_222 rfl ?_
  refine kx_getR (pc := 223) (o := 8) (v := 13) d_X1_init_223 lk_CutStones_House_45 (by decide) ⟨by decide, by decide⟩ (by decide +kernel) rfl (by decide) ?_
  refine zv_iload_n (pc := 226) d_X1_init_226 rfl ?_
  refine kx_new (pc := 227) (c := 5) d_X1_init_227 rfl ⟨(zw_mG (List.mem_of_getElem? (i := 169) (by decide +kernel)) rfl), (zw_mG (List.mem_of_getElem? (i := 234) (by decide +kernel)) rfl), (zw_mG (List.mem_of_getElem? (i := 102) (by decide +kernel)) rfl)⟩ (by decide) rfl hZ ⟨by decide, by decide⟩ (by decide) (by decide +kernel) ?_
  have hZ := hZ.up
  refine zv_dup (pc := 230) d_X1_init_230 rfl ?_
  refine zv_callIN (pc := 231) (As := []) (o := 62) (st := [.ref 62, .int 5, .ref 13]) (d2 := 1) (mc2 := 0) (ms2 := 0) (M2 := M_X5_init) (R2 := fun r T => r = none ∧ T = kS_X5_init_62 (zw_pR (kS_X5_init_61 (zw_pR (kS_X5_init_60 (zw_pR (kS_X5_init_59 (zw_pR (kS_X5_init_58 (zw_pR (kS_X5_init_57 (zw_pR (kS_X5_init_56 (zw_pR (kS_X5_init_55 (zw_pR (kS_X5_init_54 (zw_pR (kS_X5_init_53 (zw_pR (kS_X5_init_52 (zw_pR (kS_X5_init_51 (zw_pR (kS_X5_init_50 (zw_pR (kS_X5_init_49 (zw_pR (kS_X0_init_47 (zw_pR (kS_X0_init_45 (zw_pR (kS_X0_init_43 (zw_pR (kS_X0_init_41 (zw_pR (kS_X0_init_39 (zw_pR (kS_X0_init_37 (zw_pR (kS_X0_init_35 (zw_pR (kS_X0_init_33 (zw_pR (kS_X0_init_31 (zw_pR (kS_X0_init_29 (zw_pR (kS_X7_init_26 (zw_pR (kS_X7_init_23 (zw_pR (kS_X7_init_20 (zw_pR (kS_X7_init_17 (zw_pI (zw_pR (zw_pR (zw_pI (zw_pR (zw_pI (zw_pR (zw_pI (zw_pR (zw_pI (zw_pR (zw_pI (zw_pR (zw_pI (zw_pR S 8 0 9) 8 1 0) 8 2 10) 8 3 0) 8 4 11) 8 5 0) 8 6 12) 8 7 0) 8 8 13) 8 9 0) 8 10 14) 8 11 0) 8 12 15) 8 13 16) 8 14 0)) 9 0 17)) 9 1 20)) 9 2 23)) 9 3 26)) 10 0 29)) 10 1 31)) 10 2 33)) 10 3 35)) 10 4 37)) 10 5 39)) 11 0 41)) 11 1 43)) 11 2 45)) 11 3 47)) 12 0 49)) 12 1 50)) 12 2 51)) 12 3 52)) 12 4 53)) 12 5 54)) 12 6 55)) 12 7 56)) 13 0 57)) 13 1 58)) 13 2 59)) 13 3 60)) 13 4 61)) d_X1_init_231 (by decide +kernel) ce_X5_init (Nat.le_of_ble_eq_true rfl) rfl (Nat.le_of_ble_eq_true rfl) (by decide) ⟨by decide, by decide⟩ (by decide) (k_X5_init_62 hZ ⟨rfl, rfl⟩) ?_
  rintro _ _ ⟨rfl, rfl⟩
  have hZ := kZ_X5_init_62 hZ
  show zw_V X M_X1_init 2 56 2672 8 P (231 + 3) 54 2666 [.ref 8, .int 5] [.ref 62, .int 5, .ref 13] (kS_X5_init_62 (zw_pR (kS_X5_init_61 (zw_pR (kS_X5_init_60 (zw_pR (kS_X5_init_59 (zw_pR (kS_X5_init_58 (zw_pR (kS_X5_init_57 (zw_pR (kS_X5_init_56 (zw_pR (kS_X5_init_55 (zw_pR (kS_X5_init_54 (zw_pR (kS_X5_init_53 (zw_pR (kS_X5_init_52 (zw_pR (kS_X5_init_51 (zw_pR (kS_X5_init_50 (zw_pR (kS_X5_init_49 (zw_pR (kS_X0_init_47 (zw_pR (kS_X0_init_45 (zw_pR (kS_X0_init_43 (zw_pR (kS_X0_init_41 (zw_pR (kS_X0_init_39 (zw_pR (kS_X0_init_37 (zw_pR (kS_X0_init_35 (zw_pR (kS_X0_init_33 (zw_pR (kS_X0_init_31 (zw_pR (kS_X0_init_29 (zw_pR (kS_X7_init_26 (zw_pR (kS_X7_init_23 (zw_pR (kS_X7_init_20 (zw_pR (kS_X7_init_17 (zw_pI (zw_pR (zw_pR (zw_pI (zw_pR (zw_pI (zw_pR (zw_pI (zw_pR (zw_pI (zw_pR (zw_pI (zw_pR (zw_pI (zw_pR S 8 0 9) 8 1 0) 8 2 10) 8 3 0) 8 4 11) 8 5 0) 8 6 12) 8 7 0) 8 8 13) 8 9 0) 8 10 14) 8 11 0) 8 12 15) 8 13 16) 8 14 0)) 9 0 17)) 9 1 20)) 9 2 23)) 9 3 26)) 10 0 29)) 10 1 31)) 10 2 33)) 10 3 35)) 10 4 37)) 10 5 39)) 11 0 41)) 11 1 43)) 11 2 45)) 11 3 47)) 12 0 49)) 12 1 50)) 12 2 51)) 12 3 52)) 12 4 53)) 12 5 54)) 12 6 55)) 12 7 56)) 13 0 57)) 13 1 58)) 13 2 59)) 13 3 60)) 13 4 61))
  refine kx_aast (pc := 234) (o := 13) (κ := 17) (j := 5) d_X1_init_234 ⟨by decide, by decide⟩ (by decide +kernel) (by decide) (by decide +kernel) (by decide +kernel) ⟨by decide, by decide⟩ (by decide +kernel) ?_
  have hZ := hZ.pR (o := 13) (j := 5) (v := 62) (by decide)
  refine kx_iinc (pc := 235) (x2 := 6) (L2 := [.ref 8, .int 6]) d_X1_init_235 (by decide) rfl zc_i_1 (by decide +kernel) rfl ?_
  refine zv_goto (pc := 238) (tg := 216) d_X1_init_238 (by decide) ?_
  refine zv_iload_n (pc := 216) d_X1_init_216 rfl ?_
  refine zv_bipush (pc := 217) d_X1_init_217 zc_b_8 ?_
  refine zv_icmp_ge (pc := 219) (tg := 241) d_X1_init_219 (by decide) (fun q => absurd q (by decide +kernel)) (fun _ => ?_)
  refine zv_aload_n (pc := 222) d_X1_init_222 rfl ?_
  refine kx_getR (pc := 223) (o := 8) (v := 13) d_X1_init_223 lk_CutStones_House_45 (by decide) ⟨by decide, by decide⟩ (by decide +kernel) rfl (by decide) ?_
  refine zv_iload_n (pc := 226) d_X1_init_226 rfl ?_
  refine kx_new (pc := 227) (c := 5) d_X1_init_227 rfl ⟨(zw_mG (List.mem_of_getElem? (i := 169) (by decide +kernel)) rfl), (zw_mG (List.mem_of_getElem? (i := 234) (by decide +kernel)) rfl), (zw_mG (List.mem_of_getElem? (i := 102) (by decide +kernel)) rfl)⟩ (by decide) rfl hZ ⟨by decide, by decide⟩ (by decide) (by decide +kernel) ?_
  have hZ := hZ.up
  refine zv_dup (pc := 230) d_X1_init_230 rfl ?_
  refine zv_callIN (pc := 231) (As := []) (o := 63) (st := [.ref 63, .int 6, .ref 13]) (d2 := 1) (mc2 := 0) (ms2 := 0) (M2 := M_X5_init) (R2 := fun r T => r = none ∧ T = kS_X5_init_63 (zw_pR (kS_X5_init_62 (zw_pR (kS_X5_init_61 (zw_pR (kS_X5_init_60 (zw_pR (kS_X5_init_59 (zw_pR (kS_X5_init_58 (zw_pR (kS_X5_init_57 (zw_pR (kS_X5_init_56 (zw_pR (kS_X5_init_55 (zw_pR (kS_X5_init_54 (zw_pR (kS_X5_init_53 (zw_pR (kS_X5_init_52 (zw_pR (kS_X5_init_51 (zw_pR (kS_X5_init_50 (zw_pR (kS_X5_init_49 (zw_pR (kS_X0_init_47 (zw_pR (kS_X0_init_45 (zw_pR (kS_X0_init_43 (zw_pR (kS_X0_init_41 (zw_pR (kS_X0_init_39 (zw_pR (kS_X0_init_37 (zw_pR (kS_X0_init_35 (zw_pR (kS_X0_init_33 (zw_pR (kS_X0_init_31 (zw_pR (kS_X0_init_29 (zw_pR (kS_X7_init_26 (zw_pR (kS_X7_init_23 (zw_pR (kS_X7_init_20 (zw_pR (kS_X7_init_17 (zw_pI (zw_pR (zw_pR (zw_pI (zw_pR (zw_pI (zw_pR (zw_pI (zw_pR (zw_pI (zw_pR (zw_pI (zw_pR (zw_pI (zw_pR S 8 0 9) 8 1 0) 8 2 10) 8 3 0) 8 4 11) 8 5 0) 8 6 12) 8 7 0) 8 8 13) 8 9 0) 8 10 14) 8 11 0) 8 12 15) 8 13 16) 8 14 0)) 9 0 17)) 9 1 20)) 9 2 23)) 9 3 26)) 10 0 29)) 10 1 31)) 10 2 33)) 10 3 35)) 10 4 37)) 10 5 39)) 11 0 41)) 11 1 43)) 11 2 45)) 11 3 47)) 12 0 49)) 12 1 50)) 12 2 51)) 12 3 52)) 12 4 53)) 12 5 54)) 12 6 55)) 12 7 56)) 13 0 57)) 13 1 58)) 13 2 59)) 13 3 60)) 13 4 61)) 13 5 62)) d_X1_init_231 (by decide +kernel) ce_X5_init (Nat.le_of_ble_eq_true rfl) rfl (Nat.le_of_ble_eq_true rfl) (by decide) ⟨by decide, by decide⟩ (by decide) (k_X5_init_63 hZ ⟨rfl, rfl⟩) ?_
  rintro _ _ ⟨rfl, rfl⟩
  have hZ := kZ_X5_init_63 hZ
  show zw_V X M_X1_init 2 56 2672 8 P (231 + 3) 55 2669 [.ref 8, .int 6] [.ref 63, .int 6, .ref 13] (kS_X5_init_63 (zw_pR (kS_X5_init_62 (zw_pR (kS_X5_init_61 (zw_pR (kS_X5_init_60 (zw_pR (kS_X5_init_59 (zw_pR (kS_X5_init_58 (zw_pR (kS_X5_init_57 (zw_pR (kS_X5_init_56 (zw_pR (kS_X5_init_55 (zw_pR (kS_X5_init_54 (zw_pR (kS_X5_init_53 (zw_pR (kS_X5_init_52 (zw_pR (kS_X5_init_51 (zw_pR (kS_X5_init_50 (zw_pR (kS_X5_init_49 (zw_pR (kS_X0_init_47 (zw_pR (kS_X0_init_45 (zw_pR (kS_X0_init_43 (zw_pR (kS_X0_init_41 (zw_pR (kS_X0_init_39 (zw_pR (kS_X0_init_37 (zw_pR (kS_X0_init_35 (zw_pR (kS_X0_init_33 (zw_pR (kS_X0_init_31 (zw_pR (kS_X0_init_29 (zw_pR (kS_X7_init_26 (zw_pR (kS_X7_init_23 (zw_pR (kS_X7_init_20 (zw_pR (kS_X7_init_17 (zw_pI (zw_pR (zw_pR (zw_pI (zw_pR (zw_pI (zw_pR (zw_pI (zw_pR (zw_pI (zw_pR (zw_pI (zw_pR (zw_pI (zw_pR S 8 0 9) 8 1 0) 8 2 10) 8 3 0) 8 4 11) 8 5 0) 8 6 12) 8 7 0) 8 8 13) 8 9 0) 8 10 14) 8 11 0) 8 12 15) 8 13 16) 8 14 0)) 9 0 17)) 9 1 20)) 9 2 23)) 9 3 26)) 10 0 29)) 10 1 31)) 10 2 33)) 10 3 35)) 10 4 37)) 10 5 39)) 11 0 41)) 11 1 43)) 11 2 45)) 11 3 47)) 12 0 49)) 12 1 50)) 12 2 51)) 12 3 52)) 12 4 53)) 12 5 54)) 12 6 55)) 12 7 56)) 13 0 57)) 13 1 58)) 13 2 59)) 13 3 60)) 13 4 61)) 13 5 62))
  refine kx_aast (pc := 234) (o := 13) (κ := 17) (j := 6) d_X1_init_234 ⟨by decide, by decide⟩ (by decide +kernel) (by decide) (by decide +kernel) (by decide +kernel) ⟨by decide, by decide⟩ (by decide +kernel) ?_
  have hZ := hZ.pR (o := 13) (j := 6) (v := 63) (by decide)
  refine kx_iinc (pc := 235) (x2 := 7) (L2 := [.ref 8, .int 7]) d_X1_init_235 (by decide) rfl zc_i_1 (by decide +kernel) rfl ?_
  refine zv_goto (pc := 238) (tg := 216) d_X1_init_238 (by decide) ?_
  refine zv_iload_n (pc := 216) d_X1_init_216 rfl ?_
  refine zv_bipush (pc := 217) d_X1_init_217 zc_b_8 ?_
  refine zv_icmp_ge (pc := 219) (tg := 241) d_X1_init_219 (by decide) (fun q => absurd q (by decide +kernel)) (fun _ => ?_)
  refine zv_aload_n (pc := 222) d_X1_init_222 rfl ?_
  refine kx_getR (pc := 223) (o := 8) (v := 13) d_X1_init_223 lk_CutStones_House_45 (by decide) ⟨by decide, by decide⟩ (by decide +kernel) rfl (by decide) ?_
  refine zv_iload_n (pc := 226) d_X1_init_226 rfl ?_
  refine kx_new (pc := 227) (c := 5) d_X1_init_227 rfl ⟨(zw_mG (List.mem_of_getElem? (i := 169) (by decide +kernel)) rfl), (zw_mG (List.mem_of_getElem? (i := 234) (by decide +kernel)) rfl), (zw_mG (List.mem_of_getElem? (i := 102) (by decide +kernel)) rfl)⟩ (by decide) rfl hZ ⟨by decide, by decide⟩ (by decide) (by decide +kernel) ?_
  have hZ := hZ.up
  refine zv_dup (pc := 230) d_X1_init_230 rfl ?_
  refine zv_callIN (pc := 231) (As := []) (o := 64) (st := [.ref 64, .int 7, .ref 13]) (d2 := 1) (mc2 := 0) (ms2 := 0) (M2 := M_X5_init) (R2 := fun r T => r = none ∧ T = kS_X5_init_64 (zw_pR (kS_X5_init_63 (zw_pR (kS_X5_init_62 (zw_pR (kS_X5_init_61 (zw_pR (kS_X5_init_60 (zw_pR (kS_X5_init_59 (zw_pR (kS_X5_init_58 (zw_pR (kS_X5_init_57 (zw_pR (kS_X5_init_56 (zw_pR (kS_X5_init_55 (zw_pR (kS_X5_init_54 (zw_pR (kS_X5_init_53 (zw_pR (kS_X5_init_52 (zw_pR (kS_X5_init_51 (zw_pR (kS_X5_init_50 (zw_pR (kS_X5_init_49 (zw_pR (kS_X0_init_47 (zw_pR (kS_X0_init_45 (zw_pR (kS_X0_init_43 (zw_pR (kS_X0_init_41 (zw_pR (kS_X0_init_39 (zw_pR (kS_X0_init_37 (zw_pR (kS_X0_init_35 (zw_pR (kS_X0_init_33 (zw_pR (kS_X0_init_31 (zw_pR (kS_X0_init_29 (zw_pR (kS_X7_init_26 (zw_pR (kS_X7_init_23 (zw_pR (kS_X7_init_20 (zw_pR (kS_X7_init_17 (zw_pI (zw_pR (zw_pR (zw_pI (zw_pR (zw_pI (zw_pR (zw_pI (zw_pR (zw_pI (zw_pR (zw_pI (zw_pR (zw_pI (zw_pR S 8 0 9) 8 1 0) 8 2 10) 8 3 0) 8 4 11) 8 5 0) 8 6 12) 8 7 0) 8 8 13) 8 9 0) 8 10 14) 8 11 0) 8 12 15) 8 13 16) 8 14 0)) 9 0 17)) 9 1 20)) 9 2 23)) 9 3 26)) 10 0 29)) 10 1 31)) 10 2 33)) 10 3 35)) 10 4 37)) 10 5 39)) 11 0 41)) 11 1 43)) 11 2 45)) 11 3 47)) 12 0 49)) 12 1 50)) 12 2 51)) 12 3 52)) 12 4 53)) 12 5 54)) 12 6 55)) 12 7 56)) 13 0 57)) 13 1 58)) 13 2 59)) 13 3 60)) 13 4 61)) 13 5 62)) 13 6 63)) d_X1_init_231 (by decide +kernel) ce_X5_init (Nat.le_of_ble_eq_true rfl) rfl (Nat.le_of_ble_eq_true rfl) (by decide) ⟨by decide, by decide⟩ (by decide) (k_X5_init_64 hZ ⟨rfl, rfl⟩) ?_
  rintro _ _ ⟨rfl, rfl⟩
  have hZ := kZ_X5_init_64 hZ
  show zw_V X M_X1_init 2 56 2672 8 P (231 + 3) 56 2672 [.ref 8, .int 7] [.ref 64, .int 7, .ref 13] (kS_X5_init_64 (zw_pR (kS_X5_init_63 (zw_pR (kS_X5_init_62 (zw_pR (kS_X5_init_61 (zw_pR (kS_X5_init_60 (zw_pR (kS_X5_init_59 (zw_pR (kS_X5_init_58 (zw_pR (kS_X5_init_57 (zw_pR (kS_X5_init_56 (zw_pR (kS_X5_init_55 (zw_pR (kS_X5_init_54 (zw_pR (kS_X5_init_53 (zw_pR (kS_X5_init_52 (zw_pR (kS_X5_init_51 (zw_pR (kS_X5_init_50 (zw_pR (kS_X5_init_49 (zw_pR (kS_X0_init_47 (zw_pR (kS_X0_init_45 (zw_pR (kS_X0_init_43 (zw_pR (kS_X0_init_41 (zw_pR (kS_X0_init_39 (zw_pR (kS_X0_init_37 (zw_pR (kS_X0_init_35 (zw_pR (kS_X0_init_33 (zw_pR (kS_X0_init_31 (zw_pR (kS_X0_init_29 (zw_pR (kS_X7_init_26 (zw_pR (kS_X7_init_23 (zw_pR (kS_X7_init_20 (zw_pR (kS_X7_init_17 (zw_pI (zw_pR (zw_pR (zw_pI (zw_pR (zw_pI (zw_pR (zw_pI (zw_pR (zw_pI (zw_pR (zw_pI (zw_pR (zw_pI (zw_pR S 8 0 9) 8 1 0) 8 2 10) 8 3 0) 8 4 11) 8 5 0) 8 6 12) 8 7 0) 8 8 13) 8 9 0) 8 10 14) 8 11 0) 8 12 15) 8 13 16) 8 14 0)) 9 0 17)) 9 1 20)) 9 2 23)) 9 3 26)) 10 0 29)) 10 1 31)) 10 2 33)) 10 3 35)) 10 4 37)) 10 5 39)) 11 0 41)) 11 1 43)) 11 2 45)) 11 3 47)) 12 0 49)) 12 1 50)) 12 2 51)) 12 3 52)) 12 4 53)) 12 5 54)) 12 6 55)) 12 7 56)) 13 0 57)) 13 1 58)) 13 2 59)) 13 3 60)) 13 4 61)) 13 5 62)) 13 6 63))
  refine kx_aast (pc := 234) (o := 13) (κ := 17) (j := 7) d_X1_init_234 ⟨by decide, by decide⟩ (by decide +kernel) (by decide) (by decide +kernel) (by decide +kernel) ⟨by decide, by decide⟩ (by decide +kernel) ?_
  have hZ := hZ.pR (o := 13) (j := 7) (v := 64) (by decide)
  refine kx_iinc (pc := 235) (x2 := 8) (L2 := [.ref 8, .int 8]) d_X1_init_235 (by decide) rfl zc_i_1 (by decide +kernel) rfl ?_
  refine zv_goto (pc := 238) (tg := 216) d_X1_init_238 (by decide) ?_
  refine zv_iload_n (pc := 216) d_X1_init_216 rfl ?_
  refine zv_bipush (pc := 217) d_X1_init_217 zc_b_8 ?_
  refine zv_icmp_ge (pc := 219) (tg := 241) d_X1_init_219 (by decide) (fun _ => ?_) (fun q => absurd (by decide +kernel) q)
  exact zv_vret (pc := 241) d_X1_init_241 rfl rfl (Nat.le_refl _) hP
