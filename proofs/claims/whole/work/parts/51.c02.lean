def kS_X3_init_7 (S : aS) : aS := (zw_pI (zw_pI (zw_pI (zw_pR (kS_X1_init_8 (zw_pI (zw_pI S 7 0 0) 7 1 (-1))) 7 2 8) 7 3 0) 7 4 0) 7 5 (-1))
theorem kZ_X3_init_7 {S : aS} (hZ : zw_Z 7 S) : zw_Z 64 (kS_X3_init_7 S) := by
  unfold kS_X3_init_7
  have hZ := hZ.pI (o := 7) (j := 0) (v := 0) (by decide)
  have hZ := hZ.pI (o := 7) (j := 1) (v := (-1)) (by decide)
  have hZ := hZ.up
  have hZ := kZ_X1_init_8 hZ
  have hZ := hZ.pR (o := 7) (j := 2) (v := 8) (by decide)
  have hZ := hZ.pI (o := 7) (j := 3) (v := 0) (by decide)
  have hZ := hZ.pI (o := 7) (j := 4) (v := 0) (by decide)
  have hZ := hZ.pI (o := 7) (j := 5) (v := (-1)) (by decide)
  exact hZ
theorem k_X3_init_7 {X : zw_X} {P : Option Value → aS → Prop} {S : aS} (hZ : zw_Z 7 S) (hP : P none (kS_X3_init_7 S)) : zw_C X M_X3_init 3 57 2687 7 [.ref 7] S P := by
  show zw_V X M_X3_init 3 57 2687 7 P 0 0 0 [.ref 7] [] S
  refine zv_aload_n (pc := 0) d_X3_init_0 rfl ?_
  refine zv_obj (pc := 1) d_X3_init_1 (zw_mG (List.mem_of_getElem? (i := 158) (by decide +kernel)) rfl) (by decide) (Nat.le_of_ble_eq_true rfl) ?_
  refine zv_aload_n (pc := 4) d_X3_init_4 rfl ?_
  refine zv_iconst (pc := 5) d_X3_init_5 zc_i_0 ?_
  refine kx_putI (pc := 6) (o := 7) (v := 0) d_X3_init_6 lk_CutStones_Reader_9 (Or.inl rfl) ⟨by decide, by decide⟩ (by decide +kernel) ?_
  have hZ := hZ.pI (o := 7) (j := 0) (v := 0) (by decide)
  refine zv_aload_n (pc := 9) d_X3_init_9 rfl ?_
  refine zv_iconst (pc := 10) d_X3_init_10 zc_i_m1 ?_
  refine kx_putI (pc := 11) (o := 7) (v := (-1)) d_X3_init_11 lk_CutStones_Reader_15 (Or.inl rfl) ⟨by decide, by decide⟩ (by decide +kernel) ?_
  have hZ := hZ.pI (o := 7) (j := 1) (v := (-1)) (by decide)
  refine zv_aload_n (pc := 14) d_X3_init_14 rfl ?_
  refine kx_new (pc := 15) (c := 1) d_X3_init_15 rfl ⟨(zw_mG (List.mem_of_getElem? (i := 159) (by decide +kernel)) rfl), (zw_mG (List.mem_of_getElem? (i := 160) (by decide +kernel)) rfl), (zw_mG (List.mem_of_getElem? (i := 99) (by decide +kernel)) rfl)⟩ (by decide) rfl hZ ⟨by decide, by decide⟩ (by decide) (by decide +kernel) ?_
  have hZ := hZ.up
  refine zv_dup (pc := 18) d_X3_init_18 rfl ?_
  refine zv_callI (pc := 19) (As := []) (o := 8) (st := [.ref 8, .ref 7]) (d2 := 2) (mc2 := 56) (ms2 := 2672) (M2 := M_X1_init) (R2 := fun r T => r = none ∧ T = kS_X1_init_8 (zw_pI (zw_pI S 7 0 0) 7 1 (-1))) d_X3_init_19 (zw_mG (List.mem_of_getElem? (i := 161) (by decide +kernel)) rfl) ce_X1_init (Nat.le_of_ble_eq_true rfl) rfl (Nat.le_of_ble_eq_true rfl) (by decide) ⟨by decide, by decide⟩ (by decide) (k_X1_init_8 hZ ⟨rfl, rfl⟩) ?_
  rintro _ _ ⟨rfl, rfl⟩
  have hZ := kZ_X1_init_8 hZ
  show zw_V X M_X3_init 3 57 2687 7 P (19 + 3) 57 2687 [.ref 7] [.ref 8, .ref 7] (kS_X1_init_8 (zw_pI (zw_pI S 7 0 0) 7 1 (-1)))
  refine kx_putR (pc := 22) (o := 7) (v := 8) d_X3_init_22 lk_CutStones_Reader_21 (Or.inl rfl) (by decide) ⟨by decide, by decide⟩ (by decide +kernel) (by decide) ?_
  have hZ := hZ.pR (o := 7) (j := 2) (v := 8) (by decide)
  refine zv_aload_n (pc := 25) d_X3_init_25 rfl ?_
  refine zv_iconst (pc := 26) d_X3_init_26 zc_i_0 ?_
  refine kx_putI (pc := 27) (o := 7) (v := 0) d_X3_init_27 lk_CutStones_Reader_25 (Or.inl rfl) ⟨by decide, by decide⟩ (by decide +kernel) ?_
  have hZ := hZ.pI (o := 7) (j := 3) (v := 0) (by decide)
  refine zv_aload_n (pc := 30) d_X3_init_30 rfl ?_
  refine zv_iconst (pc := 31) d_X3_init_31 zc_i_0 ?_
  refine kx_putI (pc := 32) (o := 7) (v := 0) d_X3_init_32 lk_CutStones_Reader_28 (Or.inl rfl) ⟨by decide, by decide⟩ (by decide +kernel) ?_
  have hZ := hZ.pI (o := 7) (j := 4) (v := 0) (by decide)
  refine zv_aload_n (pc := 35) d_X3_init_35 rfl ?_
  refine zv_iconst (pc := 36) d_X3_init_36 zc_i_m1 ?_
  refine kx_putI (pc := 37) (o := 7) (v := (-1)) d_X3_init_37 lk_CutStones_Reader_31 (Or.inl rfl) ⟨by decide, by decide⟩ (by decide +kernel) ?_
  have hZ := hZ.pI (o := 7) (j := 5) (v := (-1)) (by decide)
  exact zv_vret (pc := 40) d_X3_init_40 rfl rfl (Nat.le_refl _) hP
def kS_X7_init_74 (S : aS) : aS := (zw_pI (zw_pR (zw_pR S 74 0 75) 74 1 76) 74 2 200)
theorem kZ_X7_init_74 {S : aS} (hZ : zw_Z 74 S) : zw_Z 76 (kS_X7_init_74 S) := by
  unfold kS_X7_init_74
  have hZ := hZ.up
  have hZ := hZ.pR (o := 74) (j := 0) (v := 75) (by decide)
  have hZ := hZ.up
  have hZ := hZ.pR (o := 74) (j := 1) (v := 76) (by decide)
  have hZ := hZ.pI (o := 74) (j := 2) (v := 200) (by decide)
  exact hZ
theorem k_X7_init_74 {X : zw_X} {P : Option Value → aS → Prop} {S : aS} (hZ : zw_Z 74 S) (hP : P none (kS_X7_init_74 S)) : zw_C X M_X7_init 1 2 8 74 [.ref 74] S P := by
  show zw_V X M_X7_init 1 2 8 74 P 0 0 0 [.ref 74] [] S
  refine zv_aload_n (pc := 0) d_X7_init_0 rfl ?_
  refine zv_obj (pc := 1) d_X7_init_1 (zw_mG (List.mem_of_getElem? (i := 175) (by decide +kernel)) rfl) (by decide) (Nat.le_of_ble_eq_true rfl) ?_
  refine zv_aload_n (pc := 4) d_X7_init_4 rfl ?_
  refine zv_iconst (pc := 5) d_X7_init_5 zc_i_4 ?_
  refine kx_newa (pc := 6) (N := 4) d_X7_init_6 (by decide) (by decide +kernel) (by decide +kernel) (by decide) (by decide) rfl hZ ⟨by decide, by decide⟩ (by decide) ?_
  have hZ := hZ.up
  refine kx_putR (pc := 8) (o := 74) (v := 75) d_X7_init_8 lk_CutStones_Stuff_9 (Or.inr ⟨rfl, rfl, rfl⟩) (by decide) ⟨by decide, by decide⟩ (by decide +kernel) (by decide) ?_
  have hZ := hZ.pR (o := 74) (j := 0) (v := 75) (by decide)
  refine zv_aload_n (pc := 11) d_X7_init_11 rfl ?_
  refine zv_iconst (pc := 12) d_X7_init_12 zc_i_4 ?_
  refine kx_newa (pc := 13) (N := 4) d_X7_init_13 (by decide) (by decide +kernel) (by decide +kernel) (by decide) (by decide) rfl hZ ⟨by decide, by decide⟩ (by decide) ?_
  have hZ := hZ.up
  refine kx_putR (pc := 15) (o := 74) (v := 76) d_X7_init_15 lk_CutStones_Stuff_15 (Or.inr ⟨rfl, rfl, rfl⟩) (by decide) ⟨by decide, by decide⟩ (by decide +kernel) (by decide) ?_
  have hZ := hZ.pR (o := 74) (j := 1) (v := 76) (by decide)
  refine zv_aload_n (pc := 18) d_X7_init_18 rfl ?_
  refine zv_sipush (pc := 19) d_X7_init_19 zc_s_200 ?_
  refine kx_putI (pc := 22) (o := 74) (v := 200) d_X7_init_22 lk_CutStones_Stuff_18 (Or.inl rfl) ⟨by decide, by decide⟩ (by decide +kernel) ?_
  have hZ := hZ.pI (o := 74) (j := 2) (v := 200) (by decide)
  exact zv_vret (pc := 25) d_X7_init_25 rfl rfl (Nat.le_refl _) hP
def kS_X7_init_77 (S : aS) : aS := (zw_pI (zw_pR (zw_pR S 77 0 78) 77 1 79) 77 2 200)
theorem kZ_X7_init_77 {S : aS} (hZ : zw_Z 77 S) : zw_Z 79 (kS_X7_init_77 S) := by
  unfold kS_X7_init_77
  have hZ := hZ.up
  have hZ := hZ.pR (o := 77) (j := 0) (v := 78) (by decide)
  have hZ := hZ.up
  have hZ := hZ.pR (o := 77) (j := 1) (v := 79) (by decide)
  have hZ := hZ.pI (o := 77) (j := 2) (v := 200) (by decide)
  exact hZ
theorem k_X7_init_77 {X : zw_X} {P : Option Value → aS → Prop} {S : aS} (hZ : zw_Z 77 S) (hP : P none (kS_X7_init_77 S)) : zw_C X M_X7_init 1 2 8 77 [.ref 77] S P := by
  show zw_V X M_X7_init 1 2 8 77 P 0 0 0 [.ref 77] [] S
  refine zv_aload_n (pc := 0) d_X7_init_0 rfl ?_
  refine zv_obj (pc := 1) d_X7_init_1 (zw_mG (List.mem_of_getElem? (i := 175) (by decide +kernel)) rfl) (by decide) (Nat.le_of_ble_eq_true rfl) ?_
  refine zv_aload_n (pc := 4) d_X7_init_4 rfl ?_
  refine zv_iconst (pc := 5) d_X7_init_5 zc_i_4 ?_
  refine kx_newa (pc := 6) (N := 4) d_X7_init_6 (by decide) (by decide +kernel) (by decide +kernel) (by decide) (by decide) rfl hZ ⟨by decide, by decide⟩ (by decide) ?_
  have hZ := hZ.up
  refine kx_putR (pc := 8) (o := 77) (v := 78) d_X7_init_8 lk_CutStones_Stuff_9 (Or.inr ⟨rfl, rfl, rfl⟩) (by decide) ⟨by decide, by decide⟩ (by decide +kernel) (by decide) ?_
  have hZ := hZ.pR (o := 77) (j := 0) (v := 78) (by decide)
  refine zv_aload_n (pc := 11) d_X7_init_11 rfl ?_
  refine zv_iconst (pc := 12) d_X7_init_12 zc_i_4 ?_
  refine kx_newa (pc := 13) (N := 4) d_X7_init_13 (by decide) (by decide +kernel) (by decide +kernel) (by decide) (by decide) rfl hZ ⟨by decide, by decide⟩ (by decide) ?_
  have hZ := hZ.up
  refine kx_putR (pc := 15) (o := 77) (v := 79) d_X7_init_15 lk_CutStones_Stuff_15 (Or.inr ⟨rfl, rfl, rfl⟩) (by decide) ⟨by decide, by decide⟩ (by decide +kernel) (by decide) ?_
  have hZ := hZ.pR (o := 77) (j := 1) (v := 79) (by decide)
  refine zv_aload_n (pc := 18) d_X7_init_18 rfl ?_
  refine zv_sipush (pc := 19) d_X7_init_19 zc_s_200 ?_
  refine kx_putI (pc := 22) (o := 77) (v := 200) d_X7_init_22 lk_CutStones_Stuff_18 (Or.inl rfl) ⟨by decide, by decide⟩ (by decide +kernel) ?_
  have hZ := hZ.pI (o := 77) (j := 2) (v := 200) (by decide)
  exact zv_vret (pc := 25) d_X7_init_25 rfl rfl (Nat.le_refl _) hP
def kS_X7_init_80 (S : aS) : aS := (zw_pI (zw_pR (zw_pR S 80 0 81) 80 1 82) 80 2 200)
theorem kZ_X7_init_80 {S : aS} (hZ : zw_Z 80 S) : zw_Z 82 (kS_X7_init_80 S) := by
  unfold kS_X7_init_80
  have hZ := hZ.up
  have hZ := hZ.pR (o := 80) (j := 0) (v := 81) (by decide)
  have hZ := hZ.up
  have hZ := hZ.pR (o := 80) (j := 1) (v := 82) (by decide)
  have hZ := hZ.pI (o := 80) (j := 2) (v := 200) (by decide)
  exact hZ
theorem k_X7_init_80 {X : zw_X} {P : Option Value → aS → Prop} {S : aS} (hZ : zw_Z 80 S) (hP : P none (kS_X7_init_80 S)) : zw_C X M_X7_init 1 2 8 80 [.ref 80] S P := by
  show zw_V X M_X7_init 1 2 8 80 P 0 0 0 [.ref 80] [] S
  refine zv_aload_n (pc := 0) d_X7_init_0 rfl ?_
  refine zv_obj (pc := 1) d_X7_init_1 (zw_mG (List.mem_of_getElem? (i := 175) (by decide +kernel)) rfl) (by decide) (Nat.le_of_ble_eq_true rfl) ?_
  refine zv_aload_n (pc := 4) d_X7_init_4 rfl ?_
  refine zv_iconst (pc := 5) d_X7_init_5 zc_i_4 ?_
  refine kx_newa (pc := 6) (N := 4) d_X7_init_6 (by decide) (by decide +kernel) (by decide +kernel) (by decide) (by decide) rfl hZ ⟨by decide, by decide⟩ (by decide) ?_
  have hZ := hZ.up
  refine kx_putR (pc := 8) (o := 80) (v := 81) d_X7_init_8 lk_CutStones_Stuff_9 (Or.inr ⟨rfl, rfl, rfl⟩) (by decide) ⟨by decide, by decide⟩ (by decide +kernel) (by decide) ?_
  have hZ := hZ.pR (o := 80) (j := 0) (v := 81) (by decide)
  refine zv_aload_n (pc := 11) d_X7_init_11 rfl ?_
  refine zv_iconst (pc := 12) d_X7_init_12 zc_i_4 ?_
  refine kx_newa (pc := 13) (N := 4) d_X7_init_13 (by decide) (by decide +kernel) (by decide +kernel) (by decide) (by decide) rfl hZ ⟨by decide, by decide⟩ (by decide) ?_
  have hZ := hZ.up
  refine kx_putR (pc := 15) (o := 80) (v := 82) d_X7_init_15 lk_CutStones_Stuff_15 (Or.inr ⟨rfl, rfl, rfl⟩) (by decide) ⟨by decide, by decide⟩ (by decide +kernel) (by decide) ?_
  have hZ := hZ.pR (o := 80) (j := 1) (v := 82) (by decide)
  refine zv_aload_n (pc := 18) d_X7_init_18 rfl ?_
  refine zv_sipush (pc := 19) d_X7_init_19 zc_s_200 ?_
  refine kx_putI (pc := 22) (o := 80) (v := 200) d_X7_init_22 lk_CutStones_Stuff_18 (Or.inl rfl) ⟨by decide, by decide⟩ (by decide +kernel) ?_
  have hZ := hZ.pI (o := 80) (j := 2) (v := 200) (by decide)
  exact zv_vret (pc := 25) d_X7_init_25 rfl rfl (Nat.le_refl _) hP
def kS_X7_init_83 (S : aS) : aS := (zw_pI (zw_pR (zw_pR S 83 0 84) 83 1 85) 83 2 200)
theorem kZ_X7_init_83 {S : aS} (hZ : zw_Z 83 S) : zw_Z 85 (kS_X7_init_83 S) := by
  unfold kS_X7_init_83
  have hZ := hZ.up
  have hZ := hZ.pR (o := 83) (j := 0) (v := 84) (by decide)
  have hZ := hZ.up
  have hZ := hZ.pR (o := 83) (j := 1) (v := 85) (by decide)
  have hZ := hZ.pI (o := 83) (j := 2) (v := 200) (by decide)
  exact hZ
theorem k_X7_init_83 {X : zw_X} {P : Option Value → aS → Prop} {S : aS} (hZ : zw_Z 83 S) (hP : P none (kS_X7_init_83 S)) : zw_C X M_X7_init 1 2 8 83 [.ref 83] S P := by
  show zw_V X M_X7_init 1 2 8 83 P 0 0 0 [.ref 83] [] S
  refine zv_aload_n (pc := 0) d_X7_init_0 rfl ?_
  refine zv_obj (pc := 1) d_X7_init_1 (zw_mG (List.mem_of_getElem? (i := 175) (by decide +kernel)) rfl) (by decide) (Nat.le_of_ble_eq_true rfl) ?_
  refine zv_aload_n (pc := 4) d_X7_init_4 rfl ?_
  refine zv_iconst (pc := 5) d_X7_init_5 zc_i_4 ?_
  refine kx_newa (pc := 6) (N := 4) d_X7_init_6 (by decide) (by decide +kernel) (by decide +kernel) (by decide) (by decide) rfl hZ ⟨by decide, by decide⟩ (by decide) ?_
  have hZ := hZ.up
  refine kx_putR (pc := 8) (o := 83) (v := 84) d_X7_init_8 lk_CutStones_Stuff_9 (Or.inr ⟨rfl, rfl, rfl⟩) (by decide) ⟨by decide, by decide⟩ (by decide +kernel) (by decide) ?_
  have hZ := hZ.pR (o := 83) (j := 0) (v := 84) (by decide)
  refine zv_aload_n (pc := 11) d_X7_init_11 rfl ?_
  refine zv_iconst (pc := 12) d_X7_init_12 zc_i_4 ?_
  refine kx_newa (pc := 13) (N := 4) d_X7_init_13 (by decide) (by decide +kernel) (by decide +kernel) (by decide) (by decide) rfl hZ ⟨by decide, by decide⟩ (by decide) ?_
  have hZ := hZ.up
  refine kx_putR (pc := 15) (o := 83) (v := 85) d_X7_init_15 lk_CutStones_Stuff_15 (Or.inr ⟨rfl, rfl, rfl⟩) (by decide) ⟨by decide, by decide⟩ (by decide +kernel) (by decide) ?_
  have hZ := hZ.pR (o := 83) (j := 1) (v := 85) (by decide)
  refine zv_aload_n (pc := 18) d_X7_init_18 rfl ?_
  refine zv_sipush (pc := 19) d_X7_init_19 zc_s_200 ?_
  refine kx_putI (pc := 22) (o := 83) (v := 200) d_X7_init_22 lk_CutStones_Stuff_18 (Or.inl rfl) ⟨by decide, by decide⟩ (by decide +kernel) ?_
  have hZ := hZ.pI (o := 83) (j := 2) (v := 200) (by decide)
  exact zv_vret (pc := 25) d_X7_init_25 rfl rfl (Nat.le_refl _) hP
def kS_X0_init_86 (S : aS) : aS := (zw_pI (zw_pI (zw_pI (zw_pI (zw_pI (zw_pI (zw_pI (zw_pR S 86 0 87) 86 1 0) 86 2 0) 86 3 0) 86 4 0) 86 5 0) 86 6 0) 86 7 0)
theorem kZ_X0_init_86 {S : aS} (hZ : zw_Z 86 S) : zw_Z 87 (kS_X0_init_86 S) := by
  unfold kS_X0_init_86
  have hZ := hZ.up
  have hZ := hZ.pR (o := 86) (j := 0) (v := 87) (by decide)
  have hZ := hZ.pI (o := 86) (j := 1) (v := 0) (by decide)
  have hZ := hZ.pI (o := 86) (j := 2) (v := 0) (by decide)
  have hZ := hZ.pI (o := 86) (j := 3) (v := 0) (by decide)
  have hZ := hZ.pI (o := 86) (j := 4) (v := 0) (by decide)
  have hZ := hZ.pI (o := 86) (j := 5) (v := 0) (by decide)
  have hZ := hZ.pI (o := 86) (j := 6) (v := 0) (by decide)
  have hZ := hZ.pI (o := 86) (j := 7) (v := 0) (by decide)
  exact hZ
theorem k_X0_init_86 {X : zw_X} {P : Option Value → aS → Prop} {S : aS} (hZ : zw_Z 86 S) (hP : P none (kS_X0_init_86 S)) : zw_C X M_X0_init 1 1 144 86 [.ref 86] S P := by
  show zw_V X M_X0_init 1 1 144 86 P 0 0 0 [.ref 86] [] S
  refine zv_aload_n (pc := 0) d_X0_init_0 rfl ?_
  refine zv_obj (pc := 1) d_X0_init_1 (zw_mG (List.mem_of_getElem? (i := 195) (by decide +kernel)) rfl) (by decide) (Nat.le_of_ble_eq_true rfl) ?_
  refine zv_aload_n (pc := 4) d_X0_init_4 rfl ?_
  refine zv_sipush (pc := 5) d_X0_init_5 zc_s_144 ?_
  refine kx_newa (pc := 8) (N := 144) d_X0_init_8 (by decide) (by decide +kernel) (by decide +kernel) (by decide) (by decide) rfl hZ ⟨by decide, by decide⟩ (by decide) ?_
  have hZ := hZ.up
  refine kx_putR (pc := 10) (o := 86) (v := 87) d_X0_init_10 lk_CutStones_Drawing_9 (Or.inr ⟨rfl, rfl, rfl⟩) (by decide) ⟨by decide, by decide⟩ (by decide +kernel) (by decide) ?_
  have hZ := hZ.pR (o := 86) (j := 0) (v := 87) (by decide)
  refine zv_aload_n (pc := 13) d_X0_init_13 rfl ?_
  refine zv_iconst (pc := 14) d_X0_init_14 zc_i_0 ?_
  refine kx_putI (pc := 15) (o := 86) (v := 0) d_X0_init_15 lk_CutStones_Drawing_15 (Or.inl rfl) ⟨by decide, by decide⟩ (by decide +kernel) ?_
  have hZ := hZ.pI (o := 86) (j := 1) (v := 0) (by decide)
  refine zv_aload_n (pc := 18) d_X0_init_18 rfl ?_
  refine zv_iconst (pc := 19) d_X0_init_19 zc_i_0 ?_
  refine kx_putI (pc := 20) (o := 86) (v := 0) d_X0_init_20 lk_CutStones_Drawing_19 (Or.inl rfl) ⟨by decide, by decide⟩ (by decide +kernel) ?_
  have hZ := hZ.pI (o := 86) (j := 2) (v := 0) (by decide)
  refine zv_aload_n (pc := 23) d_X0_init_23 rfl ?_
  refine zv_iconst (pc := 24) d_X0_init_24 zc_i_0 ?_
  refine kx_putI (pc := 25) (o := 86) (v := 0) d_X0_init_25 lk_CutStones_Drawing_22 (Or.inl rfl) ⟨by decide, by decide⟩ (by decide +kernel) ?_
  have hZ := hZ.pI (o := 86) (j := 3) (v := 0) (by decide)
  refine zv_aload_n (pc := 28) d_X0_init_28 rfl ?_
  refine zv_iconst (pc := 29) d_X0_init_29 zc_i_0 ?_
  refine kx_putI (pc := 30) (o := 86) (v := 0) d_X0_init_30 lk_CutStones_Drawing_25 (Or.inl rfl) ⟨by decide, by decide⟩ (by decide +kernel) ?_
  have hZ := hZ.pI (o := 86) (j := 4) (v := 0) (by decide)
  refine zv_aload_n (pc := 33) d_X0_init_33 rfl ?_
  refine zv_iconst (pc := 34) d_X0_init_34 zc_i_0 ?_
  refine kx_putI (pc := 35) (o := 86) (v := 0) d_X0_init_35 lk_CutStones_Drawing_28 (Or.inl rfl) ⟨by decide, by decide⟩ (by decide +kernel) ?_
  have hZ := hZ.pI (o := 86) (j := 5) (v := 0) (by decide)
  refine zv_aload_n (pc := 38) d_X0_init_38 rfl ?_
  refine zv_iconst (pc := 39) d_X0_init_39 zc_i_0 ?_
  refine kx_putI (pc := 40) (o := 86) (v := 0) d_X0_init_40 lk_CutStones_Drawing_31 (Or.inl rfl) ⟨by decide, by decide⟩ (by decide +kernel) ?_
  have hZ := hZ.pI (o := 86) (j := 6) (v := 0) (by decide)
  refine zv_aload_n (pc := 43) d_X0_init_43 rfl ?_
  refine zv_iconst (pc := 44) d_X0_init_44 zc_i_0 ?_
  refine kx_putI (pc := 45) (o := 86) (v := 0) d_X0_init_45 lk_CutStones_Drawing_34 (Or.inl rfl) ⟨by decide, by decide⟩ (by decide +kernel) ?_
  have hZ := hZ.pI (o := 86) (j := 7) (v := 0) (by decide)
  exact zv_vret (pc := 48) d_X0_init_48 rfl rfl (Nat.le_refl _) hP
def kS_X0_init_88 (S : aS) : aS := (zw_pI (zw_pI (zw_pI (zw_pI (zw_pI (zw_pI (zw_pI (zw_pR S 88 0 89) 88 1 0) 88 2 0) 88 3 0) 88 4 0) 88 5 0) 88 6 0) 88 7 0)
theorem kZ_X0_init_88 {S : aS} (hZ : zw_Z 88 S) : zw_Z 89 (kS_X0_init_88 S) := by
  unfold kS_X0_init_88
  have hZ := hZ.up
  have hZ := hZ.pR (o := 88) (j := 0) (v := 89) (by decide)
  have hZ := hZ.pI (o := 88) (j := 1) (v := 0) (by decide)
  have hZ := hZ.pI (o := 88) (j := 2) (v := 0) (by decide)
  have hZ := hZ.pI (o := 88) (j := 3) (v := 0) (by decide)
  have hZ := hZ.pI (o := 88) (j := 4) (v := 0) (by decide)
  have hZ := hZ.pI (o := 88) (j := 5) (v := 0) (by decide)
  have hZ := hZ.pI (o := 88) (j := 6) (v := 0) (by decide)
  have hZ := hZ.pI (o := 88) (j := 7) (v := 0) (by decide)
  exact hZ
theorem k_X0_init_88 {X : zw_X} {P : Option Value → aS → Prop} {S : aS} (hZ : zw_Z 88 S) (hP : P none (kS_X0_init_88 S)) : zw_C X M_X0_init 1 1 144 88 [.ref 88] S P := by
  show zw_V X M_X0_init 1 1 144 88 P 0 0 0 [.ref 88] [] S
  refine zv_aload_n (pc := 0) d_X0_init_0 rfl ?_
  refine zv_obj (pc := 1) d_X0_init_1 (zw_mG (List.mem_of_getElem? (i := 195) (by decide +kernel)) rfl) (by decide) (Nat.le_of_ble_eq_true rfl) ?_
  refine zv_aload_n (pc := 4) d_X0_init_4 rfl ?_
  refine zv_sipush (pc := 5) d_X0_init_5 zc_s_144 ?_
  refine kx_newa (pc := 8) (N := 144) d_X0_init_8 (by decide) (by decide +kernel) (by decide +kernel) (by decide) (by decide) rfl hZ ⟨by decide, by decide⟩ (by decide) ?_
  have hZ := hZ.up
  refine kx_putR (pc := 10) (o := 88) (v := 89) d_X0_init_10 lk_CutStones_Drawing_9 (Or.inr ⟨rfl, rfl, rfl⟩) (by decide) ⟨by decide, by decide⟩ (by decide +kernel) (by decide) ?_
  have hZ := hZ.pR (o := 88) (j := 0) (v := 89) (by decide)
  refine zv_aload_n (pc := 13) d_X0_init_13 rfl ?_
  refine zv_iconst (pc := 14) d_X0_init_14 zc_i_0 ?_
  refine kx_putI (pc := 15) (o := 88) (v := 0) d_X0_init_15 lk_CutStones_Drawing_15 (Or.inl rfl) ⟨by decide, by decide⟩ (by decide +kernel) ?_
  have hZ := hZ.pI (o := 88) (j := 1) (v := 0) (by decide)
  refine zv_aload_n (pc := 18) d_X0_init_18 rfl ?_
  refine zv_iconst (pc := 19) d_X0_init_19 zc_i_0 ?_
  refine kx_putI (pc := 20) (o := 88) (v := 0) d_X0_init_20 lk_CutStones_Drawing_19 (Or.inl rfl) ⟨by decide, by decide⟩ (by decide +kernel) ?_
  have hZ := hZ.pI (o := 88) (j := 2) (v := 0) (by decide)
  refine zv_aload_n (pc := 23) d_X0_init_23 rfl ?_
  refine zv_iconst (pc := 24) d_X0_init_24 zc_i_0 ?_
  refine kx_putI (pc := 25) (o := 88) (v := 0) d_X0_init_25 lk_CutStones_Drawing_22 (Or.inl rfl) ⟨by decide, by decide⟩ (by decide +kernel) ?_
  have hZ := hZ.pI (o := 88) (j := 3) (v := 0) (by decide)
  refine zv_aload_n (pc := 28) d_X0_init_28 rfl ?_
  refine zv_iconst (pc := 29) d_X0_init_29 zc_i_0 ?_
  refine kx_putI (pc := 30) (o := 88) (v := 0) d_X0_init_30 lk_CutStones_Drawing_25 (Or.inl rfl) ⟨by decide, by decide⟩ (by decide +kernel) ?_
  have hZ := hZ.pI (o := 88) (j := 4) (v := 0) (by decide)
  refine zv_aload_n (pc := 33) d_X0_init_33 rfl ?_
  refine zv_iconst (pc := 34) d_X0_init_34 zc_i_0 ?_
  refine kx_putI (pc := 35) (o := 88) (v := 0) d_X0_init_35 lk_CutStones_Drawing_28 (Or.inl rfl) ⟨by decide, by decide⟩ (by decide +kernel) ?_
  have hZ := hZ.pI (o := 88) (j := 5) (v := 0) (by decide)
  refine zv_aload_n (pc := 38) d_X0_init_38 rfl ?_
  refine zv_iconst (pc := 39) d_X0_init_39 zc_i_0 ?_
  refine kx_putI (pc := 40) (o := 88) (v := 0) d_X0_init_40 lk_CutStones_Drawing_31 (Or.inl rfl) ⟨by decide, by decide⟩ (by decide +kernel) ?_
  have hZ := hZ.pI (o := 88) (j := 6) (v := 0) (by decide)
  refine zv_aload_n (pc := 43) d_X0_init_43 rfl ?_
  refine zv_iconst (pc := 44) d_X0_init_44 zc_i_0 ?_
  refine kx_putI (pc := 45) (o := 88) (v := 0) d_X0_init_45 lk_CutStones_Drawing_34 (Or.inl rfl) ⟨by decide, by decide⟩ (by decide +kernel) ?_
  have hZ := hZ.pI (o := 88) (j := 7) (v := 0) (by decide)
  exact zv_vret (pc := 48) d_X0_init_48 rfl rfl (Nat.le_refl _) hP
def kS_X0_init_90 (S : aS) : aS := (zw_pI (zw_pI (zw_pI (zw_pI (zw_pI (zw_pI (zw_pI (zw_pR S 90 0 91) 90 1 0) 90 2 0) 90 3 0) 90 4 0) 90 5 0) 90 6 0) 90 7 0)
theorem kZ_X0_init_90 {S : aS} (hZ : zw_Z 90 S) : zw_Z 91 (kS_X0_init_90 S) := by
  unfold kS_X0_init_90
  have hZ := hZ.up
  have hZ := hZ.pR (o := 90) (j := 0) (v := 91) (by decide)
  have hZ := hZ.pI (o := 90) (j := 1) (v := 0) (by decide)
  have hZ := hZ.pI (o := 90) (j := 2) (v := 0) (by decide)
  have hZ := hZ.pI (o := 90) (j := 3) (v := 0) (by decide)
  have hZ := hZ.pI (o := 90) (j := 4) (v := 0) (by decide)
  have hZ := hZ.pI (o := 90) (j := 5) (v := 0) (by decide)
  have hZ := hZ.pI (o := 90) (j := 6) (v := 0) (by decide)
  have hZ := hZ.pI (o := 90) (j := 7) (v := 0) (by decide)
  exact hZ
theorem k_X0_init_90 {X : zw_X} {P : Option Value → aS → Prop} {S : aS} (hZ : zw_Z 90 S) (hP : P none (kS_X0_init_90 S)) : zw_C X M_X0_init 1 1 144 90 [.ref 90] S P := by
  show zw_V X M_X0_init 1 1 144 90 P 0 0 0 [.ref 90] [] S
  refine zv_aload_n (pc := 0) d_X0_init_0 rfl ?_
  refine zv_obj (pc := 1) d_X0_init_1 (zw_mG (List.mem_of_getElem? (i := 195) (by decide +kernel)) rfl) (by decide) (Nat.le_of_ble_eq_true rfl) ?_
  refine zv_aload_n (pc := 4) d_X0_init_4 rfl ?_
  refine zv_sipush (pc := 5) d_X0_init_5 zc_s_144 ?_
  refine kx_newa (pc := 8) (N := 144) d_X0_init_8 (by decide) (by decide +kernel) (by decide +kernel) (by decide) (by decide) rfl hZ ⟨by decide, by decide⟩ (by decide) ?_
  have hZ := hZ.up
  refine kx_putR (pc := 10) (o := 90) (v := 91) d_X0_init_10 lk_CutStones_Drawing_9 (Or.inr ⟨rfl, rfl, rfl⟩) (by decide) ⟨by decide, by decide⟩ (by decide +kernel) (by decide) ?_
  have hZ := hZ.pR (o := 90) (j := 0) (v := 91) (by decide)
  refine zv_aload_n (pc := 13) d_X0_init_13 rfl ?_
  refine zv_iconst (pc := 14) d_X0_init_14 zc_i_0 ?_
  refine kx_putI (pc := 15) (o := 90) (v := 0) d_X0_init_15 lk_CutStones_Drawing_15 (Or.inl rfl) ⟨by decide, by decide⟩ (by decide +kernel) ?_
  have hZ := hZ.pI (o := 90) (j := 1) (v := 0) (by decide)
  refine zv_aload_n (pc := 18) d_X0_init_18 rfl ?_
  refine zv_iconst (pc := 19) d_X0_init_19 zc_i_0 ?_
  refine kx_putI (pc := 20) (o := 90) (v := 0) d_X0_init_20 lk_CutStones_Drawing_19 (Or.inl rfl) ⟨by decide, by decide⟩ (by decide +kernel) ?_
  have hZ := hZ.pI (o := 90) (j := 2) (v := 0) (by decide)
  refine zv_aload_n (pc := 23) d_X0_init_23 rfl ?_
  refine zv_iconst (pc := 24) d_X0_init_24 zc_i_0 ?_
  refine kx_putI (pc := 25) (o := 90) (v := 0) d_X0_init_25 lk_CutStones_Drawing_22 (Or.inl rfl) ⟨by decide, by decide⟩ (by decide +kernel) ?_
  have hZ := hZ.pI (o := 90) (j := 3) (v := 0) (by decide)
  refine zv_aload_n (pc := 28) d_X0_init_28 rfl ?_
  refine zv_iconst (pc := 29) d_X0_init_29 zc_i_0 ?_
  refine kx_putI (pc := 30) (o := 90) (v := 0) d_X0_init_30 lk_CutStones_Drawing_25 (Or.inl rfl) ⟨by decide, by decide⟩ (by decide +kernel) ?_
  have hZ := hZ.pI (o := 90) (j := 4) (v := 0) (by decide)
  refine zv_aload_n (pc := 33) d_X0_init_33 rfl ?_
  refine zv_iconst (pc := 34) d_X0_init_34 zc_i_0 ?_
  refine kx_putI (pc := 35) (o := 90) (v := 0) d_X0_init_35 lk_CutStones_Drawing_28 (Or.inl rfl) ⟨by decide, by decide⟩ (by decide +kernel) ?_
  have hZ := hZ.pI (o := 90) (j := 5) (v := 0) (by decide)
  refine zv_aload_n (pc := 38) d_X0_init_38 rfl ?_
  refine zv_iconst (pc := 39) d_X0_init_39 zc_i_0 ?_
  refine kx_putI (pc := 40) (o := 90) (v := 0) d_X0_init_40 lk_CutStones_Drawing_31 (Or.inl rfl) ⟨by decide, by decide⟩ (by decide +kernel) ?_
  have hZ := hZ.pI (o := 90) (j := 6) (v := 0) (by decide)
  refine zv_aload_n (pc := 43) d_X0_init_43 rfl ?_
  refine zv_iconst (pc := 44) d_X0_init_44 zc_i_0 ?_
  refine kx_putI (pc := 45) (o := 90) (v := 0) d_X0_init_45 lk_CutStones_Drawing_34 (Or.inl rfl) ⟨by decide, by decide⟩ (by decide +kernel) ?_
  have hZ := hZ.pI (o := 90) (j := 7) (v := 0) (by decide)
  exact zv_vret (pc := 48) d_X0_init_48 rfl rfl (Nat.le_refl _) hP
def kS_X0_init_92 (S : aS) : aS := (zw_pI (zw_pI (zw_pI (zw_pI (zw_pI (zw_pI (zw_pI (zw_pR S 92 0 93) 92 1 0) 92 2 0) 92 3 0) 92 4 0) 92 5 0) 92 6 0) 92 7 0)
theorem kZ_X0_init_92 {S : aS} (hZ : zw_Z 92 S) : zw_Z 93 (kS_X0_init_92 S) := by
  unfold kS_X0_init_92
  have hZ := hZ.up
  have hZ := hZ.pR (o := 92) (j := 0) (v := 93) (by decide)
  have hZ := hZ.pI (o := 92) (j := 1) (v := 0) (by decide)
  have hZ := hZ.pI (o := 92) (j := 2) (v := 0) (by decide)
  have hZ := hZ.pI (o := 92) (j := 3) (v := 0) (by decide)
  have hZ := hZ.pI (o := 92) (j := 4) (v := 0) (by decide)
  have hZ := hZ.pI (o := 92) (j := 5) (v := 0) (by decide)
  have hZ := hZ.pI (o := 92) (j := 6) (v := 0) (by decide)
  have hZ := hZ.pI (o := 92) (j := 7) (v := 0) (by decide)
  exact hZ
theorem k_X0_init_92 {X : zw_X} {P : Option Value → aS → Prop} {S : aS} (hZ : zw_Z 92 S) (hP : P none (kS_X0_init_92 S)) : zw_C X M_X0_init 1 1 144 92 [.ref 92] S P := by
  show zw_V X M_X0_init 1 1 144 92 P 0 0 0 [.ref 92] [] S
  refine zv_aload_n (pc := 0) d_X0_init_0 rfl ?_
  refine zv_obj (pc := 1) d_X0_init_1 (zw_mG (List.mem_of_getElem? (i := 195) (by decide +kernel)) rfl) (by decide) (Nat.le_of_ble_eq_true rfl) ?_
  refine zv_aload_n (pc := 4) d_X0_init_4 rfl ?_
  refine zv_sipush (pc := 5) d_X0_init_5 zc_s_144 ?_
  refine kx_newa (pc := 8) (N := 144) d_X0_init_8 (by decide) (by decide +kernel) (by decide +kernel) (by decide) (by decide) rfl hZ ⟨by decide, by decide⟩ (by decide) ?_
  have hZ := hZ.up
  refine kx_putR (pc := 10) (o := 92) (v := 93) d_X0_init_10 lk_CutStones_Drawing_9 (Or.inr ⟨rfl, rfl, rfl⟩) (by decide) ⟨by decide, by decide⟩ (by decide +kernel) (by decide) ?_
  have hZ := hZ.pR (o := 92) (j := 0) (v := 93) (by decide)
  refine zv_aload_n (pc := 13) d_X0_init_13 rfl ?_
  refine zv_iconst (pc := 14) d_X0_init_14 zc_i_0 ?_
  refine kx_putI (pc := 15) (o := 92) (v := 0) d_X0_init_15 lk_CutStones_Drawing_15 (Or.inl rfl) ⟨by decide, by decide⟩ (by decide +kernel) ?_
  have hZ := hZ.pI (o := 92) (j := 1) (v := 0) (by decide)
  refine zv_aload_n (pc := 18) d_X0_init_18 rfl ?_
  refine zv_iconst (pc := 19) d_X0_init_19 zc_i_0 ?_
  refine kx_putI (pc := 20) (o := 92) (v := 0) d_X0_init_20 lk_CutStones_Drawing_19 (Or.inl rfl) ⟨by decide, by decide⟩ (by decide +kernel) ?_
  have hZ := hZ.pI (o := 92) (j := 2) (v := 0) (by decide)
  refine zv_aload_n (pc := 23) d_X0_init_23 rfl ?_
  refine zv_iconst (pc := 24) d_X0_init_24 zc_i_0 ?_
  refine kx_putI (pc := 25) (o := 92) (v := 0) d_X0_init_25 lk_CutStones_Drawing_22 (Or.inl rfl) ⟨by decide, by decide⟩ (by decide +kernel) ?_
  have hZ := hZ.pI (o := 92) (j := 3) (v := 0) (by decide)
  refine zv_aload_n (pc := 28) d_X0_init_28 rfl ?_
  refine zv_iconst (pc := 29) d_X0_init_29 zc_i_0 ?_
  refine kx_putI (pc := 30) (o := 92) (v := 0) d_X0_init_30 lk_CutStones_Drawing_25 (Or.inl rfl) ⟨by decide, by decide⟩ (by decide +kernel) ?_
  have hZ := hZ.pI (o := 92) (j := 4) (v := 0) (by decide)
  refine zv_aload_n (pc := 33) d_X0_init_33 rfl ?_
  refine zv_iconst (pc := 34) d_X0_init_34 zc_i_0 ?_
  refine kx_putI (pc := 35) (o := 92) (v := 0) d_X0_init_35 lk_CutStones_Drawing_28 (Or.inl rfl) ⟨by decide, by decide⟩ (by decide +kernel) ?_
  have hZ := hZ.pI (o := 92) (j := 5) (v := 0) (by decide)
  refine zv_aload_n (pc := 38) d_X0_init_38 rfl ?_
  refine zv_iconst (pc := 39) d_X0_init_39 zc_i_0 ?_
  refine kx_putI (pc := 40) (o := 92) (v := 0) d_X0_init_40 lk_CutStones_Drawing_31 (Or.inl rfl) ⟨by decide, by decide⟩ (by decide +kernel) ?_
  have hZ := hZ.pI (o := 92) (j := 6) (v := 0) (by decide)
  refine zv_aload_n (pc := 43) d_X0_init_43 rfl ?_
  refine zv_iconst (pc := 44) d_X0_init_44 zc_i_0 ?_
  refine kx_putI (pc := 45) (o := 92) (v := 0) d_X0_init_45 lk_CutStones_Drawing_34 (Or.inl rfl) ⟨by decide, by decide⟩ (by decide +kernel) ?_
  have hZ := hZ.pI (o := 92) (j := 7) (v := 0) (by decide)
  exact zv_vret (pc := 48) d_X0_init_48 rfl rfl (Nat.le_refl _) hP
def kS_X0_init_94 (S : aS) : aS := (zw_pI (zw_pI (zw_pI (zw_pI (zw_pI (zw_pI (zw_pI (zw_pR S 94 0 95) 94 1 0) 94 2 0) 94 3 0) 94 4 0) 94 5 0) 94 6 0) 94 7 0)
theorem kZ_X0_init_94 {S : aS} (hZ : zw_Z 94 S) : zw_Z 95 (kS_X0_init_94 S) := by
  unfold kS_X0_init_94
  have hZ := hZ.up
  have hZ := hZ.pR (o := 94) (j := 0) (v := 95) (by decide)
  have hZ := hZ.pI (o := 94) (j := 1) (v := 0) (by decide)
  have hZ := hZ.pI (o := 94) (j := 2) (v := 0) (by decide)
  have hZ := hZ.pI (o := 94) (j := 3) (v := 0) (by decide)
  have hZ := hZ.pI (o := 94) (j := 4) (v := 0) (by decide)
  have hZ := hZ.pI (o := 94) (j := 5) (v := 0) (by decide)
  have hZ := hZ.pI (o := 94) (j := 6) (v := 0) (by decide)
  have hZ := hZ.pI (o := 94) (j := 7) (v := 0) (by decide)
  exact hZ
theorem k_X0_init_94 {X : zw_X} {P : Option Value → aS → Prop} {S : aS} (hZ : zw_Z 94 S) (hP : P none (kS_X0_init_94 S)) : zw_C X M_X0_init 1 1 144 94 [.ref 94] S P := by
  show zw_V X M_X0_init 1 1 144 94 P 0 0 0 [.ref 94] [] S
  refine zv_aload_n (pc := 0) d_X0_init_0 rfl ?_
  refine zv_obj (pc := 1) d_X0_init_1 (zw_mG (List.mem_of_getElem? (i := 195) (by decide +kernel)) rfl) (by decide) (Nat.le_of_ble_eq_true rfl) ?_
  refine zv_aload_n (pc := 4) d_X0_init_4 rfl ?_
  refine zv_sipush (pc := 5) d_X0_init_5 zc_s_144 ?_
  refine kx_newa (pc := 8) (N := 144) d_X0_init_8 (by decide) (by decide +kernel) (by decide +kernel) (by decide) (by decide) rfl hZ ⟨by decide, by decide⟩ (by decide) ?_
  have hZ := hZ.up
  refine kx_putR (pc := 10) (o := 94) (v := 95) d_X0_init_10 lk_CutStones_Drawing_9 (Or.inr ⟨rfl, rfl, rfl⟩) (by decide) ⟨by decide, by decide⟩ (by decide +kernel) (by decide) ?_
  have hZ := hZ.pR (o := 94) (j := 0) (v := 95) (by decide)
  refine zv_aload_n (pc := 13) d_X0_init_13 rfl ?_
  refine zv_iconst (pc := 14) d_X0_init_14 zc_i_0 ?_
  refine kx_putI (pc := 15) (o := 94) (v := 0) d_X0_init_15 lk_CutStones_Drawing_15 (Or.inl rfl) ⟨by decide, by decide⟩ (by decide +kernel) ?_
  have hZ := hZ.pI (o := 94) (j := 1) (v := 0) (by decide)
  refine zv_aload_n (pc := 18) d_X0_init_18 rfl ?_
  refine zv_iconst (pc := 19) d_X0_init_19 zc_i_0 ?_
  refine kx_putI (pc := 20) (o := 94) (v := 0) d_X0_init_20 lk_CutStones_Drawing_19 (Or.inl rfl) ⟨by decide, by decide⟩ (by decide +kernel) ?_
  have hZ := hZ.pI (o := 94) (j := 2) (v := 0) (by decide)
  refine zv_aload_n (pc := 23) d_X0_init_23 rfl ?_
  refine zv_iconst (pc := 24) d_X0_init_24 zc_i_0 ?_
  refine kx_putI (pc := 25) (o := 94) (v := 0) d_X0_init_25 lk_CutStones_Drawing_22 (Or.inl rfl) ⟨by decide, by decide⟩ (by decide +kernel) ?_
  have hZ := hZ.pI (o := 94) (j := 3) (v := 0) (by decide)
  refine zv_aload_n (pc := 28) d_X0_init_28 rfl ?_
  refine zv_iconst (pc := 29) d_X0_init_29 zc_i_0 ?_
  refine kx_putI (pc := 30) (o := 94) (v := 0) d_X0_init_30 lk_CutStones_Drawing_25 (Or.inl rfl) ⟨by decide, by decide⟩ (by decide +kernel) ?_
  have hZ := hZ.pI (o := 94) (j := 4) (v := 0) (by decide)
  refine zv_aload_n (pc := 33) d_X0_init_33 rfl ?_
  refine zv_iconst (pc := 34) d_X0_init_34 zc_i_0 ?_
  refine kx_putI (pc := 35) (o := 94) (v := 0) d_X0_init_35 lk_CutStones_Drawing_28 (Or.inl rfl) ⟨by decide, by decide⟩ (by decide +kernel) ?_
  have hZ := hZ.pI (o := 94) (j := 5) (v := 0) (by decide)
  refine zv_aload_n (pc := 38) d_X0_init_38 rfl ?_
  refine zv_iconst (pc := 39) d_X0_init_39 zc_i_0 ?_
  refine kx_putI (pc := 40) (o := 94) (v := 0) d_X0_init_40 lk_CutStones_Drawing_31 (Or.inl rfl) ⟨by decide, by decide⟩ (by decide +kernel) ?_
  have hZ := hZ.pI (o := 94) (j := 6) (v := 0) (by decide)
  refine zv_aload_n (pc := 43) d_X0_init_43 rfl ?_
  refine zv_iconst (pc := 44) d_X0_init_44 zc_i_0 ?_
  refine kx_putI (pc := 45) (o := 94) (v := 0) d_X0_init_45 lk_CutStones_Drawing_34 (Or.inl rfl) ⟨by decide, by decide⟩ (by decide +kernel) ?_
  have hZ := hZ.pI (o := 94) (j := 7) (v := 0) (by decide)
  exact zv_vret (pc := 48) d_X0_init_48 rfl rfl (Nat.le_refl _) hP
def kS_X0_init_96 (S : aS) : aS := (zw_pI (zw_pI (zw_pI (zw_pI (zw_pI (zw_pI (zw_pI (zw_pR S 96 0 97) 96 1 0) 96 2 0) 96 3 0) 96 4 0) 96 5 0) 96 6 0) 96 7 0)
theorem kZ_X0_init_96 {S : aS} (hZ : zw_Z 96 S) : zw_Z 97 (kS_X0_init_96 S) := by
  unfold kS_X0_init_96
  have hZ := hZ.up
  have hZ := hZ.pR (o := 96) (j := 0) (v := 97) (by decide)
  have hZ := hZ.pI (o := 96) (j := 1) (v := 0) (by decide)
  have hZ := hZ.pI (o := 96) (j := 2) (v := 0) (by decide)
  have hZ := hZ.pI (o := 96) (j := 3) (v := 0) (by decide)
  have hZ := hZ.pI (o := 96) (j := 4) (v := 0) (by decide)
  have hZ := hZ.pI (o := 96) (j := 5) (v := 0) (by decide)
  have hZ := hZ.pI (o := 96) (j := 6) (v := 0) (by decide)
  have hZ := hZ.pI (o := 96) (j := 7) (v := 0) (by decide)
  exact hZ
theorem k_X0_init_96 {X : zw_X} {P : Option Value → aS → Prop} {S : aS} (hZ : zw_Z 96 S) (hP : P none (kS_X0_init_96 S)) : zw_C X M_X0_init 1 1 144 96 [.ref 96] S P := by
  show zw_V X M_X0_init 1 1 144 96 P 0 0 0 [.ref 96] [] S
  refine zv_aload_n (pc := 0) d_X0_init_0 rfl ?_
  refine zv_obj (pc := 1) d_X0_init_1 (zw_mG (List.mem_of_getElem? (i := 195) (by decide +kernel)) rfl) (by decide) (Nat.le_of_ble_eq_true rfl) ?_
  refine zv_aload_n (pc := 4) d_X0_init_4 rfl ?_
  refine zv_sipush (pc := 5) d_X0_init_5 zc_s_144 ?_
  refine kx_newa (pc := 8) (N := 144) d_X0_init_8 (by decide) (by decide +kernel) (by decide +kernel) (by decide) (by decide) rfl hZ ⟨by decide, by decide⟩ (by decide) ?_
  have hZ := hZ.up
  refine kx_putR (pc := 10) (o := 96) (v := 97) d_X0_init_10 lk_CutStones_Drawing_9 (Or.inr ⟨rfl, rfl, rfl⟩) (by decide) ⟨by decide, by decide⟩ (by decide +kernel) (by decide) ?_
  have hZ := hZ.pR (o := 96) (j := 0) (v := 97) (by decide)
  refine zv_aload_n (pc := 13) d_X0_init_13 rfl ?_
  refine zv_iconst (pc := 14) d_X0_init_14 zc_i_0 ?_
  refine kx_putI (pc := 15) (o := 96) (v := 0) d_X0_init_15 lk_CutStones_Drawing_15 (Or.inl rfl) ⟨by decide, by decide⟩ (by decide +kernel) ?_
  have hZ := hZ.pI (o := 96) (j := 1) (v := 0) (by decide)
  refine zv_aload_n (pc := 18) d_X0_init_18 rfl ?_
  refine zv_iconst (pc := 19) d_X0_init_19 zc_i_0 ?_
  refine kx_putI (pc := 20) (o := 96) (v := 0) d_X0_init_20 lk_CutStones_Drawing_19 (Or.inl rfl) ⟨by decide, by decide⟩ (by decide +kernel) ?_
  have hZ := hZ.pI (o := 96) (j := 2) (v := 0) (by decide)
  refine zv_aload_n (pc := 23) d_X0_init_23 rfl ?_
  refine zv_iconst (pc := 24) d_X0_init_24 zc_i_0 ?_
  refine kx_putI (pc := 25) (o := 96) (v := 0) d_X0_init_25 lk_CutStones_Drawing_22 (Or.inl rfl) ⟨by decide, by decide⟩ (by decide +kernel) ?_
  have hZ := hZ.pI (o := 96) (j := 3) (v := 0) (by decide)
  refine zv_aload_n (pc := 28) d_X0_init_28 rfl ?_
  refine zv_iconst (pc := 29) d_X0_init_29 zc_i_0 ?_
  refine kx_putI (pc := 30) (o := 96) (v := 0) d_X0_init_30 lk_CutStones_Drawing_25 (Or.inl rfl) ⟨by decide, by decide⟩ (by decide +kernel) ?_
  have hZ := hZ.pI (o := 96) (j := 4) (v := 0) (by decide)
  refine zv_aload_n (pc := 33) d_X0_init_33 rfl ?_
  refine zv_iconst (pc := 34) d_X0_init_34 zc_i_0 ?_
  refine kx_putI (pc := 35) (o := 96) (v := 0) d_X0_init_35 lk_CutStones_Drawing_28 (Or.inl rfl) ⟨by decide, by decide⟩ (by decide +kernel) ?_
  have hZ := hZ.pI (o := 96) (j := 5) (v := 0) (by decide)
  refine zv_aload_n (pc := 38) d_X0_init_38 rfl ?_
  refine zv_iconst (pc := 39) d_X0_init_39 zc_i_0 ?_
  refine kx_putI (pc := 40) (o := 96) (v := 0) d_X0_init_40 lk_CutStones_Drawing_31 (Or.inl rfl) ⟨by decide, by decide⟩ (by decide +kernel) ?_
  have hZ := hZ.pI (o := 96) (j := 6) (v := 0) (by decide)
  refine zv_aload_n (pc := 43) d_X0_init_43 rfl ?_
  refine zv_iconst (pc := 44) d_X0_init_44 zc_i_0 ?_
  refine kx_putI (pc := 45) (o := 96) (v := 0) d_X0_init_45 lk_CutStones_Drawing_34 (Or.inl rfl) ⟨by decide, by decide⟩ (by decide +kernel) ?_
  have hZ := hZ.pI (o := 96) (j := 7) (v := 0) (by decide)
  exact zv_vret (pc := 48) d_X0_init_48 rfl rfl (Nat.le_refl _) hP
def kS_X0_init_98 (S : aS) : aS := (zw_pI (zw_pI (zw_pI (zw_pI (zw_pI (zw_pI (zw_pI (zw_pR S 98 0 99) 98 1 0) 98 2 0) 98 3 0) 98 4 0) 98 5 0) 98 6 0) 98 7 0)
theorem kZ_X0_init_98 {S : aS} (hZ : zw_Z 98 S) : zw_Z 99 (kS_X0_init_98 S) := by
  unfold kS_X0_init_98
  have hZ := hZ.up
  have hZ := hZ.pR (o := 98) (j := 0) (v := 99) (by decide)
  have hZ := hZ.pI (o := 98) (j := 1) (v := 0) (by decide)
  have hZ := hZ.pI (o := 98) (j := 2) (v := 0) (by decide)
  have hZ := hZ.pI (o := 98) (j := 3) (v := 0) (by decide)
  have hZ := hZ.pI (o := 98) (j := 4) (v := 0) (by decide)
  have hZ := hZ.pI (o := 98) (j := 5) (v := 0) (by decide)
  have hZ := hZ.pI (o := 98) (j := 6) (v := 0) (by decide)
  have hZ := hZ.pI (o := 98) (j := 7) (v := 0) (by decide)
  exact hZ
theorem k_X0_init_98 {X : zw_X} {P : Option Value → aS → Prop} {S : aS} (hZ : zw_Z 98 S) (hP : P none (kS_X0_init_98 S)) : zw_C X M_X0_init 1 1 144 98 [.ref 98] S P := by
  show zw_V X M_X0_init 1 1 144 98 P 0 0 0 [.ref 98] [] S
  refine zv_aload_n (pc := 0) d_X0_init_0 rfl ?_
  refine zv_obj (pc := 1) d_X0_init_1 (zw_mG (List.mem_of_getElem? (i := 195) (by decide +kernel)) rfl) (by decide) (Nat.le_of_ble_eq_true rfl) ?_
  refine zv_aload_n (pc := 4) d_X0_init_4 rfl ?_
  refine zv_sipush (pc := 5) d_X0_init_5 zc_s_144 ?_
  refine kx_newa (pc := 8) (N := 144) d_X0_init_8 (by decide) (by decide +kernel) (by decide +kernel) (by decide) (by decide) rfl hZ ⟨by decide, by decide⟩ (by decide) ?_
  have hZ := hZ.up
  refine kx_putR (pc := 10) (o := 98) (v := 99) d_X0_init_10 lk_CutStones_Drawing_9 (Or.inr ⟨rfl, rfl, rfl⟩) (by decide) ⟨by decide, by decide⟩ (by decide +kernel) (by decide) ?_
  have hZ := hZ.pR (o := 98) (j := 0) (v := 99) (by decide)
  refine zv_aload_n (pc := 13) d_X0_init_13 rfl ?_
  refine zv_iconst (pc := 14) d_X0_init_14 zc_i_0 ?_
  refine kx_putI (pc := 15) (o := 98) (v := 0) d_X0_init_15 lk_CutStones_Drawing_15 (Or.inl rfl) ⟨by decide, by decide⟩ (by decide +kernel) ?_
  have hZ := hZ.pI (o := 98) (j := 1) (v := 0) (by decide)
  refine zv_aload_n (pc := 18) d_X0_init_18 rfl ?_
  refine zv_iconst (pc := 19) d_X0_init_19 zc_i_0 ?_
  refine kx_putI (pc := 20) (o := 98) (v := 0) d_X0_init_20 lk_CutStones_Drawing_19 (Or.inl rfl) ⟨by decide, by decide⟩ (by decide +kernel) ?_
  have hZ := hZ.pI (o := 98) (j := 2) (v := 0) (by decide)
  refine zv_aload_n (pc := 23) d_X0_init_23 rfl ?_
  refine zv_iconst (pc := 24) d_X0_init_24 zc_i_0 ?_
  refine kx_putI (pc := 25) (o := 98) (v := 0) d_X0_init_25 lk_CutStones_Drawing_22 (Or.inl rfl) ⟨by decide, by decide⟩ (by decide +kernel) ?_
  have hZ := hZ.pI (o := 98) (j := 3) (v := 0) (by decide)
  refine zv_aload_n (pc := 28) d_X0_init_28 rfl ?_
  refine zv_iconst (pc := 29) d_X0_init_29 zc_i_0 ?_
  refine kx_putI (pc := 30) (o := 98) (v := 0) d_X0_init_30 lk_CutStones_Drawing_25 (Or.inl rfl) ⟨by decide, by decide⟩ (by decide +kernel) ?_
  have hZ := hZ.pI (o := 98) (j := 4) (v := 0) (by decide)
  refine zv_aload_n (pc := 33) d_X0_init_33 rfl ?_
  refine zv_iconst (pc := 34) d_X0_init_34 zc_i_0 ?_
  refine kx_putI (pc := 35) (o := 98) (v := 0) d_X0_init_35 lk_CutStones_Drawing_28 (Or.inl rfl) ⟨by decide, by decide⟩ (by decide +kernel) ?_
  have hZ := hZ.pI (o := 98) (j := 5) (v := 0) (by decide)
  refine zv_aload_n (pc := 38) d_X0_init_38 rfl ?_
  refine zv_iconst (pc := 39) d_X0_init_39 zc_i_0 ?_
  refine kx_putI (pc := 40) (o := 98) (v := 0) d_X0_init_40 lk_CutStones_Drawing_31 (Or.inl rfl) ⟨by decide, by decide⟩ (by decide +kernel) ?_
  have hZ := hZ.pI (o := 98) (j := 6) (v := 0) (by decide)
  refine zv_aload_n (pc := 43) d_X0_init_43 rfl ?_
  refine zv_iconst (pc := 44) d_X0_init_44 zc_i_0 ?_
  refine kx_putI (pc := 45) (o := 98) (v := 0) d_X0_init_45 lk_CutStones_Drawing_34 (Or.inl rfl) ⟨by decide, by decide⟩ (by decide +kernel) ?_
  have hZ := hZ.pI (o := 98) (j := 7) (v := 0) (by decide)
  exact zv_vret (pc := 48) d_X0_init_48 rfl rfl (Nat.le_refl _) hP
def kS_X0_init_100 (S : aS) : aS := (zw_pI (zw_pI (zw_pI (zw_pI (zw_pI (zw_pI (zw_pI (zw_pR S 100 0 101) 100 1 0) 100 2 0) 100 3 0) 100 4 0) 100 5 0) 100 6 0) 100 7 0)
theorem kZ_X0_init_100 {S : aS} (hZ : zw_Z 100 S) : zw_Z 101 (kS_X0_init_100 S) := by
  unfold kS_X0_init_100
  have hZ := hZ.up
  have hZ := hZ.pR (o := 100) (j := 0) (v := 101) (by decide)
  have hZ := hZ.pI (o := 100) (j := 1) (v := 0) (by decide)
  have hZ := hZ.pI (o := 100) (j := 2) (v := 0) (by decide)
  have hZ := hZ.pI (o := 100) (j := 3) (v := 0) (by decide)
  have hZ := hZ.pI (o := 100) (j := 4) (v := 0) (by decide)
  have hZ := hZ.pI (o := 100) (j := 5) (v := 0) (by decide)
  have hZ := hZ.pI (o := 100) (j := 6) (v := 0) (by decide)
  have hZ := hZ.pI (o := 100) (j := 7) (v := 0) (by decide)
  exact hZ
theorem k_X0_init_100 {X : zw_X} {P : Option Value → aS → Prop} {S : aS} (hZ : zw_Z 100 S) (hP : P none (kS_X0_init_100 S)) : zw_C X M_X0_init 1 1 144 100 [.ref 100] S P := by
  show zw_V X M_X0_init 1 1 144 100 P 0 0 0 [.ref 100] [] S
  refine zv_aload_n (pc := 0) d_X0_init_0 rfl ?_
  refine zv_obj (pc := 1) d_X0_init_1 (zw_mG (List.mem_of_getElem? (i := 195) (by decide +kernel)) rfl) (by decide) (Nat.le_of_ble_eq_true rfl) ?_
  refine zv_aload_n (pc := 4) d_X0_init_4 rfl ?_
  refine zv_sipush (pc := 5) d_X0_init_5 zc_s_144 ?_
  refine kx_newa (pc := 8) (N := 144) d_X0_init_8 (by decide) (by decide +kernel) (by decide +kernel) (by decide) (by decide) rfl hZ ⟨by decide, by decide⟩ (by decide) ?_
  have hZ := hZ.up
  refine kx_putR (pc := 10) (o := 100) (v := 101) d_X0_init_10 lk_CutStones_Drawing_9 (Or.inr ⟨rfl, rfl, rfl⟩) (by decide) ⟨by decide, by decide⟩ (by decide +kernel) (by decide) ?_
  have hZ := hZ.pR (o := 100) (j := 0) (v := 101) (by decide)
  refine zv_aload_n (pc := 13) d_X0_init_13 rfl ?_
  refine zv_iconst (pc := 14) d_X0_init_14 zc_i_0 ?_
  refine kx_putI (pc := 15) (o := 100) (v := 0) d_X0_init_15 lk_CutStones_Drawing_15 (Or.inl rfl) ⟨by decide, by decide⟩ (by decide +kernel) ?_
  have hZ := hZ.pI (o := 100) (j := 1) (v := 0) (by decide)
  refine zv_aload_n (pc := 18) d_X0_init_18 rfl ?_
  refine zv_iconst (pc := 19) d_X0_init_19 zc_i_0 ?_
  refine kx_putI (pc := 20) (o := 100) (v := 0) d_X0_init_20 lk_CutStones_Drawing_19 (Or.inl rfl) ⟨by decide, by decide⟩ (by decide +kernel) ?_
  have hZ := hZ.pI (o := 100) (j := 2) (v := 0) (by decide)
  refine zv_aload_n (pc := 23) d_X0_init_23 rfl ?_
  refine zv_iconst (pc := 24) d_X0_init_24 zc_i_0 ?_
  refine kx_putI (pc := 25) (o := 100) (v := 0) d_X0_init_25 lk_CutStones_Drawing_22 (Or.inl rfl) ⟨by decide, by decide⟩ (by decide +kernel) ?_
  have hZ := hZ.pI (o := 100) (j := 3) (v := 0) (by decide)
  refine zv_aload_n (pc := 28) d_X0_init_28 rfl ?_
  refine zv_iconst (pc := 29) d_X0_init_29 zc_i_0 ?_
  refine kx_putI (pc := 30) (o := 100) (v := 0) d_X0_init_30 lk_CutStones_Drawing_25 (Or.inl rfl) ⟨by decide, by decide⟩ (by decide +kernel) ?_
  have hZ := hZ.pI (o := 100) (j := 4) (v := 0) (by decide)
  refine zv_aload_n (pc := 33) d_X0_init_33 rfl ?_
  refine zv_iconst (pc := 34) d_X0_init_34 zc_i_0 ?_
  refine kx_putI (pc := 35) (o := 100) (v := 0) d_X0_init_35 lk_CutStones_Drawing_28 (Or.inl rfl) ⟨by decide, by decide⟩ (by decide +kernel) ?_
  have hZ := hZ.pI (o := 100) (j := 5) (v := 0) (by decide)
  refine zv_aload_n (pc := 38) d_X0_init_38 rfl ?_
  refine zv_iconst (pc := 39) d_X0_init_39 zc_i_0 ?_
  refine kx_putI (pc := 40) (o := 100) (v := 0) d_X0_init_40 lk_CutStones_Drawing_31 (Or.inl rfl) ⟨by decide, by decide⟩ (by decide +kernel) ?_
  have hZ := hZ.pI (o := 100) (j := 6) (v := 0) (by decide)
  refine zv_aload_n (pc := 43) d_X0_init_43 rfl ?_
  refine zv_iconst (pc := 44) d_X0_init_44 zc_i_0 ?_
  refine kx_putI (pc := 45) (o := 100) (v := 0) d_X0_init_45 lk_CutStones_Drawing_34 (Or.inl rfl) ⟨by decide, by decide⟩ (by decide +kernel) ?_
  have hZ := hZ.pI (o := 100) (j := 7) (v := 0) (by decide)
  exact zv_vret (pc := 48) d_X0_init_48 rfl rfl (Nat.le_refl _) hP
def kS_X0_init_102 (S : aS) : aS := (zw_pI (zw_pI (zw_pI (zw_pI (zw_pI (zw_pI (zw_pI (zw_pR S 102 0 103) 102 1 0) 102 2 0) 102 3 0) 102 4 0) 102 5 0) 102 6 0) 102 7 0)
theorem kZ_X0_init_102 {S : aS} (hZ : zw_Z 102 S) : zw_Z 103 (kS_X0_init_102 S) := by
  unfold kS_X0_init_102
  have hZ := hZ.up
  have hZ := hZ.pR (o := 102) (j := 0) (v := 103) (by decide)
  have hZ := hZ.pI (o := 102) (j := 1) (v := 0) (by decide)
  have hZ := hZ.pI (o := 102) (j := 2) (v := 0) (by decide)
  have hZ := hZ.pI (o := 102) (j := 3) (v := 0) (by decide)
  have hZ := hZ.pI (o := 102) (j := 4) (v := 0) (by decide)
  have hZ := hZ.pI (o := 102) (j := 5) (v := 0) (by decide)
  have hZ := hZ.pI (o := 102) (j := 6) (v := 0) (by decide)
  have hZ := hZ.pI (o := 102) (j := 7) (v := 0) (by decide)
  exact hZ
theorem k_X0_init_102 {X : zw_X} {P : Option Value → aS → Prop} {S : aS} (hZ : zw_Z 102 S) (hP : P none (kS_X0_init_102 S)) : zw_C X M_X0_init 1 1 144 102 [.ref 102] S P := by
  show zw_V X M_X0_init 1 1 144 102 P 0 0 0 [.ref 102] [] S
  refine zv_aload_n (pc := 0) d_X0_init_0 rfl ?_
  refine zv_obj (pc := 1) d_X0_init_1 (zw_mG (List.mem_of_getElem? (i := 195) (by decide +kernel)) rfl) (by decide) (Nat.le_of_ble_eq_true rfl) ?_
  refine zv_aload_n (pc := 4) d_X0_init_4 rfl ?_
  refine zv_sipush (pc := 5) d_X0_init_5 zc_s_144 ?_
  refine kx_newa (pc := 8) (N := 144) d_X0_init_8 (by decide) (by decide +kernel) (by decide +kernel) (by decide) (by decide) rfl hZ ⟨by decide, by decide⟩ (by decide) ?_
  have hZ := hZ.up
  refine kx_putR (pc := 10) (o := 102) (v := 103) d_X0_init_10 lk_CutStones_Drawing_9 (Or.inr ⟨rfl, rfl, rfl⟩) (by decide) ⟨by decide, by decide⟩ (by decide +kernel) (by decide) ?_
  have hZ := hZ.pR (o := 102) (j := 0) (v := 103) (by decide)
  refine zv_aload_n (pc := 13) d_X0_init_13 rfl ?_
  refine zv_iconst (pc := 14) d_X0_init_14 zc_i_0 ?_
  refine kx_putI (pc := 15) (o := 102) (v := 0) d_X0_init_15 lk_CutStones_Drawing_15 (Or.inl rfl) ⟨by decide, by decide⟩ (by decide +kernel) ?_
  have hZ := hZ.pI (o := 102) (j := 1) (v := 0) (by decide)
  refine zv_aload_n (pc := 18) d_X0_init_18 rfl ?_
  refine zv_iconst (pc := 19) d_X0_init_19 zc_i_0 ?_
  refine kx_putI (pc := 20) (o := 102) (v := 0) d_X0_init_20 lk_CutStones_Drawing_19 (Or.inl rfl) ⟨by decide, by decide⟩ (by decide +kernel) ?_
  have hZ := hZ.pI (o := 102) (j := 2) (v := 0) (by decide)
  refine zv_aload_n (pc := 23) d_X0_init_23 rfl ?_
  refine zv_iconst (pc := 24) d_X0_init_24 zc_i_0 ?_
  refine kx_putI (pc := 25) (o := 102) (v := 0) d_X0_init_25 lk_CutStones_Drawing_22 (Or.inl rfl) ⟨by decide, by decide⟩ (by decide +kernel) ?_
  have hZ := hZ.pI (o := 102) (j := 3) (v := 0) (by decide)
  refine zv_aload_n (pc := 28) d_X0_init_28 rfl ?_
  refine zv_iconst (pc := 29) d_X0_init_29 zc_i_0 ?_
  refine kx_putI (pc := 30) (o := 102) (v := 0) d_X0_init_30 lk_CutStones_Drawing_25 (Or.inl rfl) ⟨by decide, by decide⟩ (by decide +kernel) ?_
  have hZ := hZ.pI (o := 102) (j := 4) (v := 0) (by decide)
  refine zv_aload_n (pc := 33) d_X0_init_33 rfl ?_
  refine zv_iconst (pc := 34) d_X0_init_34 zc_i_0 ?_
  refine kx_putI (pc := 35) (o := 102) (v := 0) d_X0_init_35 lk_CutStones_Drawing_28 (Or.inl rfl) ⟨by decide, by decide⟩ (by decide +kernel) ?_
  have hZ := hZ.pI (o := 102) (j := 5) (v := 0) (by decide)
  refine zv_aload_n (pc := 38) d_X0_init_38 rfl ?_
  refine zv_iconst (pc := 39) d_X0_init_39 zc_i_0 ?_
  refine kx_putI (pc := 40) (o := 102) (v := 0) d_X0_init_40 lk_CutStones_Drawing_31 (Or.inl rfl) ⟨by decide, by decide⟩ (by decide +kernel) ?_
  have hZ := hZ.pI (o := 102) (j := 6) (v := 0) (by decide)
  refine zv_aload_n (pc := 43) d_X0_init_43 rfl ?_
  refine zv_iconst (pc := 44) d_X0_init_44 zc_i_0 ?_
  refine kx_putI (pc := 45) (o := 102) (v := 0) d_X0_init_45 lk_CutStones_Drawing_34 (Or.inl rfl) ⟨by decide, by decide⟩ (by decide +kernel) ?_
  have hZ := hZ.pI (o := 102) (j := 7) (v := 0) (by decide)
  exact zv_vret (pc := 48) d_X0_init_48 rfl rfl (Nat.le_refl _) hP
def kS_X0_init_104 (S : aS) : aS := (zw_pI (zw_pI (zw_pI (zw_pI (zw_pI (zw_pI (zw_pI (zw_pR S 104 0 105) 104 1 0) 104 2 0) 104 3 0) 104 4 0) 104 5 0) 104 6 0) 104 7 0)
theorem kZ_X0_init_104 {S : aS} (hZ : zw_Z 104 S) : zw_Z 105 (kS_X0_init_104 S) := by
  unfold kS_X0_init_104
  have hZ := hZ.up
  have hZ := hZ.pR (o := 104) (j := 0) (v := 105) (by decide)
  have hZ := hZ.pI (o := 104) (j := 1) (v := 0) (by decide)
  have hZ := hZ.pI (o := 104) (j := 2) (v := 0) (by decide)
  have hZ := hZ.pI (o := 104) (j := 3) (v := 0) (by decide)
  have hZ := hZ.pI (o := 104) (j := 4) (v := 0) (by decide)
  have hZ := hZ.pI (o := 104) (j := 5) (v := 0) (by decide)
  have hZ := hZ.pI (o := 104) (j := 6) (v := 0) (by decide)
  have hZ := hZ.pI (o := 104) (j := 7) (v := 0) (by decide)
  exact hZ
theorem k_X0_init_104 {X : zw_X} {P : Option Value → aS → Prop} {S : aS} (hZ : zw_Z 104 S) (hP : P none (kS_X0_init_104 S)) : zw_C X M_X0_init 1 1 144 104 [.ref 104] S P := by
  show zw_V X M_X0_init 1 1 144 104 P 0 0 0 [.ref 104] [] S
  refine zv_aload_n (pc := 0) d_X0_init_0 rfl ?_
  refine zv_obj (pc := 1) d_X0_init_1 (zw_mG (List.mem_of_getElem? (i := 195) (by decide +kernel)) rfl) (by decide) (Nat.le_of_ble_eq_true rfl) ?_
  refine zv_aload_n (pc := 4) d_X0_init_4 rfl ?_
  refine zv_sipush (pc := 5) d_X0_init_5 zc_s_144 ?_
  refine kx_newa (pc := 8) (N := 144) d_X0_init_8 (by decide) (by decide +kernel) (by decide +kernel) (by decide) (by decide) rfl hZ ⟨by decide, by decide⟩ (by decide) ?_
  have hZ := hZ.up
  refine kx_putR (pc := 10) (o := 104) (v := 105) d_X0_init_10 lk_CutStones_Drawing_9 (Or.inr ⟨rfl, rfl, rfl⟩) (by decide) ⟨by decide, by decide⟩ (by decide +kernel) (by decide) ?_
  have hZ := hZ.pR (o := 104) (j := 0) (v := 105) (by decide)
  refine zv_aload_n (pc := 13) d_X0_init_13 rfl ?_
  refine zv_iconst (pc := 14) d_X0_init_14 zc_i_0 ?_
  refine kx_putI (pc := 15) (o := 104) (v := 0) d_X0_init_15 lk_CutStones_Drawing_15 (Or.inl rfl) ⟨by decide, by decide⟩ (by decide +kernel) ?_
  have hZ := hZ.pI (o := 104) (j := 1) (v := 0) (by decide)
  refine zv_aload_n (pc := 18) d_X0_init_18 rfl ?_
  refine zv_iconst (pc := 19) d_X0_init_19 zc_i_0 ?_
  refine kx_putI (pc := 20) (o := 104) (v := 0) d_X0_init_20 lk_CutStones_Drawing_19 (Or.inl rfl) ⟨by decide, by decide⟩ (by decide +kernel) ?_
  have hZ := hZ.pI (o := 104) (j := 2) (v := 0) (by decide)
  refine zv_aload_n (pc := 23) d_X0_init_23 rfl ?_
  refine zv_iconst (pc := 24) d_X0_init_24 zc_i_0 ?_
  refine kx_putI (pc := 25) (o := 104) (v := 0) d_X0_init_25 lk_CutStones_Drawing_22 (Or.inl rfl) ⟨by decide, by decide⟩ (by decide +kernel) ?_
  have hZ := hZ.pI (o := 104) (j := 3) (v := 0) (by decide)
  refine zv_aload_n (pc := 28) d_X0_init_28 rfl ?_
  refine zv_iconst (pc := 29) d_X0_init_29 zc_i_0 ?_
  refine kx_putI (pc := 30) (o := 104) (v := 0) d_X0_init_30 lk_CutStones_Drawing_25 (Or.inl rfl) ⟨by decide, by decide⟩ (by decide +kernel) ?_
  have hZ := hZ.pI (o := 104) (j := 4) (v := 0) (by decide)
  refine zv_aload_n (pc := 33) d_X0_init_33 rfl ?_
  refine zv_iconst (pc := 34) d_X0_init_34 zc_i_0 ?_
  refine kx_putI (pc := 35) (o := 104) (v := 0) d_X0_init_35 lk_CutStones_Drawing_28 (Or.inl rfl) ⟨by decide, by decide⟩ (by decide +kernel) ?_
  have hZ := hZ.pI (o := 104) (j := 5) (v := 0) (by decide)
  refine zv_aload_n (pc := 38) d_X0_init_38 rfl ?_
  refine zv_iconst (pc := 39) d_X0_init_39 zc_i_0 ?_
  refine kx_putI (pc := 40) (o := 104) (v := 0) d_X0_init_40 lk_CutStones_Drawing_31 (Or.inl rfl) ⟨by decide, by decide⟩ (by decide +kernel) ?_
  have hZ := hZ.pI (o := 104) (j := 6) (v := 0) (by decide)
  refine zv_aload_n (pc := 43) d_X0_init_43 rfl ?_
  refine zv_iconst (pc := 44) d_X0_init_44 zc_i_0 ?_
  refine kx_putI (pc := 45) (o := 104) (v := 0) d_X0_init_45 lk_CutStones_Drawing_34 (Or.inl rfl) ⟨by decide, by decide⟩ (by decide +kernel) ?_
  have hZ := hZ.pI (o := 104) (j := 7) (v := 0) (by decide)
  exact zv_vret (pc := 48) d_X0_init_48 rfl rfl (Nat.le_refl _) hP
def kS_X5_init_106 (S : aS) : aS := (zw_pI (zw_pI (zw_pI S 106 0 0) 106 1 0) 106 2 0)
theorem kZ_X5_init_106 {S : aS} (hZ : zw_Z 106 S) : zw_Z 106 (kS_X5_init_106 S) := by
  unfold kS_X5_init_106
  have hZ := hZ.pI (o := 106) (j := 0) (v := 0) (by decide)
  have hZ := hZ.pI (o := 106) (j := 1) (v := 0) (by decide)
  have hZ := hZ.pI (o := 106) (j := 2) (v := 0) (by decide)
  exact hZ
theorem k_X5_init_106 {X : zw_X} {P : Option Value → aS → Prop} {S : aS} (hZ : zw_Z 106 S) (hP : P none (kS_X5_init_106 S)) : zw_C X M_X5_init 1 0 0 106 [.ref 106] S P := by
  show zw_V X M_X5_init 1 0 0 106 P 0 0 0 [.ref 106] [] S
  refine zv_aload_n (pc := 0) d_X5_init_0 rfl ?_
  refine zv_obj (pc := 1) d_X5_init_1 (zw_mG (List.mem_of_getElem? (i := 238) (by decide +kernel)) rfl) (by decide) (Nat.le_of_ble_eq_true rfl) ?_
  refine zv_aload_n (pc := 4) d_X5_init_4 rfl ?_
  refine zv_iconst (pc := 5) d_X5_init_5 zc_i_0 ?_
  refine kx_putI (pc := 6) (o := 106) (v := 0) d_X5_init_6 lk_CutStones_Rule_7 (Or.inl rfl) ⟨by decide, by decide⟩ (by decide +kernel) ?_
  have hZ := hZ.pI (o := 106) (j := 0) (v := 0) (by decide)
  refine zv_aload_n (pc := 9) d_X5_init_9 rfl ?_
  refine zv_iconst (pc := 10) d_X5_init_10 zc_i_0 ?_
  refine kx_putI (pc := 11) (o := 106) (v := 0) d_X5_init_11 lk_CutStones_Rule_13 (Or.inl rfl) ⟨by decide, by decide⟩ (by decide +kernel) ?_
  have hZ := hZ.pI (o := 106) (j := 1) (v := 0) (by decide)
  refine zv_aload_n (pc := 14) d_X5_init_14 rfl ?_
  refine zv_iconst (pc := 15) d_X5_init_15 zc_i_0 ?_
  refine kx_putI (pc := 16) (o := 106) (v := 0) d_X5_init_16 lk_CutStones_Rule_16 (Or.inl rfl) ⟨by decide, by decide⟩ (by decide +kernel) ?_
  have hZ := hZ.pI (o := 106) (j := 2) (v := 0) (by decide)
  exact zv_vret (pc := 19) d_X5_init_19 rfl rfl (Nat.le_refl _) hP
def kS_X5_init_107 (S : aS) : aS := (zw_pI (zw_pI (zw_pI S 107 0 0) 107 1 0) 107 2 0)
theorem kZ_X5_init_107 {S : aS} (hZ : zw_Z 107 S) : zw_Z 107 (kS_X5_init_107 S) := by
  unfold kS_X5_init_107
  have hZ := hZ.pI (o := 107) (j := 0) (v := 0) (by decide)
  have hZ := hZ.pI (o := 107) (j := 1) (v := 0) (by decide)
  have hZ := hZ.pI (o := 107) (j := 2) (v := 0) (by decide)
  exact hZ
theorem k_X5_init_107 {X : zw_X} {P : Option Value → aS → Prop} {S : aS} (hZ : zw_Z 107 S) (hP : P none (kS_X5_init_107 S)) : zw_C X M_X5_init 1 0 0 107 [.ref 107] S P := by
  show zw_V X M_X5_init 1 0 0 107 P 0 0 0 [.ref 107] [] S
  refine zv_aload_n (pc := 0) d_X5_init_0 rfl ?_
  refine zv_obj (pc := 1) d_X5_init_1 (zw_mG (List.mem_of_getElem? (i := 238) (by decide +kernel)) rfl) (by decide) (Nat.le_of_ble_eq_true rfl) ?_
  refine zv_aload_n (pc := 4) d_X5_init_4 rfl ?_
  refine zv_iconst (pc := 5) d_X5_init_5 zc_i_0 ?_
  refine kx_putI (pc := 6) (o := 107) (v := 0) d_X5_init_6 lk_CutStones_Rule_7 (Or.inl rfl) ⟨by decide, by decide⟩ (by decide +kernel) ?_
  have hZ := hZ.pI (o := 107) (j := 0) (v := 0) (by decide)
  refine zv_aload_n (pc := 9) d_X5_init_9 rfl ?_
  refine zv_iconst (pc := 10) d_X5_init_10 zc_i_0 ?_
  refine kx_putI (pc := 11) (o := 107) (v := 0) d_X5_init_11 lk_CutStones_Rule_13 (Or.inl rfl) ⟨by decide, by decide⟩ (by decide +kernel) ?_
  have hZ := hZ.pI (o := 107) (j := 1) (v := 0) (by decide)
  refine zv_aload_n (pc := 14) d_X5_init_14 rfl ?_
  refine zv_iconst (pc := 15) d_X5_init_15 zc_i_0 ?_
  refine kx_putI (pc := 16) (o := 107) (v := 0) d_X5_init_16 lk_CutStones_Rule_16 (Or.inl rfl) ⟨by decide, by decide⟩ (by decide +kernel) ?_
  have hZ := hZ.pI (o := 107) (j := 2) (v := 0) (by decide)
  exact zv_vret (pc := 19) d_X5_init_19 rfl rfl (Nat.le_refl _) hP
def kS_X5_init_108 (S : aS) : aS := (zw_pI (zw_pI (zw_pI S 108 0 0) 108 1 0) 108 2 0)
theorem kZ_X5_init_108 {S : aS} (hZ : zw_Z 108 S) : zw_Z 108 (kS_X5_init_108 S) := by
  unfold kS_X5_init_108
  have hZ := hZ.pI (o := 108) (j := 0) (v := 0) (by decide)
  have hZ := hZ.pI (o := 108) (j := 1) (v := 0) (by decide)
  have hZ := hZ.pI (o := 108) (j := 2) (v := 0) (by decide)
  exact hZ
theorem k_X5_init_108 {X : zw_X} {P : Option Value → aS → Prop} {S : aS} (hZ : zw_Z 108 S) (hP : P none (kS_X5_init_108 S)) : zw_C X M_X5_init 1 0 0 108 [.ref 108] S P := by
  show zw_V X M_X5_init 1 0 0 108 P 0 0 0 [.ref 108] [] S
  refine zv_aload_n (pc := 0) d_X5_init_0 rfl ?_
  refine zv_obj (pc := 1) d_X5_init_1 (zw_mG (List.mem_of_getElem? (i := 238) (by decide +kernel)) rfl) (by decide) (Nat.le_of_ble_eq_true rfl) ?_
  refine zv_aload_n (pc := 4) d_X5_init_4 rfl ?_
  refine zv_iconst (pc := 5) d_X5_init_5 zc_i_0 ?_
  refine kx_putI (pc := 6) (o := 108) (v := 0) d_X5_init_6 lk_CutStones_Rule_7 (Or.inl rfl) ⟨by decide, by decide⟩ (by decide +kernel) ?_
  have hZ := hZ.pI (o := 108) (j := 0) (v := 0) (by decide)
  refine zv_aload_n (pc := 9) d_X5_init_9 rfl ?_
  refine zv_iconst (pc := 10) d_X5_init_10 zc_i_0 ?_
  refine kx_putI (pc := 11) (o := 108) (v := 0) d_X5_init_11 lk_CutStones_Rule_13 (Or.inl rfl) ⟨by decide, by decide⟩ (by decide +kernel) ?_
  have hZ := hZ.pI (o := 108) (j := 1) (v := 0) (by decide)
  refine zv_aload_n (pc := 14) d_X5_init_14 rfl ?_
  refine zv_iconst (pc := 15) d_X5_init_15 zc_i_0 ?_
  refine kx_putI (pc := 16) (o := 108) (v := 0) d_X5_init_16 lk_CutStones_Rule_16 (Or.inl rfl) ⟨by decide, by decide⟩ (by decide +kernel) ?_
  have hZ := hZ.pI (o := 108) (j := 2) (v := 0) (by decide)
  exact zv_vret (pc := 19) d_X5_init_19 rfl rfl (Nat.le_refl _) hP
def kS_X5_init_109 (S : aS) : aS := (zw_pI (zw_pI (zw_pI S 109 0 0) 109 1 0) 109 2 0)
theorem kZ_X5_init_109 {S : aS} (hZ : zw_Z 109 S) : zw_Z 109 (kS_X5_init_109 S) := by
  unfold kS_X5_init_109
  have hZ := hZ.pI (o := 109) (j := 0) (v := 0) (by decide)
  have hZ := hZ.pI (o := 109) (j := 1) (v := 0) (by decide)
  have hZ := hZ.pI (o := 109) (j := 2) (v := 0) (by decide)
  exact hZ
theorem k_X5_init_109 {X : zw_X} {P : Option Value → aS → Prop} {S : aS} (hZ : zw_Z 109 S) (hP : P none (kS_X5_init_109 S)) : zw_C X M_X5_init 1 0 0 109 [.ref 109] S P := by
  show zw_V X M_X5_init 1 0 0 109 P 0 0 0 [.ref 109] [] S
  refine zv_aload_n (pc := 0) d_X5_init_0 rfl ?_
  refine zv_obj (pc := 1) d_X5_init_1 (zw_mG (List.mem_of_getElem? (i := 238) (by decide +kernel)) rfl) (by decide) (Nat.le_of_ble_eq_true rfl) ?_
  refine zv_aload_n (pc := 4) d_X5_init_4 rfl ?_
  refine zv_iconst (pc := 5) d_X5_init_5 zc_i_0 ?_
  refine kx_putI (pc := 6) (o := 109) (v := 0) d_X5_init_6 lk_CutStones_Rule_7 (Or.inl rfl) ⟨by decide, by decide⟩ (by decide +kernel) ?_
  have hZ := hZ.pI (o := 109) (j := 0) (v := 0) (by decide)
  refine zv_aload_n (pc := 9) d_X5_init_9 rfl ?_
  refine zv_iconst (pc := 10) d_X5_init_10 zc_i_0 ?_
  refine kx_putI (pc := 11) (o := 109) (v := 0) d_X5_init_11 lk_CutStones_Rule_13 (Or.inl rfl) ⟨by decide, by decide⟩ (by decide +kernel) ?_
  have hZ := hZ.pI (o := 109) (j := 1) (v := 0) (by decide)
  refine zv_aload_n (pc := 14) d_X5_init_14 rfl ?_
  refine zv_iconst (pc := 15) d_X5_init_15 zc_i_0 ?_
  refine kx_putI (pc := 16) (o := 109) (v := 0) d_X5_init_16 lk_CutStones_Rule_16 (Or.inl rfl) ⟨by decide, by decide⟩ (by decide +kernel) ?_
  have hZ := hZ.pI (o := 109) (j := 2) (v := 0) (by decide)
  exact zv_vret (pc := 19) d_X5_init_19 rfl rfl (Nat.le_refl _) hP
def kS_X5_init_110 (S : aS) : aS := (zw_pI (zw_pI (zw_pI S 110 0 0) 110 1 0) 110 2 0)
theorem kZ_X5_init_110 {S : aS} (hZ : zw_Z 110 S) : zw_Z 110 (kS_X5_init_110 S) := by
  unfold kS_X5_init_110
  have hZ := hZ.pI (o := 110) (j := 0) (v := 0) (by decide)
  have hZ := hZ.pI (o := 110) (j := 1) (v := 0) (by decide)
  have hZ := hZ.pI (o := 110) (j := 2) (v := 0) (by decide)
  exact hZ
theorem k_X5_init_110 {X : zw_X} {P : Option Value → aS → Prop} {S : aS} (hZ : zw_Z 110 S) (hP : P none (kS_X5_init_110 S)) : zw_C X M_X5_init 1 0 0 110 [.ref 110] S P := by
  show zw_V X M_X5_init 1 0 0 110 P 0 0 0 [.ref 110] [] S
  refine zv_aload_n (pc := 0) d_X5_init_0 rfl ?_
  refine zv_obj (pc := 1) d_X5_init_1 (zw_mG (List.mem_of_getElem? (i := 238) (by decide +kernel)) rfl) (by decide) (Nat.le_of_ble_eq_true rfl) ?_
  refine zv_aload_n (pc := 4) d_X5_init_4 rfl ?_
  refine zv_iconst (pc := 5) d_X5_init_5 zc_i_0 ?_
  refine kx_putI (pc := 6) (o := 110) (v := 0) d_X5_init_6 lk_CutStones_Rule_7 (Or.inl rfl) ⟨by decide, by decide⟩ (by decide +kernel) ?_
  have hZ := hZ.pI (o := 110) (j := 0) (v := 0) (by decide)
  refine zv_aload_n (pc := 9) d_X5_init_9 rfl ?_
  refine zv_iconst (pc := 10) d_X5_init_10 zc_i_0 ?_
  refine kx_putI (pc := 11) (o := 110) (v := 0) d_X5_init_11 lk_CutStones_Rule_13 (Or.inl rfl) ⟨by decide, by decide⟩ (by decide +kernel) ?_
  have hZ := hZ.pI (o := 110) (j := 1) (v := 0) (by decide)
  refine zv_aload_n (pc := 14) d_X5_init_14 rfl ?_
  refine zv_iconst (pc := 15) d_X5_init_15 zc_i_0 ?_
  refine kx_putI (pc := 16) (o := 110) (v := 0) d_X5_init_16 lk_CutStones_Rule_16 (Or.inl rfl) ⟨by decide, by decide⟩ (by decide +kernel) ?_
  have hZ := hZ.pI (o := 110) (j := 2) (v := 0) (by decide)
  exact zv_vret (pc := 19) d_X5_init_19 rfl rfl (Nat.le_refl _) hP
def kS_X5_init_111 (S : aS) : aS := (zw_pI (zw_pI (zw_pI S 111 0 0) 111 1 0) 111 2 0)
theorem kZ_X5_init_111 {S : aS} (hZ : zw_Z 111 S) : zw_Z 111 (kS_X5_init_111 S) := by
  unfold kS_X5_init_111
  have hZ := hZ.pI (o := 111) (j := 0) (v := 0) (by decide)
  have hZ := hZ.pI (o := 111) (j := 1) (v := 0) (by decide)
  have hZ := hZ.pI (o := 111) (j := 2) (v := 0) (by decide)
  exact hZ
theorem k_X5_init_111 {X : zw_X} {P : Option Value → aS → Prop} {S : aS} (hZ : zw_Z 111 S) (hP : P none (kS_X5_init_111 S)) : zw_C X M_X5_init 1 0 0 111 [.ref 111] S P := by
  show zw_V X M_X5_init 1 0 0 111 P 0 0 0 [.ref 111] [] S
  refine zv_aload_n (pc := 0) d_X5_init_0 rfl ?_
  refine zv_obj (pc := 1) d_X5_init_1 (zw_mG (List.mem_of_getElem? (i := 238) (by decide +kernel)) rfl) (by decide) (Nat.le_of_ble_eq_true rfl) ?_
  refine zv_aload_n (pc := 4) d_X5_init_4 rfl ?_
  refine zv_iconst (pc := 5) d_X5_init_5 zc_i_0 ?_
  refine kx_putI (pc := 6) (o := 111) (v := 0) d_X5_init_6 lk_CutStones_Rule_7 (Or.inl rfl) ⟨by decide, by decide⟩ (by decide +kernel) ?_
  have hZ := hZ.pI (o := 111) (j := 0) (v := 0) (by decide)
  refine zv_aload_n (pc := 9) d_X5_init_9 rfl ?_
  refine zv_iconst (pc := 10) d_X5_init_10 zc_i_0 ?_
  refine kx_putI (pc := 11) (o := 111) (v := 0) d_X5_init_11 lk_CutStones_Rule_13 (Or.inl rfl) ⟨by decide, by decide⟩ (by decide +kernel) ?_
  have hZ := hZ.pI (o := 111) (j := 1) (v := 0) (by decide)
  refine zv_aload_n (pc := 14) d_X5_init_14 rfl ?_
  refine zv_iconst (pc := 15) d_X5_init_15 zc_i_0 ?_
  refine kx_putI (pc := 16) (o := 111) (v := 0) d_X5_init_16 lk_CutStones_Rule_16 (Or.inl rfl) ⟨by decide, by decide⟩ (by decide +kernel) ?_
  have hZ := hZ.pI (o := 111) (j := 2) (v := 0) (by decide)
  exact zv_vret (pc := 19) d_X5_init_19 rfl rfl (Nat.le_refl _) hP
def kS_X5_init_112 (S : aS) : aS := (zw_pI (zw_pI (zw_pI S 112 0 0) 112 1 0) 112 2 0)
theorem kZ_X5_init_112 {S : aS} (hZ : zw_Z 112 S) : zw_Z 112 (kS_X5_init_112 S) := by
  unfold kS_X5_init_112
  have hZ := hZ.pI (o := 112) (j := 0) (v := 0) (by decide)
  have hZ := hZ.pI (o := 112) (j := 1) (v := 0) (by decide)
  have hZ := hZ.pI (o := 112) (j := 2) (v := 0) (by decide)
  exact hZ
theorem k_X5_init_112 {X : zw_X} {P : Option Value → aS → Prop} {S : aS} (hZ : zw_Z 112 S) (hP : P none (kS_X5_init_112 S)) : zw_C X M_X5_init 1 0 0 112 [.ref 112] S P := by
  show zw_V X M_X5_init 1 0 0 112 P 0 0 0 [.ref 112] [] S
  refine zv_aload_n (pc := 0) d_X5_init_0 rfl ?_
  refine zv_obj (pc := 1) d_X5_init_1 (zw_mG (List.mem_of_getElem? (i := 238) (by decide +kernel)) rfl) (by decide) (Nat.le_of_ble_eq_true rfl) ?_
  refine zv_aload_n (pc := 4) d_X5_init_4 rfl ?_
  refine zv_iconst (pc := 5) d_X5_init_5 zc_i_0 ?_
  refine kx_putI (pc := 6) (o := 112) (v := 0) d_X5_init_6 lk_CutStones_Rule_7 (Or.inl rfl) ⟨by decide, by decide⟩ (by decide +kernel) ?_
  have hZ := hZ.pI (o := 112) (j := 0) (v := 0) (by decide)
  refine zv_aload_n (pc := 9) d_X5_init_9 rfl ?_
  refine zv_iconst (pc := 10) d_X5_init_10 zc_i_0 ?_
  refine kx_putI (pc := 11) (o := 112) (v := 0) d_X5_init_11 lk_CutStones_Rule_13 (Or.inl rfl) ⟨by decide, by decide⟩ (by decide +kernel) ?_
  have hZ := hZ.pI (o := 112) (j := 1) (v := 0) (by decide)
  refine zv_aload_n (pc := 14) d_X5_init_14 rfl ?_
  refine zv_iconst (pc := 15) d_X5_init_15 zc_i_0 ?_
  refine kx_putI (pc := 16) (o := 112) (v := 0) d_X5_init_16 lk_CutStones_Rule_16 (Or.inl rfl) ⟨by decide, by decide⟩ (by decide +kernel) ?_
  have hZ := hZ.pI (o := 112) (j := 2) (v := 0) (by decide)
  exact zv_vret (pc := 19) d_X5_init_19 rfl rfl (Nat.le_refl _) hP
def kS_X5_init_113 (S : aS) : aS := (zw_pI (zw_pI (zw_pI S 113 0 0) 113 1 0) 113 2 0)
theorem kZ_X5_init_113 {S : aS} (hZ : zw_Z 113 S) : zw_Z 113 (kS_X5_init_113 S) := by
  unfold kS_X5_init_113
  have hZ := hZ.pI (o := 113) (j := 0) (v := 0) (by decide)
  have hZ := hZ.pI (o := 113) (j := 1) (v := 0) (by decide)
  have hZ := hZ.pI (o := 113) (j := 2) (v := 0) (by decide)
  exact hZ
theorem k_X5_init_113 {X : zw_X} {P : Option Value → aS → Prop} {S : aS} (hZ : zw_Z 113 S) (hP : P none (kS_X5_init_113 S)) : zw_C X M_X5_init 1 0 0 113 [.ref 113] S P := by
  show zw_V X M_X5_init 1 0 0 113 P 0 0 0 [.ref 113] [] S
  refine zv_aload_n (pc := 0) d_X5_init_0 rfl ?_
  refine zv_obj (pc := 1) d_X5_init_1 (zw_mG (List.mem_of_getElem? (i := 238) (by decide +kernel)) rfl) (by decide) (Nat.le_of_ble_eq_true rfl) ?_
  refine zv_aload_n (pc := 4) d_X5_init_4 rfl ?_
  refine zv_iconst (pc := 5) d_X5_init_5 zc_i_0 ?_
  refine kx_putI (pc := 6) (o := 113) (v := 0) d_X5_init_6 lk_CutStones_Rule_7 (Or.inl rfl) ⟨by decide, by decide⟩ (by decide +kernel) ?_
  have hZ := hZ.pI (o := 113) (j := 0) (v := 0) (by decide)
  refine zv_aload_n (pc := 9) d_X5_init_9 rfl ?_
  refine zv_iconst (pc := 10) d_X5_init_10 zc_i_0 ?_
  refine kx_putI (pc := 11) (o := 113) (v := 0) d_X5_init_11 lk_CutStones_Rule_13 (Or.inl rfl) ⟨by decide, by decide⟩ (by decide +kernel) ?_
  have hZ := hZ.pI (o := 113) (j := 1) (v := 0) (by decide)
  refine zv_aload_n (pc := 14) d_X5_init_14 rfl ?_
  refine zv_iconst (pc := 15) d_X5_init_15 zc_i_0 ?_
  refine kx_putI (pc := 16) (o := 113) (v := 0) d_X5_init_16 lk_CutStones_Rule_16 (Or.inl rfl) ⟨by decide, by decide⟩ (by decide +kernel) ?_
  have hZ := hZ.pI (o := 113) (j := 2) (v := 0) (by decide)
  exact zv_vret (pc := 19) d_X5_init_19 rfl rfl (Nat.le_refl _) hP
def kS_X5_init_114 (S : aS) : aS := (zw_pI (zw_pI (zw_pI S 114 0 0) 114 1 0) 114 2 0)
theorem kZ_X5_init_114 {S : aS} (hZ : zw_Z 114 S) : zw_Z 114 (kS_X5_init_114 S) := by
  unfold kS_X5_init_114
  have hZ := hZ.pI (o := 114) (j := 0) (v := 0) (by decide)
  have hZ := hZ.pI (o := 114) (j := 1) (v := 0) (by decide)
  have hZ := hZ.pI (o := 114) (j := 2) (v := 0) (by decide)
  exact hZ
theorem k_X5_init_114 {X : zw_X} {P : Option Value → aS → Prop} {S : aS} (hZ : zw_Z 114 S) (hP : P none (kS_X5_init_114 S)) : zw_C X M_X5_init 1 0 0 114 [.ref 114] S P := by
  show zw_V X M_X5_init 1 0 0 114 P 0 0 0 [.ref 114] [] S
  refine zv_aload_n (pc := 0) d_X5_init_0 rfl ?_
  refine zv_obj (pc := 1) d_X5_init_1 (zw_mG (List.mem_of_getElem? (i := 238) (by decide +kernel)) rfl) (by decide) (Nat.le_of_ble_eq_true rfl) ?_
  refine zv_aload_n (pc := 4) d_X5_init_4 rfl ?_
  refine zv_iconst (pc := 5) d_X5_init_5 zc_i_0 ?_
  refine kx_putI (pc := 6) (o := 114) (v := 0) d_X5_init_6 lk_CutStones_Rule_7 (Or.inl rfl) ⟨by decide, by decide⟩ (by decide +kernel) ?_
  have hZ := hZ.pI (o := 114) (j := 0) (v := 0) (by decide)
  refine zv_aload_n (pc := 9) d_X5_init_9 rfl ?_
  refine zv_iconst (pc := 10) d_X5_init_10 zc_i_0 ?_
  refine kx_putI (pc := 11) (o := 114) (v := 0) d_X5_init_11 lk_CutStones_Rule_13 (Or.inl rfl) ⟨by decide, by decide⟩ (by decide +kernel) ?_
  have hZ := hZ.pI (o := 114) (j := 1) (v := 0) (by decide)
  refine zv_aload_n (pc := 14) d_X5_init_14 rfl ?_
  refine zv_iconst (pc := 15) d_X5_init_15 zc_i_0 ?_
  refine kx_putI (pc := 16) (o := 114) (v := 0) d_X5_init_16 lk_CutStones_Rule_16 (Or.inl rfl) ⟨by decide, by decide⟩ (by decide +kernel) ?_
  have hZ := hZ.pI (o := 114) (j := 2) (v := 0) (by decide)
  exact zv_vret (pc := 19) d_X5_init_19 rfl rfl (Nat.le_refl _) hP
