def kS_X5_init_115 (S : aS) : aS := (zw_pI (zw_pI (zw_pI S 115 0 0) 115 1 0) 115 2 0)
theorem kZ_X5_init_115 {S : aS} (hZ : zw_Z 115 S) : zw_Z 115 (kS_X5_init_115 S) := by
  unfold kS_X5_init_115
  have hZ := hZ.pI (o := 115) (j := 0) (v := 0) (by decide)
  have hZ := hZ.pI (o := 115) (j := 1) (v := 0) (by decide)
  have hZ := hZ.pI (o := 115) (j := 2) (v := 0) (by decide)
  exact hZ
theorem k_X5_init_115 {X : zw_X} {P : Option Value → aS → Prop} {S : aS} (hZ : zw_Z 115 S) (hP : P none (kS_X5_init_115 S)) : zw_C X M_X5_init 1 0 0 115 [.ref 115] S P := by
  show zw_V X M_X5_init 1 0 0 115 P 0 0 0 [.ref 115] [] S
  refine zv_aload_n (pc := 0) d_X5_init_0 rfl ?_
  refine zv_obj (pc := 1) d_X5_init_1 (zw_mG (List.mem_of_getElem? (i := 238) (by decide +kernel)) rfl) (by decide) (Nat.le_of_ble_eq_true rfl) ?_
  refine zv_aload_n (pc := 4) d_X5_init_4 rfl ?_
  refine zv_iconst (pc := 5) d_X5_init_5 zc_i_0 ?_
  refine kx_putI (pc := 6) (o := 115) (v := 0) d_X5_init_6 lk_CutStones_Rule_7 (Or.inl rfl) ⟨by decide, by decide⟩ (by decide +kernel) ?_
  have hZ := hZ.pI (o := 115) (j := 0) (v := 0) (by decide)
  refine zv_aload_n (pc := 9) d_X5_init_9 rfl ?_
  refine zv_iconst (pc := 10) d_X5_init_10 zc_i_0 ?_
  refine kx_putI (pc := 11) (o := 115) (v := 0) d_X5_init_11 lk_CutStones_Rule_13 (Or.inl rfl) ⟨by decide, by decide⟩ (by decide +kernel) ?_
  have hZ := hZ.pI (o := 115) (j := 1) (v := 0) (by decide)
  refine zv_aload_n (pc := 14) d_X5_init_14 rfl ?_
  refine zv_iconst (pc := 15) d_X5_init_15 zc_i_0 ?_
  refine kx_putI (pc := 16) (o := 115) (v := 0) d_X5_init_16 lk_CutStones_Rule_16 (Or.inl rfl) ⟨by decide, by decide⟩ (by decide +kernel) ?_
  have hZ := hZ.pI (o := 115) (j := 2) (v := 0) (by decide)
  exact zv_vret (pc := 19) d_X5_init_19 rfl rfl (Nat.le_refl _) hP
def kS_X5_init_116 (S : aS) : aS := (zw_pI (zw_pI (zw_pI S 116 0 0) 116 1 0) 116 2 0)
theorem kZ_X5_init_116 {S : aS} (hZ : zw_Z 116 S) : zw_Z 116 (kS_X5_init_116 S) := by
  unfold kS_X5_init_116
  have hZ := hZ.pI (o := 116) (j := 0) (v := 0) (by decide)
  have hZ := hZ.pI (o := 116) (j := 1) (v := 0) (by decide)
  have hZ := hZ.pI (o := 116) (j := 2) (v := 0) (by decide)
  exact hZ
theorem k_X5_init_116 {X : zw_X} {P : Option Value → aS → Prop} {S : aS} (hZ : zw_Z 116 S) (hP : P none (kS_X5_init_116 S)) : zw_C X M_X5_init 1 0 0 116 [.ref 116] S P := by
  show zw_V X M_X5_init 1 0 0 116 P 0 0 0 [.ref 116] [] S
  refine zv_aload_n (pc := 0) d_X5_init_0 rfl ?_
  refine zv_obj (pc := 1) d_X5_init_1 (zw_mG (List.mem_of_getElem? (i := 238) (by decide +kernel)) rfl) (by decide) (Nat.le_of_ble_eq_true rfl) ?_
  refine zv_aload_n (pc := 4) d_X5_init_4 rfl ?_
  refine zv_iconst (pc := 5) d_X5_init_5 zc_i_0 ?_
  refine kx_putI (pc := 6) (o := 116) (v := 0) d_X5_init_6 lk_CutStones_Rule_7 (Or.inl rfl) ⟨by decide, by decide⟩ (by decide +kernel) ?_
  have hZ := hZ.pI (o := 116) (j := 0) (v := 0) (by decide)
  refine zv_aload_n (pc := 9) d_X5_init_9 rfl ?_
  refine zv_iconst (pc := 10) d_X5_init_10 zc_i_0 ?_
  refine kx_putI (pc := 11) (o := 116) (v := 0) d_X5_init_11 lk_CutStones_Rule_13 (Or.inl rfl) ⟨by decide, by decide⟩ (by decide +kernel) ?_
  have hZ := hZ.pI (o := 116) (j := 1) (v := 0) (by decide)
  refine zv_aload_n (pc := 14) d_X5_init_14 rfl ?_
  refine zv_iconst (pc := 15) d_X5_init_15 zc_i_0 ?_
  refine kx_putI (pc := 16) (o := 116) (v := 0) d_X5_init_16 lk_CutStones_Rule_16 (Or.inl rfl) ⟨by decide, by decide⟩ (by decide +kernel) ?_
  have hZ := hZ.pI (o := 116) (j := 2) (v := 0) (by decide)
  exact zv_vret (pc := 19) d_X5_init_19 rfl rfl (Nat.le_refl _) hP
def kS_X5_init_117 (S : aS) : aS := (zw_pI (zw_pI (zw_pI S 117 0 0) 117 1 0) 117 2 0)
theorem kZ_X5_init_117 {S : aS} (hZ : zw_Z 117 S) : zw_Z 117 (kS_X5_init_117 S) := by
  unfold kS_X5_init_117
  have hZ := hZ.pI (o := 117) (j := 0) (v := 0) (by decide)
  have hZ := hZ.pI (o := 117) (j := 1) (v := 0) (by decide)
  have hZ := hZ.pI (o := 117) (j := 2) (v := 0) (by decide)
  exact hZ
theorem k_X5_init_117 {X : zw_X} {P : Option Value → aS → Prop} {S : aS} (hZ : zw_Z 117 S) (hP : P none (kS_X5_init_117 S)) : zw_C X M_X5_init 1 0 0 117 [.ref 117] S P := by
  show zw_V X M_X5_init 1 0 0 117 P 0 0 0 [.ref 117] [] S
  refine zv_aload_n (pc := 0) d_X5_init_0 rfl ?_
  refine zv_obj (pc := 1) d_X5_init_1 (zw_mG (List.mem_of_getElem? (i := 238) (by decide +kernel)) rfl) (by decide) (Nat.le_of_ble_eq_true rfl) ?_
  refine zv_aload_n (pc := 4) d_X5_init_4 rfl ?_
  refine zv_iconst (pc := 5) d_X5_init_5 zc_i_0 ?_
  refine kx_putI (pc := 6) (o := 117) (v := 0) d_X5_init_6 lk_CutStones_Rule_7 (Or.inl rfl) ⟨by decide, by decide⟩ (by decide +kernel) ?_
  have hZ := hZ.pI (o := 117) (j := 0) (v := 0) (by decide)
  refine zv_aload_n (pc := 9) d_X5_init_9 rfl ?_
  refine zv_iconst (pc := 10) d_X5_init_10 zc_i_0 ?_
  refine kx_putI (pc := 11) (o := 117) (v := 0) d_X5_init_11 lk_CutStones_Rule_13 (Or.inl rfl) ⟨by decide, by decide⟩ (by decide +kernel) ?_
  have hZ := hZ.pI (o := 117) (j := 1) (v := 0) (by decide)
  refine zv_aload_n (pc := 14) d_X5_init_14 rfl ?_
  refine zv_iconst (pc := 15) d_X5_init_15 zc_i_0 ?_
  refine kx_putI (pc := 16) (o := 117) (v := 0) d_X5_init_16 lk_CutStones_Rule_16 (Or.inl rfl) ⟨by decide, by decide⟩ (by decide +kernel) ?_
  have hZ := hZ.pI (o := 117) (j := 2) (v := 0) (by decide)
  exact zv_vret (pc := 19) d_X5_init_19 rfl rfl (Nat.le_refl _) hP
def kS_X5_init_118 (S : aS) : aS := (zw_pI (zw_pI (zw_pI S 118 0 0) 118 1 0) 118 2 0)
theorem kZ_X5_init_118 {S : aS} (hZ : zw_Z 118 S) : zw_Z 118 (kS_X5_init_118 S) := by
  unfold kS_X5_init_118
  have hZ := hZ.pI (o := 118) (j := 0) (v := 0) (by decide)
  have hZ := hZ.pI (o := 118) (j := 1) (v := 0) (by decide)
  have hZ := hZ.pI (o := 118) (j := 2) (v := 0) (by decide)
  exact hZ
theorem k_X5_init_118 {X : zw_X} {P : Option Value → aS → Prop} {S : aS} (hZ : zw_Z 118 S) (hP : P none (kS_X5_init_118 S)) : zw_C X M_X5_init 1 0 0 118 [.ref 118] S P := by
  show zw_V X M_X5_init 1 0 0 118 P 0 0 0 [.ref 118] [] S
  refine zv_aload_n (pc := 0) d_X5_init_0 rfl ?_
  refine zv_obj (pc := 1) d_X5_init_1 (zw_mG (List.mem_of_getElem? (i := 238) (by decide +kernel)) rfl) (by decide) (Nat.le_of_ble_eq_true rfl) ?_
  refine zv_aload_n (pc := 4) d_X5_init_4 rfl ?_
  refine zv_iconst (pc := 5) d_X5_init_5 zc_i_0 ?_
  refine kx_putI (pc := 6) (o := 118) (v := 0) d_X5_init_6 lk_CutStones_Rule_7 (Or.inl rfl) ⟨by decide, by decide⟩ (by decide +kernel) ?_
  have hZ := hZ.pI (o := 118) (j := 0) (v := 0) (by decide)
  refine zv_aload_n (pc := 9) d_X5_init_9 rfl ?_
  refine zv_iconst (pc := 10) d_X5_init_10 zc_i_0 ?_
  refine kx_putI (pc := 11) (o := 118) (v := 0) d_X5_init_11 lk_CutStones_Rule_13 (Or.inl rfl) ⟨by decide, by decide⟩ (by decide +kernel) ?_
  have hZ := hZ.pI (o := 118) (j := 1) (v := 0) (by decide)
  refine zv_aload_n (pc := 14) d_X5_init_14 rfl ?_
  refine zv_iconst (pc := 15) d_X5_init_15 zc_i_0 ?_
  refine kx_putI (pc := 16) (o := 118) (v := 0) d_X5_init_16 lk_CutStones_Rule_16 (Or.inl rfl) ⟨by decide, by decide⟩ (by decide +kernel) ?_
  have hZ := hZ.pI (o := 118) (j := 2) (v := 0) (by decide)
  exact zv_vret (pc := 19) d_X5_init_19 rfl rfl (Nat.le_refl _) hP
def kS_X5_init_119 (S : aS) : aS := (zw_pI (zw_pI (zw_pI S 119 0 0) 119 1 0) 119 2 0)
theorem kZ_X5_init_119 {S : aS} (hZ : zw_Z 119 S) : zw_Z 119 (kS_X5_init_119 S) := by
  unfold kS_X5_init_119
  have hZ := hZ.pI (o := 119) (j := 0) (v := 0) (by decide)
  have hZ := hZ.pI (o := 119) (j := 1) (v := 0) (by decide)
  have hZ := hZ.pI (o := 119) (j := 2) (v := 0) (by decide)
  exact hZ
theorem k_X5_init_119 {X : zw_X} {P : Option Value → aS → Prop} {S : aS} (hZ : zw_Z 119 S) (hP : P none (kS_X5_init_119 S)) : zw_C X M_X5_init 1 0 0 119 [.ref 119] S P := by
  show zw_V X M_X5_init 1 0 0 119 P 0 0 0 [.ref 119] [] S
  refine zv_aload_n (pc := 0) d_X5_init_0 rfl ?_
  refine zv_obj (pc := 1) d_X5_init_1 (zw_mG (List.mem_of_getElem? (i := 238) (by decide +kernel)) rfl) (by decide) (Nat.le_of_ble_eq_true rfl) ?_
  refine zv_aload_n (pc := 4) d_X5_init_4 rfl ?_
  refine zv_iconst (pc := 5) d_X5_init_5 zc_i_0 ?_
  refine kx_putI (pc := 6) (o := 119) (v := 0) d_X5_init_6 lk_CutStones_Rule_7 (Or.inl rfl) ⟨by decide, by decide⟩ (by decide +kernel) ?_
  have hZ := hZ.pI (o := 119) (j := 0) (v := 0) (by decide)
  refine zv_aload_n (pc := 9) d_X5_init_9 rfl ?_
  refine zv_iconst (pc := 10) d_X5_init_10 zc_i_0 ?_
  refine kx_putI (pc := 11) (o := 119) (v := 0) d_X5_init_11 lk_CutStones_Rule_13 (Or.inl rfl) ⟨by decide, by decide⟩ (by decide +kernel) ?_
  have hZ := hZ.pI (o := 119) (j := 1) (v := 0) (by decide)
  refine zv_aload_n (pc := 14) d_X5_init_14 rfl ?_
  refine zv_iconst (pc := 15) d_X5_init_15 zc_i_0 ?_
  refine kx_putI (pc := 16) (o := 119) (v := 0) d_X5_init_16 lk_CutStones_Rule_16 (Or.inl rfl) ⟨by decide, by decide⟩ (by decide +kernel) ?_
  have hZ := hZ.pI (o := 119) (j := 2) (v := 0) (by decide)
  exact zv_vret (pc := 19) d_X5_init_19 rfl rfl (Nat.le_refl _) hP
def kS_X5_init_120 (S : aS) : aS := (zw_pI (zw_pI (zw_pI S 120 0 0) 120 1 0) 120 2 0)
theorem kZ_X5_init_120 {S : aS} (hZ : zw_Z 120 S) : zw_Z 120 (kS_X5_init_120 S) := by
  unfold kS_X5_init_120
  have hZ := hZ.pI (o := 120) (j := 0) (v := 0) (by decide)
  have hZ := hZ.pI (o := 120) (j := 1) (v := 0) (by decide)
  have hZ := hZ.pI (o := 120) (j := 2) (v := 0) (by decide)
  exact hZ
theorem k_X5_init_120 {X : zw_X} {P : Option Value → aS → Prop} {S : aS} (hZ : zw_Z 120 S) (hP : P none (kS_X5_init_120 S)) : zw_C X M_X5_init 1 0 0 120 [.ref 120] S P := by
  show zw_V X M_X5_init 1 0 0 120 P 0 0 0 [.ref 120] [] S
  refine zv_aload_n (pc := 0) d_X5_init_0 rfl ?_
  refine zv_obj (pc := 1) d_X5_init_1 (zw_mG (List.mem_of_getElem? (i := 238) (by decide +kernel)) rfl) (by decide) (Nat.le_of_ble_eq_true rfl) ?_
  refine zv_aload_n (pc := 4) d_X5_init_4 rfl ?_
  refine zv_iconst (pc := 5) d_X5_init_5 zc_i_0 ?_
  refine kx_putI (pc := 6) (o := 120) (v := 0) d_X5_init_6 lk_CutStones_Rule_7 (Or.inl rfl) ⟨by decide, by decide⟩ (by decide +kernel) ?_
  have hZ := hZ.pI (o := 120) (j := 0) (v := 0) (by decide)
  refine zv_aload_n (pc := 9) d_X5_init_9 rfl ?_
  refine zv_iconst (pc := 10) d_X5_init_10 zc_i_0 ?_
  refine kx_putI (pc := 11) (o := 120) (v := 0) d_X5_init_11 lk_CutStones_Rule_13 (Or.inl rfl) ⟨by decide, by decide⟩ (by decide +kernel) ?_
  have hZ := hZ.pI (o := 120) (j := 1) (v := 0) (by decide)
  refine zv_aload_n (pc := 14) d_X5_init_14 rfl ?_
  refine zv_iconst (pc := 15) d_X5_init_15 zc_i_0 ?_
  refine kx_putI (pc := 16) (o := 120) (v := 0) d_X5_init_16 lk_CutStones_Rule_16 (Or.inl rfl) ⟨by decide, by decide⟩ (by decide +kernel) ?_
  have hZ := hZ.pI (o := 120) (j := 2) (v := 0) (by decide)
  exact zv_vret (pc := 19) d_X5_init_19 rfl rfl (Nat.le_refl _) hP
def kS_X5_init_121 (S : aS) : aS := (zw_pI (zw_pI (zw_pI S 121 0 0) 121 1 0) 121 2 0)
theorem kZ_X5_init_121 {S : aS} (hZ : zw_Z 121 S) : zw_Z 121 (kS_X5_init_121 S) := by
  unfold kS_X5_init_121
  have hZ := hZ.pI (o := 121) (j := 0) (v := 0) (by decide)
  have hZ := hZ.pI (o := 121) (j := 1) (v := 0) (by decide)
  have hZ := hZ.pI (o := 121) (j := 2) (v := 0) (by decide)
  exact hZ
theorem k_X5_init_121 {X : zw_X} {P : Option Value → aS → Prop} {S : aS} (hZ : zw_Z 121 S) (hP : P none (kS_X5_init_121 S)) : zw_C X M_X5_init 1 0 0 121 [.ref 121] S P := by
  show zw_V X M_X5_init 1 0 0 121 P 0 0 0 [.ref 121] [] S
  refine zv_aload_n (pc := 0) d_X5_init_0 rfl ?_
  refine zv_obj (pc := 1) d_X5_init_1 (zw_mG (List.mem_of_getElem? (i := 238) (by decide +kernel)) rfl) (by decide) (Nat.le_of_ble_eq_true rfl) ?_
  refine zv_aload_n (pc := 4) d_X5_init_4 rfl ?_
  refine zv_iconst (pc := 5) d_X5_init_5 zc_i_0 ?_
  refine kx_putI (pc := 6) (o := 121) (v := 0) d_X5_init_6 lk_CutStones_Rule_7 (Or.inl rfl) ⟨by decide, by decide⟩ (by decide +kernel) ?_
  have hZ := hZ.pI (o := 121) (j := 0) (v := 0) (by decide)
  refine zv_aload_n (pc := 9) d_X5_init_9 rfl ?_
  refine zv_iconst (pc := 10) d_X5_init_10 zc_i_0 ?_
  refine kx_putI (pc := 11) (o := 121) (v := 0) d_X5_init_11 lk_CutStones_Rule_13 (Or.inl rfl) ⟨by decide, by decide⟩ (by decide +kernel) ?_
  have hZ := hZ.pI (o := 121) (j := 1) (v := 0) (by decide)
  refine zv_aload_n (pc := 14) d_X5_init_14 rfl ?_
  refine zv_iconst (pc := 15) d_X5_init_15 zc_i_0 ?_
  refine kx_putI (pc := 16) (o := 121) (v := 0) d_X5_init_16 lk_CutStones_Rule_16 (Or.inl rfl) ⟨by decide, by decide⟩ (by decide +kernel) ?_
  have hZ := hZ.pI (o := 121) (j := 2) (v := 0) (by decide)
  exact zv_vret (pc := 19) d_X5_init_19 rfl rfl (Nat.le_refl _) hP
def kS_X1_init_65 (S : aS) : aS := (zw_pR (kS_X5_init_121 (zw_pR (kS_X5_init_120 (zw_pR (kS_X5_init_119 (zw_pR (kS_X5_init_118 (zw_pR (kS_X5_init_117 (zw_pR (kS_X5_init_116 (zw_pR (kS_X5_init_115 (zw_pR (kS_X5_init_114 (zw_pR (kS_X5_init_113 (zw_pR (kS_X5_init_112 (zw_pR (kS_X5_init_111 (zw_pR (kS_X5_init_110 (zw_pR (kS_X5_init_109 (zw_pR (kS_X5_init_108 (zw_pR (kS_X5_init_107 (zw_pR (kS_X5_init_106 (zw_pR (kS_X0_init_104 (zw_pR (kS_X0_init_102 (zw_pR (kS_X0_init_100 (zw_pR (kS_X0_init_98 (zw_pR (kS_X0_init_96 (zw_pR (kS_X0_init_94 (zw_pR (kS_X0_init_92 (zw_pR (kS_X0_init_90 (zw_pR (kS_X0_init_88 (zw_pR (kS_X0_init_86 (zw_pR (kS_X7_init_83 (zw_pR (kS_X7_init_80 (zw_pR (kS_X7_init_77 (zw_pR (kS_X7_init_74 (zw_pI (zw_pR (zw_pR (zw_pI (zw_pR (zw_pI (zw_pR (zw_pI (zw_pR (zw_pI (zw_pR (zw_pI (zw_pR (zw_pI (zw_pR S 65 0 66) 65 1 0) 65 2 67) 65 3 0) 65 4 68) 65 5 0) 65 6 69) 65 7 0) 65 8 70) 65 9 0) 65 10 71) 65 11 0) 65 12 72) 65 13 73) 65 14 0)) 66 0 74)) 66 1 77)) 66 2 80)) 66 3 83)) 67 0 86)) 67 1 88)) 67 2 90)) 67 3 92)) 67 4 94)) 67 5 96)) 68 0 98)) 68 1 100)) 68 2 102)) 68 3 104)) 69 0 106)) 69 1 107)) 69 2 108)) 69 3 109)) 69 4 110)) 69 5 111)) 69 6 112)) 69 7 113)) 70 0 114)) 70 1 115)) 70 2 116)) 70 3 117)) 70 4 118)) 70 5 119)) 70 6 120)) 70 7 121)
theorem kZ_X1_init_65 {S : aS} (hZ : zw_Z 65 S) : zw_Z 121 (kS_X1_init_65 S) := by
  unfold kS_X1_init_65
  have hZ := hZ.up
  have hZ := hZ.pR (o := 65) (j := 0) (v := 66) (by decide)
  have hZ := hZ.pI (o := 65) (j := 1) (v := 0) (by decide)
  have hZ := hZ.up
  have hZ := hZ.pR (o := 65) (j := 2) (v := 67) (by decide)
  have hZ := hZ.pI (o := 65) (j := 3) (v := 0) (by decide)
  have hZ := hZ.up
  have hZ := hZ.pR (o := 65) (j := 4) (v := 68) (by decide)
  have hZ := hZ.pI (o := 65) (j := 5) (v := 0) (by decide)
  have hZ := hZ.up
  have hZ := hZ.pR (o := 65) (j := 6) (v := 69) (by decide)
  have hZ := hZ.pI (o := 65) (j := 7) (v := 0) (by decide)
  have hZ := hZ.up
  have hZ := hZ.pR (o := 65) (j := 8) (v := 70) (by decide)
  have hZ := hZ.pI (o := 65) (j := 9) (v := 0) (by decide)
  have hZ := hZ.up
  have hZ := hZ.pR (o := 65) (j := 10) (v := 71) (by decide)
  have hZ := hZ.pI (o := 65) (j := 11) (v := 0) (by decide)
  have hZ := hZ.up
  have hZ := hZ.pR (o := 65) (j := 12) (v := 72) (by decide)
  have hZ := hZ.up
  have hZ := hZ.pR (o := 65) (j := 13) (v := 73) (by decide)
  have hZ := hZ.pI (o := 65) (j := 14) (v := 0) (by decide)
  have hZ := hZ.up
  have hZ := kZ_X7_init_74 hZ
  have hZ := hZ.pR (o := 66) (j := 0) (v := 74) (by decide)
  have hZ := hZ.up
  have hZ := kZ_X7_init_77 hZ
  have hZ := hZ.pR (o := 66) (j := 1) (v := 77) (by decide)
  have hZ := hZ.up
  have hZ := kZ_X7_init_80 hZ
  have hZ := hZ.pR (o := 66) (j := 2) (v := 80) (by decide)
  have hZ := hZ.up
  have hZ := kZ_X7_init_83 hZ
  have hZ := hZ.pR (o := 66) (j := 3) (v := 83) (by decide)
  have hZ := hZ.up
  have hZ := kZ_X0_init_86 hZ
  have hZ := hZ.pR (o := 67) (j := 0) (v := 86) (by decide)
  have hZ := hZ.up
  have hZ := kZ_X0_init_88 hZ
  have hZ := hZ.pR (o := 67) (j := 1) (v := 88) (by decide)
  have hZ := hZ.up
  have hZ := kZ_X0_init_90 hZ
  have hZ := hZ.pR (o := 67) (j := 2) (v := 90) (by decide)
  have hZ := hZ.up
  have hZ := kZ_X0_init_92 hZ
  have hZ := hZ.pR (o := 67) (j := 3) (v := 92) (by decide)
  have hZ := hZ.up
  have hZ := kZ_X0_init_94 hZ
  have hZ := hZ.pR (o := 67) (j := 4) (v := 94) (by decide)
  have hZ := hZ.up
  have hZ := kZ_X0_init_96 hZ
  have hZ := hZ.pR (o := 67) (j := 5) (v := 96) (by decide)
  have hZ := hZ.up
  have hZ := kZ_X0_init_98 hZ
  have hZ := hZ.pR (o := 68) (j := 0) (v := 98) (by decide)
  have hZ := hZ.up
  have hZ := kZ_X0_init_100 hZ
  have hZ := hZ.pR (o := 68) (j := 1) (v := 100) (by decide)
  have hZ := hZ.up
  have hZ := kZ_X0_init_102 hZ
  have hZ := hZ.pR (o := 68) (j := 2) (v := 102) (by decide)
  have hZ := hZ.up
  have hZ := kZ_X0_init_104 hZ
  have hZ := hZ.pR (o := 68) (j := 3) (v := 104) (by decide)
  have hZ := hZ.up
  have hZ := kZ_X5_init_106 hZ
  have hZ := hZ.pR (o := 69) (j := 0) (v := 106) (by decide)
  have hZ := hZ.up
  have hZ := kZ_X5_init_107 hZ
  have hZ := hZ.pR (o := 69) (j := 1) (v := 107) (by decide)
  have hZ := hZ.up
  have hZ := kZ_X5_init_108 hZ
  have hZ := hZ.pR (o := 69) (j := 2) (v := 108) (by decide)
  have hZ := hZ.up
  have hZ := kZ_X5_init_109 hZ
  have hZ := hZ.pR (o := 69) (j := 3) (v := 109) (by decide)
  have hZ := hZ.up
  have hZ := kZ_X5_init_110 hZ
  have hZ := hZ.pR (o := 69) (j := 4) (v := 110) (by decide)
  have hZ := hZ.up
  have hZ := kZ_X5_init_111 hZ
  have hZ := hZ.pR (o := 69) (j := 5) (v := 111) (by decide)
  have hZ := hZ.up
  have hZ := kZ_X5_init_112 hZ
  have hZ := hZ.pR (o := 69) (j := 6) (v := 112) (by decide)
  have hZ := hZ.up
  have hZ := kZ_X5_init_113 hZ
  have hZ := hZ.pR (o := 69) (j := 7) (v := 113) (by decide)
  have hZ := hZ.up
  have hZ := kZ_X5_init_114 hZ
  have hZ := hZ.pR (o := 70) (j := 0) (v := 114) (by decide)
  have hZ := hZ.up
  have hZ := kZ_X5_init_115 hZ
  have hZ := hZ.pR (o := 70) (j := 1) (v := 115) (by decide)
  have hZ := hZ.up
  have hZ := kZ_X5_init_116 hZ
  have hZ := hZ.pR (o := 70) (j := 2) (v := 116) (by decide)
  have hZ := hZ.up
  have hZ := kZ_X5_init_117 hZ
  have hZ := hZ.pR (o := 70) (j := 3) (v := 117) (by decide)
  have hZ := hZ.up
  have hZ := kZ_X5_init_118 hZ
  have hZ := hZ.pR (o := 70) (j := 4) (v := 118) (by decide)
  have hZ := hZ.up
  have hZ := kZ_X5_init_119 hZ
  have hZ := hZ.pR (o := 70) (j := 5) (v := 119) (by decide)
  have hZ := hZ.up
  have hZ := kZ_X5_init_120 hZ
  have hZ := hZ.pR (o := 70) (j := 6) (v := 120) (by decide)
  have hZ := hZ.up
  have hZ := kZ_X5_init_121 hZ
  have hZ := hZ.pR (o := 70) (j := 7) (v := 121) (by decide)
  exact hZ
theorem k_X1_init_65 {X : zw_X} {P : Option Value → aS → Prop} {S : aS} (hZ : zw_Z 65 S) (hP : P none (kS_X1_init_65 S)) : zw_C X M_X1_init 2 56 2672 65 [.ref 65] S P := by
  show zw_V X M_X1_init 2 56 2672 65 P 0 0 0 [.ref 65, .null] [] S
  refine zv_aload_n (pc := 0) d_X1_init_0 rfl ?_
  refine zv_obj (pc := 1) d_X1_init_1 (zw_mG (List.mem_of_getElem? (i := 164) (by decide +kernel)) rfl) (by decide) (Nat.le_of_ble_eq_true rfl) ?_
  refine zv_aload_n (pc := 4) d_X1_init_4 rfl ?_
  refine zv_iconst (pc := 5) d_X1_init_5 zc_i_4 ?_
  refine kx_anew (pc := 6) (C := "CutStones$Stuff") (κ := 18) (N := 4) d_X1_init_6 (zw_mG (List.mem_of_getElem? (i := 165) (by decide +kernel)) rfl) (by decide) (by decide +kernel) (by decide +kernel) (by decide) (by decide) rfl hZ ⟨by decide, by decide⟩ (by decide) ?_
  have hZ := hZ.up
  refine kx_putR (pc := 9) (o := 65) (v := 66) d_X1_init_9 lk_CutStones_House_11 (Or.inr ⟨rfl, rfl, rfl⟩) (by decide) ⟨by decide, by decide⟩ (by decide +kernel) (by decide) ?_
  have hZ := hZ.pR (o := 65) (j := 0) (v := 66) (by decide)
  refine zv_aload_n (pc := 12) d_X1_init_12 rfl ?_
  refine zv_iconst (pc := 13) d_X1_init_13 zc_i_0 ?_
  refine kx_putI (pc := 14) (o := 65) (v := 0) d_X1_init_14 lk_CutStones_House_17 (Or.inl rfl) ⟨by decide, by decide⟩ (by decide +kernel) ?_
  have hZ := hZ.pI (o := 65) (j := 1) (v := 0) (by decide)
  refine zv_aload_n (pc := 17) d_X1_init_17 rfl ?_
  refine zv_bipush (pc := 18) d_X1_init_18 zc_b_6 ?_
  refine kx_anew (pc := 20) (C := "CutStones$Drawing") (κ := 16) (N := 6) d_X1_init_20 (zw_mG (List.mem_of_getElem? (i := 167) (by decide +kernel)) rfl) (by decide) (by decide +kernel) (by decide +kernel) (by decide) (by decide) rfl hZ ⟨by decide, by decide⟩ (by decide) ?_
  have hZ := hZ.up
  refine kx_putR (pc := 23) (o := 65) (v := 67) d_X1_init_23 lk_CutStones_House_23 (Or.inr ⟨rfl, rfl, rfl⟩) (by decide) ⟨by decide, by decide⟩ (by decide +kernel) (by decide) ?_
  have hZ := hZ.pR (o := 65) (j := 2) (v := 67) (by decide)
  refine zv_aload_n (pc := 26) d_X1_init_26 rfl ?_
  refine zv_iconst (pc := 27) d_X1_init_27 zc_i_0 ?_
  refine kx_putI (pc := 28) (o := 65) (v := 0) d_X1_init_28 lk_CutStones_House_27 (Or.inl rfl) ⟨by decide, by decide⟩ (by decide +kernel) ?_
  have hZ := hZ.pI (o := 65) (j := 3) (v := 0) (by decide)
  refine zv_aload_n (pc := 31) d_X1_init_31 rfl ?_
  refine zv_iconst (pc := 32) d_X1_init_32 zc_i_4 ?_
  refine kx_anew (pc := 33) (C := "CutStones$Drawing") (κ := 16) (N := 4) d_X1_init_33 (zw_mG (List.mem_of_getElem? (i := 167) (by decide +kernel)) rfl) (by decide) (by decide +kernel) (by decide +kernel) (by decide) (by decide) rfl hZ ⟨by decide, by decide⟩ (by decide) ?_
  have hZ := hZ.up
  refine kx_putR (pc := 36) (o := 65) (v := 68) d_X1_init_36 lk_CutStones_House_30 (Or.inr ⟨rfl, rfl, rfl⟩) (by decide) ⟨by decide, by decide⟩ (by decide +kernel) (by decide) ?_
  have hZ := hZ.pR (o := 65) (j := 4) (v := 68) (by decide)
  refine zv_aload_n (pc := 39) d_X1_init_39 rfl ?_
  refine zv_iconst (pc := 40) d_X1_init_40 zc_i_0 ?_
  refine kx_putI (pc := 41) (o := 65) (v := 0) d_X1_init_41 lk_CutStones_House_33 (Or.inl rfl) ⟨by decide, by decide⟩ (by decide +kernel) ?_
  have hZ := hZ.pI (o := 65) (j := 5) (v := 0) (by decide)
  refine zv_aload_n (pc := 44) d_X1_init_44 rfl ?_
  refine zv_bipush (pc := 45) d_X1_init_45 zc_b_8 ?_
  refine kx_anew (pc := 47) (C := "CutStones$Rule") (κ := 17) (N := 8) d_X1_init_47 (zw_mG (List.mem_of_getElem? (i := 169) (by decide +kernel)) rfl) (by decide) (by decide +kernel) (by decide +kernel) (by decide) (by decide) rfl hZ ⟨by decide, by decide⟩ (by decide) ?_
  have hZ := hZ.up
  refine kx_putR (pc := 50) (o := 65) (v := 69) d_X1_init_50 lk_CutStones_House_38 (Or.inr ⟨rfl, rfl, rfl⟩) (by decide) ⟨by decide, by decide⟩ (by decide +kernel) (by decide) ?_
  have hZ := hZ.pR (o := 65) (j := 6) (v := 69) (by decide)
  refine zv_aload_n (pc := 53) d_X1_init_53 rfl ?_
  refine zv_iconst (pc := 54) d_X1_init_54 zc_i_0 ?_
  refine kx_putI (pc := 55) (o := 65) (v := 0) d_X1_init_55 lk_CutStones_House_42 (Or.inl rfl) ⟨by decide, by decide⟩ (by decide +kernel) ?_
  have hZ := hZ.pI (o := 65) (j := 7) (v := 0) (by decide)
  refine zv_aload_n (pc := 58) d_X1_init_58 rfl ?_
  refine zv_bipush (pc := 59) d_X1_init_59 zc_b_8 ?_
  refine kx_anew (pc := 61) (C := "CutStones$Rule") (κ := 17) (N := 8) d_X1_init_61 (zw_mG (List.mem_of_getElem? (i := 169) (by decide +kernel)) rfl) (by decide) (by decide +kernel) (by decide +kernel) (by decide) (by decide) rfl hZ ⟨by decide, by decide⟩ (by decide) ?_
  have hZ := hZ.up
  refine kx_putR (pc := 64) (o := 65) (v := 70) d_X1_init_64 lk_CutStones_House_45 (Or.inr ⟨rfl, rfl, rfl⟩) (by decide) ⟨by decide, by decide⟩ (by decide +kernel) (by decide) ?_
  have hZ := hZ.pR (o := 65) (j := 8) (v := 70) (by decide)
  refine zv_aload_n (pc := 67) d_X1_init_67 rfl ?_
  refine zv_iconst (pc := 68) d_X1_init_68 zc_i_0 ?_
  refine kx_putI (pc := 69) (o := 65) (v := 0) d_X1_init_69 lk_CutStones_House_48 (Or.inl rfl) ⟨by decide, by decide⟩ (by decide +kernel) ?_
  have hZ := hZ.pI (o := 65) (j := 9) (v := 0) (by decide)
  refine zv_aload_n (pc := 72) d_X1_init_72 rfl ?_
  refine zv_bipush (pc := 73) d_X1_init_73 zc_b_30 ?_
  refine kx_newa (pc := 75) (N := 30) d_X1_init_75 (by decide) (by decide +kernel) (by decide +kernel) (by decide) (by decide) rfl hZ ⟨by decide, by decide⟩ (by decide) ?_
  have hZ := hZ.up
  refine kx_putR (pc := 77) (o := 65) (v := 71) d_X1_init_77 lk_CutStones_House_51 (Or.inr ⟨rfl, rfl, rfl⟩) (by decide) ⟨by decide, by decide⟩ (by decide +kernel) (by decide) ?_
  have hZ := hZ.pR (o := 65) (j := 10) (v := 71) (by decide)
  refine zv_aload_n (pc := 80) d_X1_init_80 rfl ?_
  refine zv_iconst (pc := 81) d_X1_init_81 zc_i_0 ?_
  refine kx_putI (pc := 82) (o := 65) (v := 0) d_X1_init_82 lk_CutStones_House_55 (Or.inl rfl) ⟨by decide, by decide⟩ (by decide +kernel) ?_
  have hZ := hZ.pI (o := 65) (j := 11) (v := 0) (by decide)
  refine zv_aload_n (pc := 85) d_X1_init_85 rfl ?_
  refine zv_sipush (pc := 86) d_X1_init_86 zc_s_500 ?_
  refine kx_newa (pc := 89) (N := 500) d_X1_init_89 (by decide) (by decide +kernel) (by decide +kernel) (by decide) (by decide) rfl hZ ⟨by decide, by decide⟩ (by decide) ?_
  have hZ := hZ.up
  refine kx_putR (pc := 91) (o := 65) (v := 72) d_X1_init_91 lk_CutStones_House_58 (Or.inr ⟨rfl, rfl, rfl⟩) (by decide) ⟨by decide, by decide⟩ (by decide +kernel) (by decide) ?_
  have hZ := hZ.pR (o := 65) (j := 12) (v := 72) (by decide)
  refine zv_aload_n (pc := 94) d_X1_init_94 rfl ?_
  refine zv_sipush (pc := 95) d_X1_init_95 zc_s_500 ?_
  refine kx_newa (pc := 98) (N := 500) d_X1_init_98 (by decide) (by decide +kernel) (by decide +kernel) (by decide) (by decide) rfl hZ ⟨by decide, by decide⟩ (by decide) ?_
  have hZ := hZ.up
  refine kx_putR (pc := 100) (o := 65) (v := 73) d_X1_init_100 lk_CutStones_House_62 (Or.inr ⟨rfl, rfl, rfl⟩) (by decide) ⟨by decide, by decide⟩ (by decide +kernel) (by decide) ?_
  have hZ := hZ.pR (o := 65) (j := 13) (v := 73) (by decide)
  refine zv_aload_n (pc := 103) d_X1_init_103 rfl ?_
  refine zv_iconst (pc := 104) d_X1_init_104 zc_i_0 ?_
  refine kx_putI (pc := 105) (o := 65) (v := 0) d_X1_init_105 lk_CutStones_House_65 (Or.inl rfl) ⟨by decide, by decide⟩ (by decide +kernel) ?_
  have hZ := hZ.pI (o := 65) (j := 14) (v := 0) (by decide)
  refine zv_iconst (pc := 108) d_X1_init_108 zc_i_0 ?_
  refine kx_istore_n (pc := 109) (L2 := [.ref 65, .int 0]) d_X1_init_109 (by decide) rfl ?_
  refine zv_iload_n (pc := 110) d_X1_init_110 rfl ?_
  refine zv_iconst (pc := 111) d_X1_init_111 zc_i_4 ?_
  refine zv_icmp_ge (pc := 112) (tg := 134) d_X1_init_112 (by decide) (fun q => absurd q (by decide +kernel)) (fun _ => ?_)
  refine zv_aload_n (pc := 115) d_X1_init_115 rfl ?_
  refine kx_getR (pc := 116) (o := 65) (v := 66) d_X1_init_116 lk_CutStones_House_11 (by decide) ⟨by decide, by decide⟩ (by decide +kernel) rfl (by decide) ?_
  refine zv_iload_n (pc := 119) d_X1_init_119 rfl ?_
  refine kx_new (pc := 120) (c := 7) d_X1_init_120 rfl ⟨(zw_mG (List.mem_of_getElem? (i := 165) (by decide +kernel)) rfl), (zw_mG (List.mem_of_getElem? (i := 171) (by decide +kernel)) rfl), (zw_mG (List.mem_of_getElem? (i := 100) (by decide +kernel)) rfl)⟩ (by decide) rfl hZ ⟨by decide, by decide⟩ (by decide) (by decide +kernel) ?_
  have hZ := hZ.up
  refine zv_dup (pc := 123) d_X1_init_123 rfl ?_
  refine zv_callIN (pc := 124) (As := []) (o := 74) (st := [.ref 74, .int 0, .ref 66]) (d2 := 1) (mc2 := 2) (ms2 := 8) (M2 := M_X7_init) (R2 := fun r T => r = none ∧ T = kS_X7_init_74 (zw_pI (zw_pR (zw_pR (zw_pI (zw_pR (zw_pI (zw_pR (zw_pI (zw_pR (zw_pI (zw_pR (zw_pI (zw_pR (zw_pI (zw_pR S 65 0 66) 65 1 0) 65 2 67) 65 3 0) 65 4 68) 65 5 0) 65 6 69) 65 7 0) 65 8 70) 65 9 0) 65 10 71) 65 11 0) 65 12 72) 65 13 73) 65 14 0)) d_X1_init_124 (by decide +kernel) ce_X7_init (Nat.le_of_ble_eq_true rfl) rfl (Nat.le_of_ble_eq_true rfl) (by decide) ⟨by decide, by decide⟩ (by decide) (k_X7_init_74 hZ ⟨rfl, rfl⟩) ?_
  rintro _ _ ⟨rfl, rfl⟩
  have hZ := kZ_X7_init_74 hZ
  show zw_V X M_X1_init 2 56 2672 65 P (124 + 3) 11 1071 [.ref 65, .int 0] [.ref 74, .int 0, .ref 66] (kS_X7_init_74 (zw_pI (zw_pR (zw_pR (zw_pI (zw_pR (zw_pI (zw_pR (zw_pI (zw_pR (zw_pI (zw_pR (zw_pI (zw_pR (zw_pI (zw_pR S 65 0 66) 65 1 0) 65 2 67) 65 3 0) 65 4 68) 65 5 0) 65 6 69) 65 7 0) 65 8 70) 65 9 0) 65 10 71) 65 11 0) 65 12 72) 65 13 73) 65 14 0))
  refine kx_aast (pc := 127) (o := 66) (κ := 18) (j := 0) d_X1_init_127 ⟨by decide, by decide⟩ (by decide +kernel) (by decide) (by decide +kernel) (by decide +kernel) ⟨by decide, by decide⟩ (by decide +kernel) ?_
  have hZ := hZ.pR (o := 66) (j := 0) (v := 74) (by decide)
  refine kx_iinc (pc := 128) (x2 := 1) (L2 := [.ref 65, .int 1]) d_X1_init_128 (by decide) rfl zc_i_1 (by decide +kernel) rfl ?_
  refine zv_goto (pc := 131) (tg := 110) d_X1_init_131 (by decide) ?_
  refine zv_iload_n (pc := 110) d_X1_init_110 rfl ?_
  refine zv_iconst (pc := 111) d_X1_init_111 zc_i_4 ?_
  refine zv_icmp_ge (pc := 112) (tg := 134) d_X1_init_112 (by decide) (fun q => absurd q (by decide +kernel)) (fun _ => ?_)
  refine zv_aload_n (pc := 115) d_X1_init_115 rfl ?_
  refine kx_getR (pc := 116) (o := 65) (v := 66) d_X1_init_116 lk_CutStones_House_11 (by decide) ⟨by decide, by decide⟩ (by decide +kernel) rfl (by decide) ?_
  refine zv_iload_n (pc := 119) d_X1_init_119 rfl ?_
  refine kx_new (pc := 120) (c := 7) d_X1_init_120 rfl ⟨(zw_mG (List.mem_of_getElem? (i := 165) (by decide +kernel)) rfl), (zw_mG (List.mem_of_getElem? (i := 171) (by decide +kernel)) rfl), (zw_mG (List.mem_of_getElem? (i := 100) (by decide +kernel)) rfl)⟩ (by decide) rfl hZ ⟨by decide, by decide⟩ (by decide) (by decide +kernel) ?_
  have hZ := hZ.up
  refine zv_dup (pc := 123) d_X1_init_123 rfl ?_
  refine zv_callIN (pc := 124) (As := []) (o := 77) (st := [.ref 77, .int 1, .ref 66]) (d2 := 1) (mc2 := 2) (ms2 := 8) (M2 := M_X7_init) (R2 := fun r T => r = none ∧ T = kS_X7_init_77 (zw_pR (kS_X7_init_74 (zw_pI (zw_pR (zw_pR (zw_pI (zw_pR (zw_pI (zw_pR (zw_pI (zw_pR (zw_pI (zw_pR (zw_pI (zw_pR (zw_pI (zw_pR S 65 0 66) 65 1 0) 65 2 67) 65 3 0) 65 4 68) 65 5 0) 65 6 69) 65 7 0) 65 8 70) 65 9 0) 65 10 71) 65 11 0) 65 12 72) 65 13 73) 65 14 0)) 66 0 74)) d_X1_init_124 (by decide +kernel) ce_X7_init (Nat.le_of_ble_eq_true rfl) rfl (Nat.le_of_ble_eq_true rfl) (by decide) ⟨by decide, by decide⟩ (by decide) (k_X7_init_77 hZ ⟨rfl, rfl⟩) ?_
  rintro _ _ ⟨rfl, rfl⟩
  have hZ := kZ_X7_init_77 hZ
  show zw_V X M_X1_init 2 56 2672 65 P (124 + 3) 14 1082 [.ref 65, .int 1] [.ref 77, .int 1, .ref 66] (kS_X7_init_77 (zw_pR (kS_X7_init_74 (zw_pI (zw_pR (zw_pR (zw_pI (zw_pR (zw_pI (zw_pR (zw_pI (zw_pR (zw_pI (zw_pR (zw_pI (zw_pR (zw_pI (zw_pR S 65 0 66) 65 1 0) 65 2 67) 65 3 0) 65 4 68) 65 5 0) 65 6 69) 65 7 0) 65 8 70) 65 9 0) 65 10 71) 65 11 0) 65 12 72) 65 13 73) 65 14 0)) 66 0 74))
  refine kx_aast (pc := 127) (o := 66) (κ := 18) (j := 1) d_X1_init_127 ⟨by decide, by decide⟩ (by decide +kernel) (by decide) (by decide +kernel) (by decide +kernel) ⟨by decide, by decide⟩ (by decide +kernel) ?_
  have hZ := hZ.pR (o := 66) (j := 1) (v := 77) (by decide)
  refine kx_iinc (pc := 128) (x2 := 2) (L2 := [.ref 65, .int 2]) d_X1_init_128 (by decide) rfl zc_i_1 (by decide +kernel) rfl ?_
  refine zv_goto (pc := 131) (tg := 110) d_X1_init_131 (by decide) ?_
  refine zv_iload_n (pc := 110) d_X1_init_110 rfl ?_
  refine zv_iconst (pc := 111) d_X1_init_111 zc_i_4 ?_
  refine zv_icmp_ge (pc := 112) (tg := 134) d_X1_init_112 (by decide) (fun q => absurd q (by decide +kernel)) (fun _ => ?_)
  refine zv_aload_n (pc := 115) d_X1_init_115 rfl ?_
  refine kx_getR (pc := 116) (o := 65) (v := 66) d_X1_init_116 lk_CutStones_House_11 (by decide) ⟨by decide, by decide⟩ (by decide +kernel) rfl (by decide) ?_
  refine zv_iload_n (pc := 119) d_X1_init_119 rfl ?_
  refine kx_new (pc := 120) (c := 7) d_X1_init_120 rfl ⟨(zw_mG (List.mem_of_getElem? (i := 165) (by decide +kernel)) rfl), (zw_mG (List.mem_of_getElem? (i := 171) (by decide +kernel)) rfl), (zw_mG (List.mem_of_getElem? (i := 100) (by decide +kernel)) rfl)⟩ (by decide) rfl hZ ⟨by decide, by decide⟩ (by decide) (by decide +kernel) ?_
  have hZ := hZ.up
  refine zv_dup (pc := 123) d_X1_init_123 rfl ?_
  refine zv_callIN (pc := 124) (As := []) (o := 80) (st := [.ref 80, .int 2, .ref 66]) (d2 := 1) (mc2 := 2) (ms2 := 8) (M2 := M_X7_init) (R2 := fun r T => r = none ∧ T = kS_X7_init_80 (zw_pR (kS_X7_init_77 (zw_pR (kS_X7_init_74 (zw_pI (zw_pR (zw_pR (zw_pI (zw_pR (zw_pI (zw_pR (zw_pI (zw_pR (zw_pI (zw_pR (zw_pI (zw_pR (zw_pI (zw_pR S 65 0 66) 65 1 0) 65 2 67) 65 3 0) 65 4 68) 65 5 0) 65 6 69) 65 7 0) 65 8 70) 65 9 0) 65 10 71) 65 11 0) 65 12 72) 65 13 73) 65 14 0)) 66 0 74)) 66 1 77)) d_X1_init_124 (by decide +kernel) ce_X7_init (Nat.le_of_ble_eq_true rfl) rfl (Nat.le_of_ble_eq_true rfl) (by decide) ⟨by decide, by decide⟩ (by decide) (k_X7_init_80 hZ ⟨rfl, rfl⟩) ?_
  rintro _ _ ⟨rfl, rfl⟩
  have hZ := kZ_X7_init_80 hZ
  show zw_V X M_X1_init 2 56 2672 65 P (124 + 3) 17 1093 [.ref 65, .int 2] [.ref 80, .int 2, .ref 66] (kS_X7_init_80 (zw_pR (kS_X7_init_77 (zw_pR (kS_X7_init_74 (zw_pI (zw_pR (zw_pR (zw_pI (zw_pR (zw_pI (zw_pR (zw_pI (zw_pR (zw_pI (zw_pR (zw_pI (zw_pR (zw_pI (zw_pR S 65 0 66) 65 1 0) 65 2 67) 65 3 0) 65 4 68) 65 5 0) 65 6 69) 65 7 0) 65 8 70) 65 9 0) 65 10 71) 65 11 0) 65 12 72) 65 13 73) 65 14 0)) 66 0 74)) 66 1 77))
  refine kx_aast (pc := 127) (o := 66) (κ := 18) (j := 2) d_X1_init_127 ⟨by decide, by decide⟩ (by decide +kernel) (by decide) (by decide +kernel) (by decide +kernel) ⟨by decide, by decide⟩ (by decide +kernel) ?_
  have hZ := hZ.pR (o := 66) (j := 2) (v := 80) (by decide)
  refine kx_iinc (pc := 128) (x2 := 3) (L2 := [.ref 65, .int 3]) d_X1_init_128 (by decide) rfl zc_i_1 (by decide +kernel) rfl ?_
  refine zv_goto (pc := 131) (tg := 110) d_X1_init_131 (by decide) ?_
  refine zv_iload_n (pc := 110) d_X1_init_110 rfl ?_
  refine zv_iconst (pc := 111) d_X1_init_111 zc_i_4 ?_
  refine zv_icmp_ge (pc := 112) (tg := 134) d_X1_init_112 (by decide) (fun q => absurd q (by decide +kernel)) (fun _ => ?_)
  refine zv_aload_n (pc := 115) d_X1_init_115 rfl ?_
  refine kx_getR (pc := 116) (o := 65) (v := 66) d_X1_init_116 lk_CutStones_House_11 (by decide) ⟨by decide, by decide⟩ (by decide +kernel) rfl (by decide) ?_
  refine zv_iload_n (pc := 119) d_X1_init_119 rfl ?_
  refine kx_new (pc := 120) (c := 7) d_X1_init_120 rfl ⟨(zw_mG (List.mem_of_getElem? (i := 165) (by decide +kernel)) rfl), (zw_mG (List.mem_of_getElem? (i := 171) (by decide +kernel)) rfl), (zw_mG (List.mem_of_getElem? (i := 100) (by decide +kernel)) rfl)⟩ (by decide) rfl hZ ⟨by decide, by decide⟩ (by decide) (by decide +kernel) ?_
  have hZ := hZ.up
  refine zv_dup (pc := 123) d_X1_init_123 rfl ?_
  refine zv_callIN (pc := 124) (As := []) (o := 83) (st := [.ref 83, .int 3, .ref 66]) (d2 := 1) (mc2 := 2) (ms2 := 8) (M2 := M_X7_init) (R2 := fun r T => r = none ∧ T = kS_X7_init_83 (zw_pR (kS_X7_init_80 (zw_pR (kS_X7_init_77 (zw_pR (kS_X7_init_74 (zw_pI (zw_pR (zw_pR (zw_pI (zw_pR (zw_pI (zw_pR (zw_pI (zw_pR (zw_pI (zw_pR (zw_pI (zw_pR (zw_pI (zw_pR S 65 0 66) 65 1 0) 65 2 67) 65 3 0) 65 4 68) 65 5 0) 65 6 69) 65 7 0) 65 8 70) 65 9 0) 65 10 71) 65 11 0) 65 12 72) 65 13 73) 65 14 0)) 66 0 74)) 66 1 77)) 66 2 80)) d_X1_init_124 (by decide +kernel) ce_X7_init (Nat.le_of_ble_eq_true rfl) rfl (Nat.le_of_ble_eq_true rfl) (by decide) ⟨by decide, by decide⟩ (by decide) (k_X7_init_83 hZ ⟨rfl, rfl⟩) ?_
  rintro _ _ ⟨rfl, rfl⟩
  have hZ := kZ_X7_init_83 hZ
  show zw_V X M_X1_init 2 56 2672 65 P (124 + 3) 20 1104 [.ref 65, .int 3] [.ref 83, .int 3, .ref 66] (kS_X7_init_83 (zw_pR (kS_X7_init_80 (zw_pR (kS_X7_init_77 (zw_pR (kS_X7_init_74 (zw_pI (zw_pR (zw_pR (zw_pI (zw_pR (zw_pI (zw_pR (zw_pI (zw_pR (zw_pI (zw_pR (zw_pI (zw_pR (zw_pI (zw_pR S 65 0 66) 65 1 0) 65 2 67) 65 3 0) 65 4 68) 65 5 0) 65 6 69) 65 7 0) 65 8 70) 65 9 0) 65 10 71) 65 11 0) 65 12 72) 65 13 73) 65 14 0)) 66 0 74)) 66 1 77)) 66 2 80))
  refine kx_aast (pc := 127) (o := 66) (κ := 18) (j := 3) d_X1_init_127 ⟨by decide, by decide⟩ (by decide +kernel) (by decide) (by decide +kernel) (by decide +kernel) ⟨by decide, by decide⟩ (by decide +kernel) ?_
  have hZ := hZ.pR (o := 66) (j := 3) (v := 83) (by decide)
  refine kx_iinc (pc := 128) (x2 := 4) (L2 := [.ref 65, .int 4]) d_X1_init_128 (by decide) rfl zc_i_1 (by decide +kernel) rfl ?_
  refine zv_goto (pc := 131) (tg := 110) d_X1_init_131 (by decide) ?_
  refine zv_iload_n (pc := 110) d_X1_init_110 rfl ?_
  refine zv_iconst (pc := 111) d_X1_init_111 zc_i_4 ?_
  refine zv_icmp_ge (pc := 112) (tg := 134) d_X1_init_112 (by decide) (fun _ => ?_) (fun q => absurd (by decide +kernel) q)
  refine zv_iconst (pc := 134) d_X1_init_134 zc_i_0 ?_
  refine kx_istore_n (pc := 135) (L2 := [.ref 65, .int 0]) d_X1_init_135 (by decide) rfl ?_
  refine zv_iload_n (pc := 136) d_X1_init_136 rfl ?_
  refine zv_bipush (pc := 137) d_X1_init_137 zc_b_6 ?_
  refine zv_icmp_ge (pc := 139) (tg := 161) d_X1_init_139 (by decide) (fun q => absurd q (by decide +kernel)) (fun _ => ?_)
  refine zv_aload_n (pc := 142) d_X1_init_142 rfl ?_
  refine kx_getR (pc := 143) (o := 65) (v := 67) d_X1_init_143 lk_CutStones_House_23 (by decide) ⟨by decide, by decide⟩ (by decide +kernel) rfl (by decide) ?_
  refine zv_iload_n (pc := 146) d_X1_init_146 rfl ?_
  refine kx_new (pc := 147) (c := 0) d_X1_init_147 rfl ⟨(zw_mG (List.mem_of_getElem? (i := 167) (by decide +kernel)) rfl), (zw_mG (List.mem_of_getElem? (i := 191) (by decide +kernel)) rfl), (zw_mG (List.mem_of_getElem? (i := 101) (by decide +kernel)) rfl)⟩ (by decide) rfl hZ ⟨by decide, by decide⟩ (by decide) (by decide +kernel) ?_
  have hZ := hZ.up
  refine zv_dup (pc := 150) d_X1_init_150 rfl ?_
  refine zv_callIN (pc := 151) (As := []) (o := 86) (st := [.ref 86, .int 0, .ref 67]) (d2 := 1) (mc2 := 1) (ms2 := 144) (M2 := M_X0_init) (R2 := fun r T => r = none ∧ T = kS_X0_init_86 (zw_pR (kS_X7_init_83 (zw_pR (kS_X7_init_80 (zw_pR (kS_X7_init_77 (zw_pR (kS_X7_init_74 (zw_pI (zw_pR (zw_pR (zw_pI (zw_pR (zw_pI (zw_pR (zw_pI (zw_pR (zw_pI (zw_pR (zw_pI (zw_pR (zw_pI (zw_pR S 65 0 66) 65 1 0) 65 2 67) 65 3 0) 65 4 68) 65 5 0) 65 6 69) 65 7 0) 65 8 70) 65 9 0) 65 10 71) 65 11 0) 65 12 72) 65 13 73) 65 14 0)) 66 0 74)) 66 1 77)) 66 2 80)) 66 3 83)) d_X1_init_151 (by decide +kernel) ce_X0_init (Nat.le_of_ble_eq_true rfl) rfl (Nat.le_of_ble_eq_true rfl) (by decide) ⟨by decide, by decide⟩ (by decide) (k_X0_init_86 hZ ⟨rfl, rfl⟩) ?_
  rintro _ _ ⟨rfl, rfl⟩
  have hZ := kZ_X0_init_86 hZ
  show zw_V X M_X1_init 2 56 2672 65 P (151 + 3) 22 1256 [.ref 65, .int 0] [.ref 86, .int 0, .ref 67] (kS_X0_init_86 (zw_pR (kS_X7_init_83 (zw_pR (kS_X7_init_80 (zw_pR (kS_X7_init_77 (zw_pR (kS_X7_init_74 (zw_pI (zw_pR (zw_pR (zw_pI (zw_pR (zw_pI (zw_pR (zw_pI (zw_pR (zw_pI (zw_pR (zw_pI (zw_pR (zw_pI (zw_pR S 65 0 66) 65 1 0) 65 2 67) 65 3 0) 65 4 68) 65 5 0) 65 6 69) 65 7 0) 65 8 70) 65 9 0) 65 10 71) 65 11 0) 65 12 72) 65 13 73) 65 14 0)) 66 0 74)) 66 1 77)) 66 2 80)) 66 3 83))
  refine kx_aast (pc := 154) (o := 67) (κ := 16) (j := 0) d_X1_init_154 ⟨by decide, by decide⟩ (by decide +kernel) (by decide) (by decide +kernel) (by decide +kernel) ⟨by decide, by decide⟩ (by decide +kernel) ?_
  have hZ := hZ.pR (o := 67) (j := 0) (v := 86) (by decide)
  refine kx_iinc (pc := 155) (x2 := 1) (L2 := [.ref 65, .int 1]) d_X1_init_155 (by decide) rfl zc_i_1 (by decide +kernel) rfl ?_
  refine zv_goto (pc := 158) (tg := 136) d_X1_init_158 (by decide) ?_
  refine zv_iload_n (pc := 136) d_X1_init_136 rfl ?_
  refine zv_bipush (pc := 137) d_X1_init_137 zc_b_6 ?_
  refine zv_icmp_ge (pc := 139) (tg := 161) d_X1_init_139 (by decide) (fun q => absurd q (by decide +kernel)) (fun _ => ?_)
  refine zv_aload_n (pc := 142) d_X1_init_142 rfl ?_
  refine kx_getR (pc := 143) (o := 65) (v := 67) d_X1_init_143 lk_CutStones_House_23 (by decide) ⟨by decide, by decide⟩ (by decide +kernel) rfl (by decide) ?_
  refine zv_iload_n (pc := 146) d_X1_init_146 rfl ?_
  refine kx_new (pc := 147) (c := 0) d_X1_init_147 rfl ⟨(zw_mG (List.mem_of_getElem? (i := 167) (by decide +kernel)) rfl), (zw_mG (List.mem_of_getElem? (i := 191) (by decide +kernel)) rfl), (zw_mG (List.mem_of_getElem? (i := 101) (by decide +kernel)) rfl)⟩ (by decide) rfl hZ ⟨by decide, by decide⟩ (by decide) (by decide +kernel) ?_
  have hZ := hZ.up
  refine zv_dup (pc := 150) d_X1_init_150 rfl ?_
  refine zv_callIN (pc := 151) (As := []) (o := 88) (st := [.ref 88, .int 1, .ref 67]) (d2 := 1) (mc2 := 1) (ms2 := 144) (M2 := M_X0_init) (R2 := fun r T => r = none ∧ T = kS_X0_init_88 (zw_pR (kS_X0_init_86 (zw_pR (kS_X7_init_83 (zw_pR (kS_X7_init_80 (zw_pR (kS_X7_init_77 (zw_pR (kS_X7_init_74 (zw_pI (zw_pR (zw_pR (zw_pI (zw_pR (zw_pI (zw_pR (zw_pI (zw_pR (zw_pI (zw_pR (zw_pI (zw_pR (zw_pI (zw_pR S 65 0 66) 65 1 0) 65 2 67) 65 3 0) 65 4 68) 65 5 0) 65 6 69) 65 7 0) 65 8 70) 65 9 0) 65 10 71) 65 11 0) 65 12 72) 65 13 73) 65 14 0)) 66 0 74)) 66 1 77)) 66 2 80)) 66 3 83)) 67 0 86)) d_X1_init_151 (by decide +kernel) ce_X0_init (Nat.le_of_ble_eq_true rfl) rfl (Nat.le_of_ble_eq_true rfl) (by decide) ⟨by decide, by decide⟩ (by decide) (k_X0_init_88 hZ ⟨rfl, rfl⟩) ?_
  rintro _ _ ⟨rfl, rfl⟩
  have hZ := kZ_X0_init_88 hZ
  show zw_V X M_X1_init 2 56 2672 65 P (151 + 3) 24 1408 [.ref 65, .int 1] [.ref 88, .int 1, .ref 67] (kS_X0_init_88 (zw_pR (kS_X0_init_86 (zw_pR (kS_X7_init_83 (zw_pR (kS_X7_init_80 (zw_pR (kS_X7_init_77 (zw_pR (kS_X7_init_74 (zw_pI (zw_pR (zw_pR (zw_pI (zw_pR (zw_pI (zw_pR (zw_pI (zw_pR (zw_pI (zw_pR (zw_pI (zw_pR (zw_pI (zw_pR S 65 0 66) 65 1 0) 65 2 67) 65 3 0) 65 4 68) 65 5 0) 65 6 69) 65 7 0) 65 8 70) 65 9 0) 65 10 71) 65 11 0) 65 12 72) 65 13 73) 65 14 0)) 66 0 74)) 66 1 77)) 66 2 80)) 66 3 83)) 67 0 86))
  refine kx_aast (pc := 154) (o := 67) (κ := 16) (j := 1) d_X1_init_154 ⟨by decide, by decide⟩ (by decide +kernel) (by decide) (by decide +kernel) (by decide +kernel) ⟨by decide, by decide⟩ (by decide +kernel) ?_
  have hZ := hZ.pR (o := 67) (j := 1) (v := 88) (by decide)
  refine kx_iinc (pc := 155) (x2 := 2) (L2 := [.ref 65, .int 2]) d_X1_init_155 (by decide) rfl zc_i_1 (by decide +kernel) rfl ?_
  refine zv_goto (pc := 158) (tg := 136) d_X1_init_158 (by decide) ?_
  refine zv_iload_n (pc := 136) d_X1_init_136 rfl ?_
  refine zv_bipush (pc := 137) d_X1_init_137 zc_b_6 ?_
  refine zv_icmp_ge (pc := 139) (tg := 161) d_X1_init_139 (by decide) (fun q => absurd q (by decide +kernel)) (fun _ => ?_)
  refine zv_aload_n (pc := 142) d_X1_init_142 rfl ?_
  refine kx_getR (pc := 143) (o := 65) (v := 67) d_X1_init_143 lk_CutStones_House_23 (by decide) ⟨by decide, by decide⟩ (by decide +kernel) rfl (by decide) ?_
  refine zv_iload_n (pc := 146) d_X1_init_146 rfl ?_
  refine kx_new (pc := 147) (c := 0) d_X1_init_147 rfl ⟨(zw_mG (List.mem_of_getElem? (i := 167) (by decide +kernel)) rfl), (zw_mG (List.mem_of_getElem? (i := 191) (by decide +kernel)) rfl), (zw_mG (List.mem_of_getElem? (i := 101) (by decide +kernel)) rfl)⟩ (by decide) rfl hZ ⟨by decide, by decide⟩ (by decide) (by decide +kernel) ?_
  have hZ := hZ.up
  refine zv_dup (pc := 150) d_X1_init_150 rfl ?_
  refine zv_callIN (pc := 151) (As := []) (o := 90) (st := [.ref 90, .int 2, .ref 67]) (d2 := 1) (mc2 := 1) (ms2 := 144) (M2 := M_X0_init) (R2 := fun r T => r = none ∧ T = kS_X0_init_90 (zw_pR (kS_X0_init_88 (zw_pR (kS_X0_init_86 (zw_pR (kS_X7_init_83 (zw_pR (kS_X7_init_80 (zw_pR (kS_X7_init_77 (zw_pR (kS_X7_init_74 (zw_pI (zw_pR (zw_pR (zw_pI (zw_pR (zw_pI (zw_pR (zw_pI (zw_pR (zw_pI (zw_pR (zw_pI (zw_pR (zw_pI (zw_pR S 65 0 66) 65 1 0) 65 2 67) 65 3 0) 65 4 68) 65 5 0) 65 6 69) 65 7 0) 65 8 70) 65 9 0) 65 10 71) 65 11 0) 65 12 72) 65 13 73) 65 14 0)) 66 0 74)) 66 1 77)) 66 2 80)) 66 3 83)) 67 0 86)) 67 1 88)) d_X1_init_151 (by decide +kernel) ce_X0_init (Nat.le_of_ble_eq_true rfl) rfl (Nat.le_of_ble_eq_true rfl) (by decide) ⟨by decide, by decide⟩ (by decide) (k_X0_init_90 hZ ⟨rfl, rfl⟩) ?_
  rintro _ _ ⟨rfl, rfl⟩
  have hZ := kZ_X0_init_90 hZ
  show zw_V X M_X1_init 2 56 2672 65 P (151 + 3) 26 1560 [.ref 65, .int 2] [.ref 90, .int 2, .ref 67] (kS_X0_init_90 (zw_pR (kS_X0_init_88 (zw_pR (kS_X0_init_86 (zw_pR (kS_X7_init_83 (zw_pR (kS_X7_init_80 (zw_pR (kS_X7_init_77 (zw_pR (kS_X7_init_74 (zw_pI (zw_pR (zw_pR (zw_pI (zw_pR (zw_pI (zw_pR (zw_pI (zw_pR (zw_pI (zw_pR (zw_pI (zw_pR (zw_pI (zw_pR S 65 0 66) 65 1 0) 65 2 67) 65 3 0) 65 4 68) 65 5 0) 65 6 69) 65 7 0) 65 8 70) 65 9 0) 65 10 71) 65 11 0) 65 12 72) 65 13 73) 65 14 0)) 66 0 74)) 66 1 77)) 66 2 80)) 66 3 83)) 67 0 86)) 67 1 88))
  refine kx_aast (pc := 154) (o := 67) (κ := 16) (j := 2) d_X1_init_154 ⟨by decide, by decide⟩ (by decide +kernel) (by decide) (by decide +kernel) (by decide +kernel) ⟨by decide, by decide⟩ (by decide +kernel) ?_
  have hZ := hZ.pR (o := 67) (j := 2) (v := 90) (by decide)
  refine kx_iinc (pc := 155) (x2 := 3) (L2 := [.ref 65, .int 3]) d_X1_init_155 (by decide) rfl zc_i_1 (by decide +kernel) rfl ?_
  refine zv_goto (pc := 158) (tg := 136) d_X1_init_158 (by decide) ?_
  refine zv_iload_n (pc := 136) d_X1_init_136 rfl ?_
  refine zv_bipush (pc := 137) d_X1_init_137 zc_b_6 ?_
  refine zv_icmp_ge (pc := 139) (tg := 161) d_X1_init_139 (by decide) (fun q => absurd q (by decide +kernel)) (fun _ => ?_)
  refine zv_aload_n (pc := 142) d_X1_init_142 rfl ?_
  refine kx_getR (pc := 143) (o := 65) (v := 67) d_X1_init_143 lk_CutStones_House_23 (by decide) ⟨by decide, by decide⟩ (by decide +kernel) rfl (by decide) ?_
  refine zv_iload_n (pc := 146) d_X1_init_146 rfl ?_
  refine kx_new (pc := 147) (c := 0) d_X1_init_147 rfl ⟨(zw_mG (List.mem_of_getElem? (i := 167) (by decide +kernel)) rfl), (zw_mG (List.mem_of_getElem? (i := 191) (by decide +kernel)) rfl), (zw_mG (List.mem_of_getElem? (i := 101) (by decide +kernel)) rfl)⟩ (by decide) rfl hZ ⟨by decide, by decide⟩ (by decide) (by decide +kernel) ?_
  have hZ := hZ.up
  refine zv_dup (pc := 150) d_X1_init_150 rfl ?_
  refine zv_callIN (pc := 151) (As := []) (o := 92) (st := [.ref 92, .int 3, .ref 67]) (d2 := 1) (mc2 := 1) (ms2 := 144) (M2 := M_X0_init) (R2 := fun r T => r = none ∧ T = kS_X0_init_92 (zw_pR (kS_X0_init_90 (zw_pR (kS_X0_init_88 (zw_pR (kS_X0_init_86 (zw_pR (kS_X7_init_83 (zw_pR (kS_X7_init_80 (zw_pR (kS_X7_init_77 (zw_pR (kS_X7_init_74 (zw_pI (zw_pR (zw_pR (zw_pI (zw_pR (zw_pI (zw_pR (zw_pI (zw_pR (zw_pI (zw_pR (zw_pI (zw_pR (zw_pI (zw_pR S 65 0 66) 65 1 0) 65 2 67) 65 3 0) 65 4 68) 65 5 0) 65 6 69) 65 7 0) 65 8 70) 65 9 0) 65 10 71) 65 11 0) 65 12 72) 65 13 73) 65 14 0)) 66 0 74)) 66 1 77)) 66 2 80)) 66 3 83)) 67 0 86)) 67 1 88)) 67 2 90)) d_X1_init_151 (by decide +kernel) ce_X0_init (Nat.le_of_ble_eq_true rfl) rfl (Nat.le_of_ble_eq_true rfl) (by decide) ⟨by decide, by decide⟩ (by decide) (k_X0_init_92 hZ ⟨rfl, rfl⟩) ?_
  rintro _ _ ⟨rfl, rfl⟩
  have hZ := kZ_X0_init_92 hZ
  show zw_V X M_X1_init 2 56 2672 65 P (151 + 3) 28 1712 [.ref 65, .int 3] [.ref 92, .int 3, .ref 67] (kS_X0_init_92 (zw_pR (kS_X0_init_90 (zw_pR (kS_X0_init_88 (zw_pR (kS_X0_init_86 (zw_pR (kS_X7_init_83 (zw_pR (kS_X7_init_80 (zw_pR (kS_X7_init_77 (zw_pR (kS_X7_init_74 (zw_pI (zw_pR (zw_pR (zw_pI (zw_pR (zw_pI (zw_pR (zw_pI (zw_pR (zw_pI (zw_pR (zw_pI (zw_pR (zw_pI (zw_pR S 65 0 66) 65 1 0) 65 2 67) 65 3 0) 65 4 68) 65 5 0) 65 6 69) 65 7 0) 65 8 70) 65 9 0) 65 10 71) 65 11 0) 65 12 72) 65 13 73) 65 14 0)) 66 0 74)) 66 1 77)) 66 2 80)) 66 3 83)) 67 0 86)) 67 1 88)) 67 2 90))
  refine kx_aast (pc := 154) (o := 67) (κ := 16) (j := 3) d_X1_init_154 ⟨by decide, by decide⟩ (by decide +kernel) (by decide) (by decide +kernel) (by decide +kernel) ⟨by decide, by decide⟩ (by decide +kernel) ?_
  have hZ := hZ.pR (o := 67) (j := 3) (v := 92) (by decide)
  refine kx_iinc (pc := 155) (x2 := 4) (L2 := [.ref 65, .int 4]) d_X1_init_155 (by decide) rfl zc_i_1 (by decide +kernel) rfl ?_
  refine zv_goto (pc := 158) (tg := 136) d_X1_init_158 (by decide) ?_
  refine zv_iload_n (pc := 136) d_X1_init_136 rfl ?_
  refine zv_bipush (pc := 137) d_X1_init_137 zc_b_6 ?_
  refine zv_icmp_ge (pc := 139) (tg := 161) d_X1_init_139 (by decide) (fun q => absurd q (by decide +kernel)) (fun _ => ?_)
  refine zv_aload_n (pc := 142) d_X1_init_142 rfl ?_
  refine kx_getR (pc := 143) (o := 65) (v := 67) d_X1_init_143 lk_CutStones_House_23 (by decide) ⟨by decide, by decide⟩ (by decide +kernel) rfl (by decide) ?_
  refine zv_iload_n (pc := 146) d_X1_init_146 rfl ?_
  refine kx_new (pc := 147) (c := 0) d_X1_init_147 rfl ⟨(zw_mG (List.mem_of_getElem? (i := 167) (by decide +kernel)) rfl), (zw_mG (List.mem_of_getElem? (i := 191) (by decide +kernel)) rfl), (zw_mG (List.mem_of_getElem? (i := 101) (by decide +kernel)) rfl)⟩ (by decide) rfl hZ ⟨by decide, by decide⟩ (by decide) (by decide +kernel) ?_
  have hZ := hZ.up
  refine zv_dup (pc := 150) d_X1_init_150 rfl ?_
  refine zv_callIN (pc := 151) (As := []) (o := 94) (st := [.ref 94, .int 4, .ref 67]) (d2 := 1) (mc2 := 1) (ms2 := 144) (M2 := M_X0_init) (R2 := fun r T => r = none ∧ T = kS_X0_init_94 (zw_pR (kS_X0_init_92 (zw_pR (kS_X0_init_90 (zw_pR (kS_X0_init_88 (zw_pR (kS_X0_init_86 (zw_pR (kS_X7_init_83 (zw_pR (kS_X7_init_80 (zw_pR (kS_X7_init_77 (zw_pR (kS_X7_init_74 (zw_pI (zw_pR (zw_pR (zw_pI (zw_pR (zw_pI (zw_pR (zw_pI (zw_pR (zw_pI (zw_pR (zw_pI (zw_pR (zw_pI (zw_pR S 65 0 66) 65 1 0) 65 2 67) 65 3 0) 65 4 68) 65 5 0) 65 6 69) 65 7 0) 65 8 70) 65 9 0) 65 10 71) 65 11 0) 65 12 72) 65 13 73) 65 14 0)) 66 0 74)) 66 1 77)) 66 2 80)) 66 3 83)) 67 0 86)) 67 1 88)) 67 2 90)) 67 3 92)) d_X1_init_151 (by decide +kernel) ce_X0_init (Nat.le_of_ble_eq_true rfl) rfl (Nat.le_of_ble_eq_true rfl) (by decide) ⟨by decide, by decide⟩ (by decide) (k_X0_init_94 hZ ⟨rfl, rfl⟩) ?_
  rintro _ _ ⟨rfl, rfl⟩
  have hZ := kZ_X0_init_94 hZ
  show zw_V X M_X1_init 2 56 2672 65 P (151 + 3) 30 1864 [.ref 65, .int 4] [.ref 94, .int 4, .ref 67] (kS_X0_init_94 (zw_pR (kS_X0_init_92 (zw_pR (kS_X0_init_90 (zw_pR (kS_X0_init_88 (zw_pR (kS_X0_init_86 (zw_pR (kS_X7_init_83 (zw_pR (kS_X7_init_80 (zw_pR (kS_X7_init_77 (zw_pR (kS_X7_init_74 (zw_pI (zw_pR (zw_pR (zw_pI (zw_pR (zw_pI (zw_pR (zw_pI (zw_pR (zw_pI (zw_pR (zw_pI (zw_pR (zw_pI (zw_pR S 65 0 66) 65 1 0) 65 2 67) 65 3 0) 65 4 68) 65 5 0) 65 6 69) 65 7 0) 65 8 70) 65 9 0) 65 10 71) 65 11 0) 65 12 72) 65 13 73) 65 14 0)) 66 0 74)) 66 1 77)) 66 2 80)) 66 3 83)) 67 0 86)) 67 1 88)) 67 2 90)) 67 3 92))
  refine kx_aast (pc := 154) (o := 67) (κ := 16) (j := 4) d_X1_init_154 ⟨by decide, by decide⟩ (by decide +kernel) (by decide) (by decide +kernel) (by decide +kernel) ⟨by decide, by decide⟩ (by decide +kernel) ?_
  have hZ := hZ.pR (o := 67) (j := 4) (v := 94) (by decide)
  refine kx_iinc (pc := 155) (x2 := 5) (L2 := [.ref 65, .int 5]) d_X1_init_155 (by decide) rfl zc_i_1 (by decide +kernel) rfl ?_
  refine zv_goto (pc := 158) (tg := 136) d_X1_init_158 (by decide) ?_
  refine zv_iload_n (pc := 136) d_X1_init_136 rfl ?_
  refine zv_bipush (pc := 137) d_X1_init_137 zc_b_6 ?_
  refine zv_icmp_ge (pc := 139) (tg := 161) d_X1_init_139 (by decide) (fun q => absurd q (by decide +kernel)) (fun _ => ?_)
  refine zv_aload_n (pc := 142) d_X1_init_142 rfl ?_
  refine kx_getR (pc := 143) (o := 65) (v := 67) d_X1_init_143 lk_CutStones_House_23 (by decide) ⟨by decide, by decide⟩ (by decide +kernel) rfl (by decide) ?_
  refine zv_iload_n (pc := 146) d_X1_init_146 rfl ?_
  refine kx_new (pc := 147) (c := 0) d_X1_init_147 rfl ⟨(zw_mG (List.mem_of_getElem? (i := 167) (by decide +kernel)) rfl), (zw_mG (List.mem_of_getElem? (i := 191) (by decide +kernel)) rfl), (zw_mG (List.mem_of_getElem? (i := 101) (by decide +kernel)) rfl)⟩ (by decide) rfl hZ ⟨by decide, by decide⟩ (by decide) (by decide +kernel) ?_
  have hZ := hZ.up
  refine zv_dup (pc := 150) d_X1_init_150 rfl ?_
  refine zv_callIN (pc := 151) (As := []) (o := 96) (st := [.ref 96, .int 5, .ref 67]) (d2 := 1) (mc2 := 1) (ms2 := 144) (M2 := M_X0_init) (R2 := fun r T => r = none ∧ T = kS_X0_init_96 (zw_pR (kS_X0_init_94 (zw_pR (kS_X0_init_92 (zw_pR (kS_X0_init_90 (zw_pR (kS_X0_init_88 (zw_pR (kS_X0_init_86 (zw_pR (kS_X7_init_83 (zw_pR (kS_X7_init_80 (zw_pR (kS_X7_init_77 (zw_pR (kS_X7_init_74 (zw_pI (zw_pR (zw_pR (zw_pI (zw_pR (zw_pI (zw_pR (zw_pI (zw_pR (zw_pI (zw_pR (zw_pI (zw_pR (zw_pI (zw_pR S 65 0 66) 65 1 0) 65 2 67) 65 3 0) 65 4 68) 65 5 0) 65 6 69) 65 7 0) 65 8 70) 65 9 0) 65 10 71) 65 11 0) 65 12 72) 65 13 73) 65 14 0)) 66 0 74)) 66 1 77)) 66 2 80)) 66 3 83)) 67 0 86)) 67 1 88)) 67 2 90)) 67 3 92)) 67 4 94)) d_X1_init_151 (by decide +kernel) ce_X0_init (Nat.le_of_ble_eq_true rfl) rfl (Nat.le_of_ble_eq_true rfl) (by decide) ⟨by decide, by decide⟩ (by decide) (k_X0_init_96 hZ ⟨rfl, rfl⟩) ?_
  rintro _ _ ⟨rfl, rfl⟩
  have hZ := kZ_X0_init_96 hZ
  show zw_V X M_X1_init 2 56 2672 65 P (151 + 3) 32 2016 [.ref 65, .int 5] [.ref 96, .int 5, .ref 67] (kS_X0_init_96 (zw_pR (kS_X0_init_94 (zw_pR (kS_X0_init_92 (zw_pR (kS_X0_init_90 (zw_pR (kS_X0_init_88 (zw_pR (kS_X0_init_86 (zw_pR (kS_X7_init_83 (zw_pR (kS_X7_init_80 (zw_pR (kS_X7_init_77 (zw_pR (kS_X7_init_74 (zw_pI (zw_pR (zw_pR (zw_pI (zw_pR (zw_pI (zw_pR (zw_pI (zw_pR (zw_pI (zw_pR (zw_pI (zw_pR (zw_pI (zw_pR S 65 0 66) 65 1 0) 65 2 67) 65 3 0) 65 4 68) 65 5 0) 65 6 69) 65 7 0) 65 8 70) 65 9 0) 65 10 71) 65 11 0) 65 12 72) 65 13 73) 65 14 0)) 66 0 74)) 66 1 77)) 66 2 80)) 66 3 83)) 67 0 86)) 67 1 88)) 67 2 90)) 67 3 92)) 67 4 94))
  refine kx_aast (pc := 154) (o := 67) (κ := 16) (j := 5) d_X1_init_154 ⟨by decide, by decide⟩ (by decide +kernel) (by decide) (by decide +kernel) (by decide +kernel) ⟨by decide, by decide⟩ (by decide +kernel) ?_
  have hZ := hZ.pR (o := 67) (j := 5) (v := 96) (by decide)
  refine kx_iinc (pc := 155) (x2 := 6) (L2 := [.ref 65, .int 6]) d_X1_init_155 (by decide) rfl zc_i_1 (by decide +kernel) rfl ?_
  refine zv_goto (pc := 158) (tg := 136) d_X1_init_158 (by decide) ?_
  refine zv_iload_n (pc := 136) d_X1_init_136 rfl ?_
  refine zv_bipush (pc := 137) d_X1_init_137 zc_b_6 ?_
  refine zv_icmp_ge (pc := 139) (tg := 161) d_X1_init_139 (by decide) (fun _ => ?_) (fun q => absurd (by decide +kernel) q)
  refine zv_iconst (pc := 161) d_X1_init_161 zc_i_0 ?_
  refine kx_istore_n (pc := 162) (L2 := [.ref 65, .int 0]) d_X1_init_162 (by decide) rfl ?_
  refine zv_iload_n (pc := 163) d_X1_init_163 rfl ?_
  refine zv_iconst (pc := 164) d_X1_init_164 zc_i_4 ?_
  refine zv_icmp_ge (pc := 165) (tg := 187) d_X1_init_165 (by decide) (fun q => absurd q (by decide +kernel)) (fun _ => ?_)
  refine zv_aload_n (pc := 168) d_X1_init_168 rfl ?_
  refine kx_getR (pc := 169) (o := 65) (v := 68) d_X1_init_169 lk_CutStones_House_30 (by decide) ⟨by decide, by decide⟩ (by decide +kernel) rfl (by decide) ?_
  refine zv_iload_n (pc := 172) d_X1_init_172 rfl ?_
  refine kx_new (pc := 173) (c := 0) d_X1_init_173 rfl ⟨(zw_mG (List.mem_of_getElem? (i := 167) (by decide +kernel)) rfl), (zw_mG (List.mem_of_getElem? (i := 191) (by decide +kernel)) rfl), (zw_mG (List.mem_of_getElem? (i := 101) (by decide +kernel)) rfl)⟩ (by decide) rfl hZ ⟨by decide, by decide⟩ (by decide) (by decide +kernel) ?_
  have hZ := hZ.up
  refine zv_dup (pc := 176) d_X1_init_176 rfl ?_
  refine zv_callIN (pc := 177) (As := []) (o := 98) (st := [.ref 98, .int 0, .ref 68]) (d2 := 1) (mc2 := 1) (ms2 := 144) (M2 := M_X0_init) (R2 := fun r T => r = none ∧ T = kS_X0_init_98 (zw_pR (kS_X0_init_96 (zw_pR (kS_X0_init_94 (zw_pR (kS_X0_init_92 (zw_pR (kS_X0_init_90 (zw_pR (kS_X0_init_88 (zw_pR (kS_X0_init_86 (zw_pR (kS_X7_init_83 (zw_pR (kS_X7_init_80 (zw_pR (kS_X7_init_77 (zw_pR (kS_X7_init_74 (zw_pI (zw_pR (zw_pR (zw_pI (zw_pR (zw_pI (zw_pR (zw_pI (zw_pR (zw_pI (zw_pR (zw_pI (zw_pR (zw_pI (zw_pR S 65 0 66) 65 1 0) 65 2 67) 65 3 0) 65 4 68) 65 5 0) 65 6 69) 65 7 0) 65 8 70) 65 9 0) 65 10 71) 65 11 0) 65 12 72) 65 13 73) 65 14 0)) 66 0 74)) 66 1 77)) 66 2 80)) 66 3 83)) 67 0 86)) 67 1 88)) 67 2 90)) 67 3 92)) 67 4 94)) 67 5 96)) d_X1_init_177 (by decide +kernel) ce_X0_init (Nat.le_of_ble_eq_true rfl) rfl (Nat.le_of_ble_eq_true rfl) (by decide) ⟨by decide, by decide⟩ (by decide) (k_X0_init_98 hZ ⟨rfl, rfl⟩) ?_
  rintro _ _ ⟨rfl, rfl⟩
  have hZ := kZ_X0_init_98 hZ
  show zw_V X M_X1_init 2 56 2672 65 P (177 + 3) 34 2168 [.ref 65, .int 0] [.ref 98, .int 0, .ref 68] (kS_X0_init_98 (zw_pR (kS_X0_init_96 (zw_pR (kS_X0_init_94 (zw_pR (kS_X0_init_92 (zw_pR (kS_X0_init_90 (zw_pR (kS_X0_init_88 (zw_pR (kS_X0_init_86 (zw_pR (kS_X7_init_83 (zw_pR (kS_X7_init_80 (zw_pR (kS_X7_init_77 (zw_pR (kS_X7_init_74 (zw_pI (zw_pR (zw_pR (zw_pI (zw_pR (zw_pI (zw_pR (zw_pI (zw_pR (zw_pI (zw_pR (zw_pI (zw_pR (zw_pI (zw_pR S 65 0 66) 65 1 0) 65 2 67) 65 3 0) 65 4 68) 65 5 0) 65 6 69) 65 7 0) 65 8 70) 65 9 0) 65 10 71) 65 11 0) 65 12 72) 65 13 73) 65 14 0)) 66 0 74)) 66 1 77)) 66 2 80)) 66 3 83)) 67 0 86)) 67 1 88)) 67 2 90)) 67 3 92)) 67 4 94)) 67 5 96))
  refine kx_aast (pc := 180) (o := 68) (κ := 16) (j := 0) d_X1_init_180 ⟨by decide, by decide⟩ (by decide +kernel) (by decide) (by decide +kernel) (by decide +kernel) ⟨by decide, by decide⟩ (by decide +kernel) ?_
  have hZ := hZ.pR (o := 68) (j := 0) (v := 98) (by decide)
  refine kx_iinc (pc := 181) (x2 := 1) (L2 := [.ref 65, .int 1]) d_X1_init_181 (by decide) rfl zc_i_1 (by decide +kernel) rfl ?_
  refine zv_goto (pc := 184) (tg := 163) d_X1_init_184 (by decide) ?_
  refine zv_iload_n (pc := 163) d_X1_init_163 rfl ?_
  refine zv_iconst (pc := 164) d_X1_init_164 zc_i_4 ?_
  refine zv_icmp_ge (pc := 165) (tg := 187) d_X1_init_165 (by decide) (fun q => absurd q (by decide +kernel)) (fun _ => ?_)
  refine zv_aload_n (pc := 168) d_X1_init_168 rfl ?_
  refine kx_getR (pc := 169) (o := 65) (v := 68) d_X1_init_169 lk_CutStones_House_30 (by decide) ⟨by decide, by decide⟩ (by decide +kernel) rfl (by decide) ?_
  refine zv_iload_n (pc := 172) d_X1_init_172 rfl ?_
  refine kx_new (pc := 173) (c := 0) d_X1_init_173 rfl ⟨(zw_mG (List.mem_of_getElem? (i := 167) (by decide +kernel)) rfl), (zw_mG (List.mem_of_getElem? (i := 191) (by decide +kernel)) rfl), (zw_mG (List.mem_of_getElem? (i := 101) (by decide +kernel)) rfl)⟩ (by decide) rfl hZ ⟨by decide, by decide⟩ (by decide) (by decide +kernel) ?_
  have hZ := hZ.up
  refine zv_dup (pc := 176) d_X1_init_176 rfl ?_
  refine zv_callIN (pc := 177) (As := []) (o := 100) (st := [.ref 100, .int 1, .ref 68]) (d2 := 1) (mc2 := 1) (ms2 := 144) (M2 := M_X0_init) (R2 := fun r T => r = none ∧ T = kS_X0_init_100 (zw_pR (kS_X0_init_98 (zw_pR (kS_X0_init_96 (zw_pR (kS_X0_init_94 (zw_pR (kS_X0_init_92 (zw_pR (kS_X0_init_90 (zw_pR (kS_X0_init_88 (zw_pR (kS_X0_init_86 (zw_pR (kS_X7_init_83 (zw_pR (kS_X7_init_80 (zw_pR (kS_X7_init_77 (zw_pR (kS_X7_init_74 (zw_pI (zw_pR (zw_pR (zw_pI (zw_pR (zw_pI (zw_pR (zw_pI (zw_pR (zw_pI (zw_pR (zw_pI (zw_pR (zw_pI (zw_pR S 65 0 66) 65 1 0) 65 2 67) 65 3 0) 65 4 68) 65 5 0) 65 6 69) 65 7 0) 65 8 70) 65 9 0) 65 10 71) 65 11 0) 65 12 72) 65 13 73) 65 14 0)) 66 0 74)) 66 1 77)) 66 2 80)) 66 3 83)) 67 0 86)) 67 1 88)) 67 2 90)) 67 3 92)) 67 4 94)) 67 5 96)) 68 0 98)) d_X1_init_177 (by decide +kernel) ce_X0_init (Nat.le_of_ble_eq_true rfl) rfl (Nat.le_of_ble_eq_true rfl) (by decide) ⟨by decide, by decide⟩ (by decide) (k_X0_init_100 hZ ⟨rfl, rfl⟩) ?_
  rintro _ _ ⟨rfl, rfl⟩
  have hZ := kZ_X0_init_100 hZ
  show zw_V X M_X1_init 2 56 2672 65 P (177 + 3) 36 2320 [.ref 65, .int 1] [.ref 100, .int 1, .ref 68] (kS_X0_init_100 (zw_pR (kS_X0_init_98 (zw_pR (kS_X0_init_96 (zw_pR (kS_X0_init_94 (zw_pR (kS_X0_init_92 (zw_pR (kS_X0_init_90 (zw_pR (kS_X0_init_88 (zw_pR (kS_X0_init_86 (zw_pR (kS_X7_init_83 (zw_pR (kS_X7_init_80 (zw_pR (kS_X7_init_77 (zw_pR (kS_X7_init_74 (zw_pI (zw_pR (zw_pR (zw_pI (zw_pR (zw_pI (zw_pR (zw_pI (zw_pR (zw_pI (zw_pR (zw_pI (zw_pR (zw_pI (zw_pR S 65 0 66) 65 1 0) 65 2 67) 65 3 0) 65 4 68) 65 5 0) 65 6 69) 65 7 0) 65 8 70) 65 9 0) 65 10 71) 65 11 0) 65 12 72) 65 13 73) 65 14 0)) 66 0 74)) 66 1 77)) 66 2 80)) 66 3 83)) 67 0 86)) 67 1 88)) 67 2 90)) 67 3 92)) 67 4 94)) 67 5 96)) 68 0 98))
  refine kx_aast (pc := 180) (o := 68) (κ := 16) (j := 1) d_X1_init_180 ⟨by decide, by decide⟩ (by decide +kernel) (by decide) (by decide +kernel) (by decide +kernel) ⟨by decide, by decide⟩ (by decide +kernel) ?_
  have hZ := hZ.pR (o := 68) (j := 1) (v := 100) (by decide)
  refine kx_iinc (pc := 181) (x2 := 2) (L2 := [.ref 65, .int 2]) d_X1_init_181 (by decide) rfl zc_i_1 (by decide +kernel) rfl ?_
  refine zv_goto (pc := 184) (tg := 163) d_X1_init_184 (by decide) ?_
  refine zv_iload_n (pc := 163) d_X1_init_163 rfl ?_
  refine zv_iconst (pc := 164) d_X1_init_164 zc_i_4 ?_
  refine zv_icmp_ge (pc := 165) (tg := 187) d_X1_init_165 (by decide) (fun q => absurd q (by decide +kernel)) (fun _ => ?_)
  refine zv_aload_n (pc := 168) d_X1_init_168 rfl ?_
  refine kx_getR (pc := 169) (o := 65) (v := 68) d_X1_init_169 lk_CutStones_House_30 (by decide) ⟨by decide, by decide⟩ (by decide +kernel) rfl (by decide) ?_
  refine zv_iload_n (pc := 172) d_X1_init_172 rfl ?_
  refine kx_new (pc := 173) (c := 0) d_X1_init_173 rfl ⟨(zw_mG (List.mem_of_getElem? (i := 167) (by decide +kernel)) rfl), (zw_mG (List.mem_of_getElem? (i := 191) (by decide +kernel)) rfl), (zw_mG (List.mem_of_getElem? (i := 101) (by decide +kernel)) rfl)⟩ (by decide) rfl hZ ⟨by decide, by decide⟩ (by decide) (by decide +kernel) ?_
  have hZ := hZ.up
  refine zv_dup (pc := 176) d_X1_init_176 rfl ?_
  refine zv_callIN (pc := 177) (As := []) (o := 102) (st := [.ref 102, .int 2, .ref 68]) (d2 := 1) (mc2 := 1) (ms2 := 144) (M2 := M_X0_init) (R2 := fun r T => r = none ∧ T = kS_X0_init_102 (zw_pR (kS_X0_init_100 (zw_pR (kS_X0_init_98 (zw_pR (kS_X0_init_96 (zw_pR (kS_X0_init_94 (zw_pR (kS_X0_init_92 (zw_pR (kS_X0_init_90 (zw_pR (kS_X0_init_88 (zw_pR (kS_X0_init_86 (zw_pR (kS_X7_init_83 (zw_pR (kS_X7_init_80 (zw_pR (kS_X7_init_77 (zw_pR (kS_X7_init_74 (zw_pI (zw_pR (zw_pR (zw_pI (zw_pR (zw_pI (zw_pR (zw_pI (zw_pR (zw_pI (zw_pR (zw_pI (zw_pR (zw_pI (zw_pR S 65 0 66) 65 1 0) 65 2 67) 65 3 0) 65 4 68) 65 5 0) 65 6 69) 65 7 0) 65 8 70) 65 9 0) 65 10 71) 65 11 0) 65 12 72) 65 13 73) 65 14 0)) 66 0 74)) 66 1 77)) 66 2 80)) 66 3 83)) 67 0 86)) 67 1 88)) 67 2 90)) 67 3 92)) 67 4 94)) 67 5 96)) 68 0 98)) 68 1 100)) d_X1_init_177 (by decide +kernel) ce_X0_init (Nat.le_of_ble_eq_true rfl) rfl (Nat.le_of_ble_eq_true rfl) (by decide) ⟨by decide, by decide⟩ (by decide) (k_X0_init_102 hZ ⟨rfl, rfl⟩) ?_
  rintro _ _ ⟨rfl, rfl⟩
  have hZ := kZ_X0_init_102 hZ
  show zw_V X M_X1_init 2 56 2672 65 P (177 + 3) 38 2472 [.ref 65, .int 2] [.ref 102, .int 2, .ref 68] (kS_X0_init_102 (zw_pR (kS_X0_init_100 (zw_pR (kS_X0_init_98 (zw_pR (kS_X0_init_96 (zw_pR (kS_X0_init_94 (zw_pR (kS_X0_init_92 (zw_pR (kS_X0_init_90 (zw_pR (kS_X0_init_88 (zw_pR (kS_X0_init_86 (zw_pR (kS_X7_init_83 (zw_pR (kS_X7_init_80 (zw_pR (kS_X7_init_77 (zw_pR (kS_X7_init_74 (zw_pI (zw_pR (zw_pR (zw_pI (zw_pR (zw_pI (zw_pR (zw_pI (zw_pR (zw_pI (zw_pR (zw_pI (zw_pR (zw_pI (zw_pR S 65 0 66) 65 1 0) 65 2 67) 65 3 0) 65 4 68) 65 5 0) 65 6 69) 65 7 0) 65 8 70) 65 9 0) 65 10 71) 65 11 0) 65 12 72) 65 13 73) 65 14 0)) 66 0 74)) 66 1 77)) 66 2 80)) 66 3 83)) 67 0 86)) 67 1 88)) 67 2 90)) 67 3 92)) 67 4 94)) 67 5 96)) 68 0 98)) 68 1 100))
  refine kx_aast (pc := 180) (o := 68) (κ := 16) (j := 2) d_X1_init_180 ⟨by decide, by decide⟩ (by decide +kernel) (by decide) (by decide +kernel) (by decide +kernel) ⟨by decide, by decide⟩ (by decide +kernel) ?_
  have hZ := hZ.pR (o := 68) (j := 2) (v := 102) (by decide)
  refine kx_iinc (pc := 181) (x2 := 3) (L2 := [.ref 65, .int 3]) d_X1_init_181 (by decide) rfl zc_i_1 (by decide +kernel) rfl ?_
  refine zv_goto (pc := 184) (tg := 163) d_X1_init_184 (by decide) ?_
  refine zv_iload_n (pc := 163) d_X1_init_163 rfl ?_
  refine zv_iconst (pc := 164) d_X1_init_164 zc_i_4 ?_
  refine zv_icmp_ge (pc := 165) (tg := 187) d_X1_init_165 (by decide) (fun q => absurd q (by decide +kernel)) (fun _ => ?_)
  refine zv_aload_n (pc := 168) d_X1_init_168 rfl ?_
  refine kx_getR (pc := 169) (o := 65) (v := 68) d_X1_init_169 lk_CutStones_House_30 (by decide) ⟨by decide, by decide⟩ (by decide +kernel) rfl (by decide) ?_
  refine zv_iload_n (pc := 172) d_X1_init_172 rfl ?_
  refine kx_new (pc := 173) (c := 0) d_X1_init_173 rfl ⟨(zw_mG (List.mem_of_getElem? (i := 167) (by decide +kernel)) rfl), (zw_mG (List.mem_of_getElem? (i := 191) (by decide +kernel)) rfl), (zw_mG (List.mem_of_getElem? (i := 101) (by decide +kernel)) rfl)⟩ (by decide) rfl hZ ⟨by decide, by decide⟩ (by decide) (by decide +kernel) ?_
  have hZ := hZ.up
  refine zv_dup (pc := 176) d_X1_init_176 rfl ?_
  refine zv_callIN (pc := 177) (As := []) (o := 104) (st := [.ref 104, .int 3, .ref 68]) (d2 := 1) (mc2 := 1) (ms2 := 144) (M2 := M_X0_init) (R2 := fun r T => r = none ∧ T = kS_X0_init_104 (zw_pR (kS_X0_init_102 (zw_pR (kS_X0_init_100 (zw_pR (kS_X0_init_98 (zw_pR (kS_X0_init_96 (zw_pR (kS_X0_init_94 (zw_pR (kS_X0_init_92 (zw_pR (kS_X0_init_90 (zw_pR (kS_X0_init_88 (zw_pR (kS_X0_init_86 (zw_pR (kS_X7_init_83 (zw_pR (kS_X7_init_80 (zw_pR (kS_X7_init_77 (zw_pR (kS_X7_init_74 (zw_pI (zw_pR (zw_pR (zw_pI (zw_pR (zw_pI (zw_pR (zw_pI (zw_pR (zw_pI (zw_pR (zw_pI (zw_pR (zw_pI (zw_pR S 65 0 66) 65 1 0) 65 2 67) 65 3 0) 65 4 68) 65 5 0) 65 6 69) 65 7 0) 65 8 70) 65 9 0) 65 10 71) 65 11 0) 65 12 72) 65 13 73) 65 14 0)) 66 0 74)) 66 1 77)) 66 2 80)) 66 3 83)) 67 0 86)) 67 1 88)) 67 2 90)) 67 3 92)) 67 4 94)) 67 5 96)) 68 0 98)) 68 1 100)) 68 2 102)) d_X1_init_177 (by decide +kernel) ce_X0_init (Nat.le_of_ble_eq_true rfl) rfl (Nat.le_of_ble_eq_true rfl) (by decide) ⟨by decide, by decide⟩ (by decide) (k_X0_init_104 hZ ⟨rfl, rfl⟩) ?_
  rintro _ _ ⟨rfl, rfl⟩
  have hZ := kZ_X0_init_104 hZ
  show zw_V X M_X1_init 2 56 2672 65 P (177 + 3) 40 2624 [.ref 65, .int 3] [.ref 104, .int 3, .ref 68] (kS_X0_init_104 (zw_pR (kS_X0_init_102 (zw_pR (kS_X0_init_100 (zw_pR (kS_X0_init_98 (zw_pR (kS_X0_init_96 (zw_pR (kS_X0_init_94 (zw_pR (kS_X0_init_92 (zw_pR (kS_X0_init_90 (zw_pR (kS_X0_init_88 (zw_pR (kS_X0_init_86 (zw_pR (kS_X7_init_83 (zw_pR (kS_X7_init_80 (zw_pR (kS_X7_init_77 (zw_pR (kS_X7_init_74 (zw_pI (zw_pR (zw_pR (zw_pI (zw_pR (zw_pI (zw_pR (zw_pI (zw_pR (zw_pI (zw_pR (zw_pI (zw_pR (zw_pI (zw_pR S 65 0 66) 65 1 0) 65 2 67) 65 3 0) 65 4 68) 65 5 0) 65 6 69) 65 7 0) 65 8 70) 65 9 0) 65 10 71) 65 11 0) 65 12 72) 65 13 73) 65 14 0)) 66 0 74)) 66 1 77)) 66 2 80)) 66 3 83)) 67 0 86)) 67 1 88)) 67 2 90)) 67 3 92)) 67 4 94)) 67 5 96)) 68 0 98)) 68 1 100)) 68 2 102))
  refine kx_aast (pc := 180) (o := 68) (κ := 16) (j := 3) d_X1_init_180 ⟨by decide, by decide⟩ (by decide +kernel) (by decide) (by decide +kernel) (by decide +kernel) ⟨by decide, by decide⟩ (by decide +kernel) ?_
  have hZ := hZ.pR (o := 68) (j := 3) (v := 104) (by decide)
  refine kx_iinc (pc := 181) (x2 := 4) (L2 := [.ref 65, .int 4]) d_X1_init_181 (by decide) rfl zc_i_1 (by decide +kernel) rfl ?_
  refine zv_goto (pc := 184) (tg := 163) d_X1_init_184 (by decide) ?_
  refine zv_iload_n (pc := 163) d_X1_init_163 rfl ?_
  refine zv_iconst (pc := 164) d_X1_init_164 zc_i_4 ?_
  refine zv_icmp_ge (pc := 165) (tg := 187) d_X1_init_165 (by decide) (fun _ => ?_) (fun q => absurd (by decide +kernel) q)
  refine zv_iconst (pc := 187) d_X1_init_187 zc_i_0 ?_
  refine kx_istore_n (pc := 188) (L2 := [.ref 65, .int 0]) d_X1_init_188 (by decide) rfl ?_
  refine zv_iload_n (pc := 189) d_X1_init_189 rfl ?_
  refine zv_bipush (pc := 190) d_X1_init_190 zc_b_8 ?_
  refine zv_icmp_ge (pc := 192) (tg := 214) d_X1_init_192 (by decide) (fun q => absurd q (by decide +kernel)) (fun _ => ?_)
  refine zv_aload_n (pc := 195) d_X1_init_195 rfl ?_
  refine kx_getR (pc := 196) (o := 65) (v := 69) d_X1_init_196 lk_CutStones_House_38 (by decide) ⟨by decide, by decide⟩ (by decide +kernel) rfl (by decide) ?_
  refine zv_iload_n (pc := 199) d_X1_init_199 rfl ?_
  refine kx_new (pc := 200) (c := 5) d_X1_init_200 rfl ⟨(zw_mG (List.mem_of_getElem? (i := 169) (by decide +kernel)) rfl), (zw_mG (List.mem_of_getElem? (i := 234) (by decide +kernel)) rfl), (zw_mG (List.mem_of_getElem? (i := 102) (by decide +kernel)) rfl)⟩ (by decide) rfl hZ ⟨by decide, by decide⟩ (by decide) (by decide +kernel) ?_
  have hZ := hZ.up
  refine zv_dup (pc := 203) d_X1_init_203 rfl ?_
  refine zv_callIN (pc := 204) (As := []) (o := 106) (st := [.ref 106, .int 0, .ref 69]) (d2 := 1) (mc2 := 0) (ms2 := 0) (M2 := M_X5_init) (R2 := fun r T => r = none ∧ T = kS_X5_init_106 (zw_pR (kS_X0_init_104 (zw_pR (kS_X0_init_102 (zw_pR (kS_X0_init_100 (zw_pR (kS_X0_init_98 (zw_pR (kS_X0_init_96 (zw_pR (kS_X0_init_94 (zw_pR (kS_X0_init_92 (zw_pR (kS_X0_init_90 (zw_pR (kS_X0_init_88 (zw_pR (kS_X0_init_86 (zw_pR (kS_X7_init_83 (zw_pR (kS_X7_init_80 (zw_pR (kS_X7_init_77 (zw_pR (kS_X7_init_74 (zw_pI (zw_pR (zw_pR (zw_pI (zw_pR (zw_pI (zw_pR (zw_pI (zw_pR (zw_pI (zw_pR (zw_pI (zw_pR (zw_pI (zw_pR S 65 0 66) 65 1 0) 65 2 67) 65 3 0) 65 4 68) 65 5 0) 65 6 69) 65 7 0) 65 8 70) 65 9 0) 65 10 71) 65 11 0) 65 12 72) 65 13 73) 65 14 0)) 66 0 74)) 66 1 77)) 66 2 80)) 66 3 83)) 67 0 86)) 67 1 88)) 67 2 90)) 67 3 92)) 67 4 94)) 67 5 96)) 68 0 98)) 68 1 100)) 68 2 102)) 68 3 104)) d_X1_init_204 (by decide +kernel) ce_X5_init (Nat.le_of_ble_eq_true rfl) rfl (Nat.le_of_ble_eq_true rfl) (by decide) ⟨by decide, by decide⟩ (by decide) (k_X5_init_106 hZ ⟨rfl, rfl⟩) ?_
  rintro _ _ ⟨rfl, rfl⟩
  have hZ := kZ_X5_init_106 hZ
  show zw_V X M_X1_init 2 56 2672 65 P (204 + 3) 41 2627 [.ref 65, .int 0] [.ref 106, .int 0, .ref 69] (kS_X5_init_106 (zw_pR (kS_X0_init_104 (zw_pR (kS_X0_init_102 (zw_pR (kS_X0_init_100 (zw_pR (kS_X0_init_98 (zw_pR (kS_X0_init_96 (zw_pR (kS_X0_init_94 (zw_pR (kS_X0_init_92 (zw_pR (kS_X0_init_90 (zw_pR (kS_X0_init_88 (zw_pR (kS_X0_init_86 (zw_pR (kS_X7_init_83 (zw_pR (kS_X7_init_80 (zw_pR (kS_X7_init_77 (zw_pR (kS_X7_init_74 (zw_pI (zw_pR (zw_pR (zw_pI (zw_pR (zw_pI (zw_pR (zw_pI (zw_pR (zw_pI (zw_pR (zw_pI (zw_pR (zw_pI (zw_pR S 65 0 66) 65 1 0) 65 2 67) 65 3 0) 65 4 68) 65 5 0) 65 6 69) 65 7 0) 65 8 70) 65 9 0) 65 10 71) 65 11 0) 65 12 72) 65 13 73) 65 14 0)) 66 0 74)) 66 1 77)) 66 2 80)) 66 3 83)) 67 0 86)) 67 1 88)) 67 2 90)) 67 3 92)) 67 4 94)) 67 5 96)) 68 0 98)) 68 1 100)) 68 2 102)) 68 3 104))
  refine kx_aast (pc := 207) (o := 69) (κ := 17) (j := 0) d_X1_init_207 ⟨by decide, by decide⟩ (by decide +kernel) (by decide) (by decide +kernel) (by decide +kernel) ⟨by decide, by decide⟩ (by decide +kernel) ?_
  have hZ := hZ.pR (o := 69) (j := 0) (v := 106) (by decide)
  refine kx_iinc (pc := 208) (x2 := 1) (L2 := [.ref 65, .int 1]) d_X1_init_208 (by decide) rfl zc_i_1 (by decide +kernel) rfl ?_
  refine zv_goto (pc := 211) (tg := 189) d_X1_init_211 (by decide) ?_
  refine zv_iload_n (pc := 189) d_X1_init_189 rfl ?_
  refine zv_bipush (pc := 190) d_X1_init_190 zc_b_8 ?_
  refine zv_icmp_ge (pc := 192) (tg := 214) d_X1_init_192 (by decide) (fun q => absurd q (by decide +kernel)) (fun _ => ?_)
  refine zv_aload_n (pc := 195) d_X1_init_195 rfl ?_
  refine kx_getR (pc := 196) (o := 65) (v := 69) d_X1_init_196 lk_CutStones_House_38 (by decide) ⟨by decide, by decide⟩ (by decide +kernel) rfl (by decide) ?_
  refine zv_iload_n (pc := 199) d_X1_init_199 rfl ?_
  refine kx_new (pc := 200) (c := 5) d_X1_init_200 rfl ⟨(zw_mG (List.mem_of_getElem? (i := 169) (by decide +kernel)) rfl), (zw_mG (List.mem_of_getElem? (i := 234) (by decide +kernel)) rfl), (zw_mG (List.mem_of_getElem? (i := 102) (by decide +kernel)) rfl)⟩ (by decide) rfl hZ ⟨by decide, by decide⟩ (by decide) (by decide +kernel) ?_
  have hZ := hZ.up
  refine zv_dup (pc := 203) d_X1_init_203 rfl ?_
  refine zv_callIN (pc := 204) (As := []) (o := 107) (st := [.ref 107, .int 1, .ref 69]) (d2 := 1) (mc2 := 0) (ms2 := 0) (M2 := M_X5_init) (R2 := fun r T => r = none ∧ T = kS_X5_init_107 (zw_pR (kS_X5_init_106 (zw_pR (kS_X0_init_104 (zw_pR (kS_X0_init_102 (zw_pR (kS_X0_init_100 (zw_pR (kS_X0_init_98 (zw_pR (kS_X0_init_96 (zw_pR (kS_X0_init_94 (zw_pR (kS_X0_init_92 (zw_pR (kS_X0_init_90 (zw_pR (kS_X0_init_88 (zw_pR (kS_X0_init_86 (zw_pR (kS_X7_init_83 (zw_pR (kS_X7_init_80 (zw_pR (kS_X7_init_77 (zw_pR (kS_X7_init_74 (zw_pI (zw_pR (zw_pR (zw_pI (zw_pR (zw_pI (zw_pR (zw_pI (zw_pR (zw_pI (zw_pR (zw_pI (zw_pR (zw_pI (zw_pR S 65 0 66) 65 1 0) 65 2 67) 65 3 0) 65 4 68) 65 5 0) 65 6 69) 65 7 0) 65 8 70) 65 9 0) 65 10 71) 65 11 0) 65 12 72) 65 13 73) 65 14 0)) 66 0 74)) 66 1 77)) 66 2 80)) 66 3 83)) 67 0 86)) 67 1 88)) 67 2 90)) 67 3 92)) 67 4 94)) 67 5 96)) 68 0 98)) 68 1 100)) 68 2 102)) 68 3 104)) 69 0 106)) d_X1_init_204 (by decide +kernel) ce_X5_init (Nat.le_of_ble_eq_true rfl) rfl (Nat.le_of_ble_eq_true rfl) (by decide) ⟨by decide, by decide⟩ (by decide) (k_X5_init_107 hZ ⟨rfl, rfl⟩) ?_
  rintro _ _ ⟨rfl, rfl⟩
  have hZ := kZ_X5_init_107 hZ
  show zw_V X M_X1_init 2 56 2672 65 P (204 + 3) 42 2630 [.ref 65, .int 1] [.ref 107, .int 1, .ref 69] (kS_X5_init_107 (zw_pR (kS_X5_init_106 (zw_pR (kS_X0_init_104 (zw_pR (kS_X0_init_102 (zw_pR (kS_X0_init_100 (zw_pR (kS_X0_init_98 (zw_pR (kS_X0_init_96 (zw_pR (kS_X0_init_94 (zw_pR (kS_X0_init_92 (zw_pR (kS_X0_init_90 (zw_pR (kS_X0_init_88 (zw_pR (kS_X0_init_86 (zw_pR (kS_X7_init_83 (zw_pR (kS_X7_init_80 (zw_pR (kS_X7_init_77 (zw_pR (kS_X7_init_74 (zw_pI (zw_pR (zw_pR (zw_pI (zw_pR (zw_pI (zw_pR (zw_pI (zw_pR (zw_pI (zw_pR (zw_pI (zw_pR (zw_pI (zw_pR S 65 0 66) 65 1 0) 65 2 67) 65 3 0) 65 4 68) 65 5 0) 65 6 69) 65 7 0) 65 8 70) 65 9 0) 65 10 71) 65 11 0) 65 12 72) 65 13 73) 65 14 0)) 66 0 74)) 66 1 77)) 66 2 80)) 66 3 83)) 67 0 86)) 67 1 88)) 67 2 90)) 67 3 92)) 67 4 94)) 67 5 96)) 68 0 98)) 68 1 100)) 68 2 102)) 68 3 104)) 69 0 106))
  refine kx_aast (pc := 207) (o := 69) (κ := 17) (j := 1) d_X1_init_207 ⟨by decide, by decide⟩ (by decide +kernel) (by decide) (by decide +kernel) (by decide +kernel) ⟨by decide, by decide⟩ (by decide +kernel) ?_
  have hZ := hZ.pR (o := 69) (j := 1) (v := 107) (by decide)
  refine kx_iinc (pc := 208) (x2 := 2) (L2 := [.ref 65, .int 2]) d_X1_init_208 (by decide) rfl zc_i_1 (by decide +kernel) rfl ?_
  refine zv_goto (pc := 211) (tg := 189) d_X1_init_211 (by decide) ?_
  refine zv_iload_n (pc := 189) d_X1_init_189 rfl ?_
  refine zv_bipush (pc := 190) d_X1_init_190 zc_b_8 ?_
  refine zv_icmp_ge (pc := 192) (tg := 214) d_X1_init_192 (by decide) (fun q => absurd q (by decide +kernel)) (fun _ => ?_)
  refine zv_aload_n (pc := 195) d_X1_init_195 rfl ?_
  refine kx_getR (pc := 196) (o := 65) (v := 69) d_X1_init_196 lk_CutStones_House_38 (by decide) ⟨by decide, by decide⟩ (by decide +kernel) rfl (by decide) ?_
  refine zv_iload_n (pc := 199) d_X1_init_199 rfl ?_
  refine kx_new (pc := 200) (c := 5) d_X1_init_200 rfl ⟨(zw_mG (List.mem_of_getElem? (i := 169) (by decide +kernel)) rfl), (zw_mG (List.mem_of_getElem? (i := 234) (by decide +kernel)) rfl), (zw_mG (List.mem_of_getElem? (i := 102) (by decide +kernel)) rfl)⟩ (by decide) rfl hZ ⟨by decide, by decide⟩ (by decide) (by decide +kernel) ?_
  have hZ := hZ.up
  refine zv_dup (pc := 203) d_X1_init_203 rfl ?_
  refine zv_callIN (pc := 204) (As := []) (o := 108) (st := [.ref 108, .int 2, .ref 69]) (d2 := 1) (mc2 := 0) (ms2 := 0) (M2 := M_X5_init) (R2 := fun r T => r = none ∧ T = kS_X5_init_108 (zw_pR (kS_X5_init_107 (zw_pR (kS_X5_init_106 (zw_pR (kS_X0_init_104 (zw_pR (kS_X0_init_102 (zw_pR (kS_X0_init_100 (zw_pR (kS_X0_init_98 (zw_pR (kS_X0_init_96 (zw_pR (kS_X0_init_94 (zw_pR (kS_X0_init_92 (zw_pR (kS_X0_init_90 (zw_pR (kS_X0_init_88 (zw_pR (kS_X0_init_86 (zw_pR (kS_X7_init_83 (zw_pR (kS_X7_init_80 (zw_pR (kS_X7_init_77 (zw_pR (kS_X7_init_74 (zw_pI (zw_pR (zw_pR (zw_pI (zw_pR (zw_pI (zw_pR (zw_pI (zw_pR (zw_pI (zw_pR (zw_pI (zw_pR (zw_pI (zw_pR S 65 0 66) 65 1 0) 65 2 67) 65 3 0) 65 4 68) 65 5 0) 65 6 69) 65 7 0) 65 8 70) 65 9 0) 65 10 71) 65 11 0) 65 12 72) 65 13 73) 65 14 0)) 66 0 74)) 66 1 77)) 66 2 80)) 66 3 83)) 67 0 86)) 67 1 88)) 67 2 90)) 67 3 92)) 67 4 94)) 67 5 96)) 68 0 98)) 68 1 100)) 68 2 102)) 68 3 104)) 69 0 106)) 69 1 107)) d_X1_init_204 (by decide +kernel) ce_X5_init (Nat.le_of_ble_eq_true rfl) rfl (Nat.le_of_ble_eq_true rfl) (by decide) ⟨by decide, by decide⟩ (by decide) (k_X5_init_108 hZ ⟨rfl, rfl⟩) ?_
  rintro _ _ ⟨rfl, rfl⟩
  have hZ := kZ_X5_init_108 hZ
  show zw_V X M_X1_init 2 56 2672 65 P (204 + 3) 43 2633 [.ref 65, .int 2] [.ref 108, .int 2, .ref 69] (kS_X5_init_108 (zw_pR (kS_X5_init_107 (zw_pR (kS_X5_init_106 (zw_pR (kS_X0_init_104 (zw_pR (kS_X0_init_102 (zw_pR (kS_X0_init_100 (zw_pR (kS_X0_init_98 (zw_pR (kS_X0_init_96 (zw_pR (kS_X0_init_94 (zw_pR (kS_X0_init_92 (zw_pR (kS_X0_init_90 (zw_pR (kS_X0_init_88 (zw_pR (kS_X0_init_86 (zw_pR (kS_X7_init_83 (zw_pR (kS_X7_init_80 (zw_pR (kS_X7_init_77 (zw_pR (kS_X7_init_74 (zw_pI (zw_pR (zw_pR (zw_pI (zw_pR (zw_pI (zw_pR (zw_pI (zw_pR (zw_pI (zw_pR (zw_pI (zw_pR (zw_pI (zw_pR S 65 0 66) 65 1 0) 65 2 67) 65 3 0) 65 4 68) 65 5 0) 65 6 69) 65 7 0) 65 8 70) 65 9 0) 65 10 71) 65 11 0) 65 12 72) 65 13 73) 65 14 0)) 66 0 74)) 66 1 77)) 66 2 80)) 66 3 83)) 67 0 86)) 67 1 88)) 67 2 90)) 67 3 92)) 67 4 94)) 67 5 96)) 68 0 98)) 68 1 100)) 68 2 102)) 68 3 104)) 69 0 106)) 69 1 107))
  refine kx_aast (pc := 207) (o := 69) (κ := 17) (j := 2) d_X1_init_207 ⟨by decide, by decide⟩ (by decide +kernel) (by decide) (by decide +kernel) (by decide +kernel) ⟨by decide, by decide⟩ (by decide +kernel) ?_
  have hZ := hZ.pR (o := 69) (j := 2) (v := 108) (by decide)
  refine kx_iinc (pc := 208) (x2 := 3) (L2 := [.ref 65, .int 3]) d_X1_init_208 (by decide) rfl zc_i_1 (by decide +kernel) rfl ?_
  refine zv_goto (pc := 211) (tg := 189) d_X1_init_211 (by decide) ?_
  refine zv_iload_n (pc := 189) d_X1_init_189 rfl ?_
  refine zv_bipush (pc := 190) d_X1_init_190 zc_b_8 ?_
  refine zv_icmp_ge (pc := 192) (tg := 214) d_X1_init_192 (by decide) (fun q => absurd q (by decide +kernel)) (fun _ => ?_)
  refine zv_aload_n (pc := 195) d_X1_init_195 rfl ?_
  refine kx_getR (pc := 196) (o := 65) (v := 69) d_X1_init_196 lk_CutStones_House_38 (by decide) ⟨by decide, by decide⟩ (by decide +kernel) rfl (by decide) ?_
  refine zv_iload_n (pc := 199) d_X1_init_199 rfl ?_
  refine kx_new (pc := 200) (c := 5) d_X1_init_200 rfl ⟨(zw_mG (List.mem_of_getElem? (i := 169) (by decide +kernel)) rfl), (zw_mG (List.mem_of_getElem? (i := 234) (by decide +kernel)) rfl), (zw_mG (List.mem_of_getElem? (i := 102) (by decide +kernel)) rfl)⟩ (by decide) rfl hZ ⟨by decide, by decide⟩ (by decide) (by decide +kernel) ?_
  have hZ := hZ.up
  refine zv_dup (pc := 203) d_X1_init_203 rfl ?_
  refine zv_callIN (pc := 204) (As := []) (o := 109) (st := [.ref 109, .int 3, .ref 69]) (d2 := 1) (mc2 := 0) (ms2 := 0) (M2 := M_X5_init) (R2 := fun r T => r = none ∧ T = kS_X5_init_109 (zw_pR (kS_X5_init_108 (zw_pR (kS_X5_init_107 (zw_pR (kS_X5_init_106 (zw_pR (kS_X0_init_104 (zw_pR (kS_X0_init_102 (zw_pR (kS_X0_init_100 (zw_pR (kS_X0_init_98 (zw_pR (kS_X0_init_96 (zw_pR (kS_X0_init_94 (zw_pR (kS_X0_init_92 (zw_pR (kS_X0_init_90 (zw_pR (kS_X0_init_88 (zw_pR (kS_X0_init_86 (zw_pR (kS_X7_init_83 (zw_pR (kS_X7_init_80 (zw_pR (kS_X7_init_77 (zw_pR (kS_X7_init_74 (zw_pI (zw_pR (zw_pR (zw_pI (zw_pR (zw_pI (zw_pR (zw_pI (zw_pR (zw_pI (zw_pR (zw_pI (zw_pR (zw_pI (zw_pR S 65 0 66) 65 1 0) 65 2 67) 65 3 0) 65 4 68) 65 5 0) 65 6 69) 65 7 0) 65 8 70) 65 9 0) 65 10 71) 65 11 0) 65 12 72) 65 13 73) 65 14 0)) 66 0 74)) 66 1 77)) 66 2 80)) 66 3 83)) 67 0 86)) 67 1 88)) 67 2 90)) 67 3 92)) 67 4 94)) 67 5 96)) 68 0 98)) 68 1 100)) 68 2 102)) 68 3 104)) 69 0 106)) 69 1 107)) 69 2 108)) d_X1_init_204 (by decide +kernel) ce_X5_init (Nat.le_of_ble_eq_true rfl) rfl (Nat.le_of_ble_eq_true rfl) (by decide) ⟨by decide, by decide⟩ (by decide) (k_X5_init_109 hZ ⟨rfl, rfl⟩) ?_
  rintro _ _ ⟨rfl, rfl⟩
  have hZ := kZ_X5_init_109 hZ
  show zw_V X M_X1_init 2 56 2672 65 P (204 + 3) 44 2636 [.ref 65, .int 3] [.ref 109, .int 3, .ref 69] (kS_X5_init_109 (zw_pR (kS_X5_init_108 (zw_pR (kS_X5_init_107 (zw_pR (kS_X5_init_106 (zw_pR (kS_X0_init_104 (zw_pR (kS_X0_init_102 (zw_pR (kS_X0_init_100 (zw_pR (kS_X0_init_98 (zw_pR (kS_X0_init_96 (zw_pR (kS_X0_init_94 (zw_pR (kS_X0_init_92 (zw_pR (kS_X0_init_90 (zw_pR (kS_X0_init_88 (zw_pR (kS_X0_init_86 (zw_pR (kS_X7_init_83 (zw_pR (kS_X7_init_80 (zw_pR (kS_X7_init_77 (zw_pR (kS_X7_init_74 (zw_pI (zw_pR (zw_pR (zw_pI (zw_pR (zw_pI (zw_pR (zw_pI (zw_pR (zw_pI (zw_pR (zw_pI (zw_pR (zw_pI (zw_pR S 65 0 66) 65 1 0) 65 2 67) 65 3 0) 65 4 68) 65 5 0) 65 6 69) 65 7 0) 65 8 70) 65 9 0) 65 10 71) 65 11 0) 65 12 72) 65 13 73) 65 14 0)) 66 0 74)) 66 1 77)) 66 2 80)) 66 3 83)) 67 0 86)) 67 1 88)) 67 2 90)) 67 3 92)) 67 4 94)) 67 5 96)) 68 0 98)) 68 1 100)) 68 2 102)) 68 3 104)) 69 0 106)) 69 1 107)) 69 2 108))
  refine kx_aast (pc := 207) (o := 69) (κ := 17) (j := 3) d_X1_init_207 ⟨by decide, by decide⟩ (by decide +kernel) (by decide) (by decide +kernel) (by decide +kernel) ⟨by decide, by decide⟩ (by decide +kernel) ?_
  have hZ := hZ.pR (o := 69) (j := 3) (v := 109) (by decide)
  refine kx_iinc (pc := 208) (x2 := 4) (L2 := [.ref 65, .int 4]) d_X1_init_208 (by decide) rfl zc_i_1 (by decide +kernel) rfl ?_
  refine zv_goto (pc := 211) (tg := 189) d_X1_init_211 (by decide) ?_
  refine zv_iload_n (pc := 189) d_X1_init_189 rfl ?_
  refine zv_bipush (pc := 190) d_X1_init_190 zc_b_8 ?_
  refine zv_icmp_ge (pc := 192) (tg := 214) d_X1_init_192 (by decide) (fun q => absurd q (by decide +kernel)) (fun _ => ?_)
  refine zv_aload_n (pc := 195) d_X1_init_195 rfl ?_
  refine kx_getR (pc := 196) (o := 65) (v := 69) d_X1_init_196 lk_CutStones_House_38 (by decide) ⟨by decide, by decide⟩ (by decide +kernel) rfl (by decide) ?_
  refine zv_iload_n (pc := 199) d_X1_init_199 rfl ?_
  refine kx_new (pc := 200) (c := 5) d_X1_init_200 rfl ⟨(zw_mG (List.mem_of_getElem? (i := 169) (by decide +kernel)) rfl), (zw_mG (List.mem_of_getElem? (i := 234) (by decide +kernel)) rfl), (zw_mG (List.mem_of_getElem? (i := 102) (by decide +kernel)) rfl)⟩ (by decide) rfl hZ ⟨by decide, by decide⟩ (by decide) (by decide +kernel) ?_
  have hZ := hZ.up
  refine zv_dup (pc := 203) d_X1_init_203 rfl ?_
  refine zv_callIN (pc := 204) (As := []) (o := 110) (st := [.ref 110, .int 4, .ref 69]) (d2 := 1) (mc2 := 0) (ms2 := 0) (M2 := M_X5_init) (R2 := fun r T => r = none ∧ T = kS_X5_init_110 (zw_pR (kS_X5_init_109 (zw_pR (kS_X5_init_108 (zw_pR (kS_X5_init_107 (zw_pR (kS_X5_init_106 (zw_pR (kS_X0_init_104 (zw_pR (kS_X0_init_102 (zw_pR (kS_X0_init_100 (zw_pR (kS_X0_init_98 (zw_pR (kS_X0_init_96 (zw_pR (kS_X0_init_94 (zw_pR (kS_X0_init_92 (zw_pR (kS_X0_init_90 (zw_pR (kS_X0_init_88 (zw_pR (kS_X0_init_86 (zw_pR (kS_X7_init_83 (zw_pR (kS_X7_init_80 (zw_pR (kS_X7_init_77 (zw_pR (kS_X7_init_74 (zw_pI (zw_pR (zw_pR (zw_pI (zw_pR (zw_pI (zw_pR (zw_pI (zw_pR (zw_pI (zw_pR (zw_pI (zw_pR (zw_pI (zw_pR S 65 0 66) 65 1 0) 65 2 67) 65 3 0) 65 4 68) 65 5 0) 65 6 69) 65 7 0) 65 8 70) 65 9 0) 65 10 71) 65 11 0) 65 12 72) 65 13 73) 65 14 0)) 66 0 74)) 66 1 77)) 66 2 80)) 66 3 83)) 67 0 86)) 67 1 88)) 67 2 90)) 67 3 92)) 67 4 94)) 67 5 96)) 68 0 98)) 68 1 100)) 68 2 102)) 68 3 104)) 69 0 106)) 69 1 107)) 69 2 108)) 69 3 109)) d_X1_init_204 (by decide +kernel) ce_X5_init (Nat.le_of_ble_eq_true rfl) rfl (Nat.le_of_ble_eq_true rfl) (by decide) ⟨by decide, by decide⟩ (by decide) (k_X5_init_110 hZ ⟨rfl, rfl⟩) ?_
  rintro _ _ ⟨rfl, rfl⟩
  have hZ := kZ_X5_init_110 hZ
  show zw_V X M_X1_init 2 56 2672 65 P (204 + 3) 45 2639 [.ref 65, .int 4] [.ref 110, .int 4, .ref 69] (kS_X5_init_110 (zw_pR (kS_X5_init_109 (zw_pR (kS_X5_init_108 (zw_pR (kS_X5_init_107 (zw_pR (kS_X5_init_106 (zw_pR (kS_X0_init_104 (zw_pR (kS_X0_init_102 (zw_pR (kS_X0_init_100 (zw_pR (kS_X0_init_98 (zw_pR (kS_X0_init_96 (zw_pR (kS_X0_init_94 (zw_pR (kS_X0_init_92 (zw_pR (kS_X0_init_90 (zw_pR (kS_X0_init_88 (zw_pR (kS_X0_init_86 (zw_pR (kS_X7_init_83 (zw_pR (kS_X7_init_80 (zw_pR (kS_X7_init_77 (zw_pR (kS_X7_init_74 (zw_pI (zw_pR (zw_pR (zw_pI (zw_pR (zw_pI (zw_pR (zw_pI (zw_pR (zw_pI (zw_pR (zw_pI (zw_pR (zw_pI (zw_pR S 65 0 66) 65 1 0) 65 2 67) 65 3 0) 65 4 68) 65 5 0) 65 6 69) 65 7 0) 65 8 70) 65 9 0) 65 10 71) 65 11 0) 65 12 72) 65 13 73) 65 14 0)) 66 0 74)) 66 1 77)) 66 2 80)) 66 3 83)) 67 0 86)) 67 1 88)) 67 2 90)) 67 3 92)) 67 4 94)) 67 5 96)) 68 0 98)) 68 1 100)) 68 2 102)) 68 3 104)) 69 0 106)) 69 1 107)) 69 2 108)) 69 3 109))
  refine kx_aast (pc := 207) (o := 69) (κ := 17) (j := 4) d_X1_init_207 ⟨by decide, by decide⟩ (by decide +kernel) (by decide) (by decide +kernel) (by decide +kernel) ⟨by decide, by decide⟩ (by decide +kernel) ?_
  have hZ := hZ.pR (o := 69) (j := 4) (v := 110) (by decide)
  refine kx_iinc (pc := 208) (x2 := 5) (L2 := [.ref 65, .int 5]) d_X1_init_208 (by decide) rfl zc_i_1 (by decide +kernel) rfl ?_
  refine zv_goto (pc := 211) (tg := 189) d_X1_init_211 (by decide) ?_
  refine zv_iload_n (pc := 189) d_X1_init_189 rfl ?_
  refine zv_bipush (pc := 190) d_X1_init_190 zc_b_8 ?_
  refine zv_icmp_ge (pc := 192) (tg := 214) d_X1_init_192 (by decide) (fun q => absurd q (by decide +kernel)) (fun _ => ?_)
  refine zv_aload_n (pc := 195) d_X1_init_195 rfl ?_
  refine kx_getR (pc := 196) (o := 65) (v := 69) d_X1_init_196 lk_CutStones_House_38 (by decide) ⟨by decide, by decide⟩ (by decide +kernel) rfl (by decide) ?_
  refine zv_iload_n (pc := 199) d_X1_init_199 rfl ?_
  refine kx_new (pc := 200) (c := 5) d_X1_init_200 rfl ⟨(zw_mG (List.mem_of_getElem? (i := 169) (by decide +kernel)) rfl), (zw_mG (List.mem_of_getElem? (i := 234) (by decide +kernel)) rfl), (zw_mG (List.mem_of_getElem? (i := 102) (by decide +kernel)) rfl)⟩ (by decide) rfl hZ ⟨by decide, by decide⟩ (by decide) (by decide +kernel) ?_
  have hZ := hZ.up
  refine zv_dup (pc := 203) d_X1_init_203 rfl ?_
  refine zv_callIN (pc := 204) (As := []) (o := 111) (st := [.ref 111, .int 5, .ref 69]) (d2 := 1) (mc2 := 0) (ms2 := 0) (M2 := M_X5_init) (R2 := fun r T => r = none ∧ T = kS_X5_init_111 (zw_pR (kS_X5_init_110 (zw_pR (kS_X5_init_109 (zw_pR (kS_X5_init_108 (zw_pR (kS_X5_init_107 (zw_pR (kS_X5_init_106 (zw_pR (kS_X0_init_104 (zw_pR (kS_X0_init_102 (zw_pR (kS_X0_init_100 (zw_pR (kS_X0_init_98 (zw_pR (kS_X0_init_96 (zw_pR (kS_X0_init_94 (zw_pR (kS_X0_init_92 (zw_pR (kS_X0_init_90 (zw_pR (kS_X0_init_88 (zw_pR (kS_X0_init_86 (zw_pR (kS_X7_init_83 (zw_pR (kS_X7_init_80 (zw_pR (kS_X7_init_77 (zw_pR (kS_X7_init_74 (zw_pI (zw_pR (zw_pR (zw_pI (zw_pR (zw_pI (zw_pR (zw_pI (zw_pR (zw_pI (zw_pR (zw_pI (zw_pR (zw_pI (zw_pR S 65 0 66) 65 1 0) 65 2 67) 65 3 0) 65 4 68) 65 5 0) 65 6 69) 65 7 0) 65 8 70) 65 9 0) 65 10 71) 65 11 0) 65 12 72) 65 13 73) 65 14 0)) 66 0 74)) 66 1 77)) 66 2 80)) 66 3 83)) 67 0 86)) 67 1 88)) 67 2 90)) 67 3 92)) 67 4 94)) 67 5 96)) 68 0 98)) 68 1 100)) 68 2 102)) 68 3 104)) 69 0 106)) 69 1 107)) 69 2 108)) 69 3 109)) 69 4 110)) d_X1_init_204 (by decide +kernel) ce_X5_init (Nat.le_of_ble_eq_true rfl) rfl (Nat.le_of_ble_eq_true rfl) (by decide) ⟨by decide, by decide⟩ (by decide) (k_X5_init_111 hZ ⟨rfl, rfl⟩) ?_
  rintro _ _ ⟨rfl, rfl⟩
  have hZ := kZ_X5_init_111 hZ
  show zw_V X M_X1_init 2 56 2672 65 P (204 + 3) 46 2642 [.ref 65, .int 5] [.ref 111, .int 5, .ref 69] (kS_X5_init_111 (zw_pR (kS_X5_init_110 (zw_pR (kS_X5_init_109 (zw_pR (kS_X5_init_108 (zw_pR (kS_X5_init_107 (zw_pR (kS_X5_init_106 (zw_pR (kS_X0_init_104 (zw_pR (kS_X0_init_102 (zw_pR (kS_X0_init_100 (zw_pR (kS_X0_init_98 (zw_pR (kS_X0_init_96 (zw_pR (kS_X0_init_94 (zw_pR (kS_X0_init_92 (zw_pR (kS_X0_init_90 (zw_pR (kS_X0_init_88 (zw_pR (kS_X0_init_86 (zw_pR (kS_X7_init_83 (zw_pR (kS_X7_init_80 (zw_pR (kS_X7_init_77 (zw_pR (kS_X7_init_74 (zw_pI (zw_pR (zw_pR (zw_pI (zw_pR (zw_pI (zw_pR (zw_pI (zw_pR (zw_pI (zw_pR (zw_pI (zw_pR (zw_pI (zw_pR S 65 0 66) 65 1 0) 65 2 67) 65 3 0) 65 4 68) 65 5 0) 65 6 69) 65 7 0) 65 8 70) 65 9 0) 65 10 71) 65 11 0) 65 12 72) 65 13 73) 65 14 0)) 66 0 74)) 66 1 77)) 66 2 80)) 66 3 83)) 67 0 86)) 67 1 88)) 67 2 90)) 67 3 92)) 67 4 94)) 67 5 96)) 68 0 98)) 68 1 100)) 68 2 102)) 68 3 104)) 69 0 106)) 69 1 107)) 69 2 108)) 69 3 109)) 69 4 110))
  refine kx_aast (pc := 207) (o := 69) (κ := 17) (j := 5) d_X1_init_207 ⟨by decide, by decide⟩ (by decide +kernel) (by decide) (by decide +kernel) (by decide +kernel) ⟨by decide, by decide⟩ (by decide +kernel) ?_
  have hZ := hZ.pR (o := 69) (j := 5) (v := 111) (by decide)
  refine kx_iinc (pc := 208) (x2 := 6) (L2 := [.ref 65, .int 6]) d_X1_init_208 (by decide) rfl zc_i_1 (by decide +kernel) rfl ?_
  refine zv_goto (pc := 211) (tg := 189) d_X1_init_211 (by decide) ?_
  refine zv_iload_n (pc := 189) d_X1_init_189 rfl ?_
  refine zv_bipush (pc := 190) d_X1_init_190 zc_b_8 ?_
  refine zv_icmp_ge (pc := 192) (tg := 214) d_X1_init_192 (by decide) (fun q => absurd q (by decide +kernel)) (fun _ => ?_)
  refine zv_aload_n (pc := 195) d_X1_init_195 rfl ?_
  refine kx_getR (pc := 196) (o := 65) (v := 69) d_X1_init_196 lk_CutStones_House_38 (by decide) ⟨by decide, by decide⟩ (by decide +kernel) rfl (by decide) ?_
  refine zv_iload_n (pc := 199) d_X1_init_199 rfl ?_
  refine kx_new (pc := 200) (c := 5) d_X1_init_200 rfl ⟨(zw_mG (List.mem_of_getElem? (i := 169) (by decide +kernel)) rfl), (zw_mG (List.mem_of_getElem? (i := 234) (by decide +kernel)) rfl), (zw_mG (List.mem_of_getElem? (i := 102) (by decide +kernel)) rfl)⟩ (by decide) rfl hZ ⟨by decide, by decide⟩ (by decide) (by decide +kernel) ?_
  have hZ := hZ.up
  refine zv_dup (pc := 203) d_X1_init_203 rfl ?_
  refine zv_callIN (pc := 204) (As := []) (o := 112) (st := [.ref 112, .int 6, .ref 69]) (d2 := 1) (mc2 := 0) (ms2 := 0) (M2 := M_X5_init) (R2 := fun r T => r = none ∧ T = kS_X5_init_112 (zw_pR (kS_X5_init_111 (zw_pR (kS_X5_init_110 (zw_pR (kS_X5_init_109 (zw_pR (kS_X5_init_108 (zw_pR (kS_X5_init_107 (zw_pR (kS_X5_init_106 (zw_pR (kS_X0_init_104 (zw_pR (kS_X0_init_102 (zw_pR (kS_X0_init_100 (zw_pR (kS_X0_init_98 (zw_pR (kS_X0_init_96 (zw_pR (kS_X0_init_94 (zw_pR (kS_X0_init_92 (zw_pR (kS_X0_init_90 (zw_pR (kS_X0_init_88 (zw_pR (kS_X0_init_86 (zw_pR (kS_X7_init_83 (zw_pR (kS_X7_init_80 (zw_pR (kS_X7_init_77 (zw_pR (kS_X7_init_74 (zw_pI (zw_pR (zw_pR (zw_pI (zw_pR (zw_pI (zw_pR (zw_pI (zw_pR (zw_pI (zw_pR (zw_pI (zw_pR (zw_pI (zw_pR S 65 0 66) 65 1 0) 65 2 67) 65 3 0) 65 4 68) 65 5 0) 65 6 69) 65 7 0) 65 8 70) 65 9 0) 65 10 71) 65 11 0) 65 12 72) 65 13 73) 65 14 0)) 66 0 74)) 66 1 77)) 66 2 80)) 66 3 83)) 67 0 86)) 67 1 88)) 67 2 90)) 67 3 92)) 67 4 94)) 67 5 96)) 68 0 98)) 68 1 100)) 68 2 102)) 68 3 104)) 69 0 106)) 69 1 107)) 69 2 108)) 69 3 109)) 69 4 110)) 69 5 111)) d_X1_init_204 (by decide +kernel) ce_X5_init (Nat.le_of_ble_eq_true rfl) rfl (Nat.le_of_ble_eq_true rfl) (by decide) ⟨by decide, by decide⟩ (by decide) (k_X5_init_112 hZ ⟨rfl, rfl⟩) ?_
  rintro _ _ ⟨rfl, rfl⟩
  have hZ := kZ_X5_init_112 hZ
  show zw_V X M_X1_init 2 56 2672 65 P (204 + 3) 47 2645 [.ref 65, .int 6] [.ref 112, .int 6, .ref 69] (kS_X5_init_112 (zw_pR (kS_X5_init_111 (zw_pR (kS_X5_init_110 (zw_pR (kS_X5_init_109 (zw_pR (kS_X5_init_108 (zw_pR (kS_X5_init_107 (zw_pR (kS_X5_init_106 (zw_pR (kS_X0_init_104 (zw_pR (kS_X0_init_102 (zw_pR (kS_X0_init_100 (zw_pR (kS_X0_init_98 (zw_pR (kS_X0_init_96 (zw_pR (kS_X0_init_94 (zw_pR (kS_X0_init_92 (zw_pR (kS_X0_init_90 (zw_pR (kS_X0_init_88 (zw_pR (kS_X0_init_86 (zw_pR (kS_X7_init_83 (zw_pR (kS_X7_init_80 (zw_pR (kS_X7_init_77 (zw_pR (kS_X7_init_74 (zw_pI (zw_pR (zw_pR (zw_pI (zw_pR (zw_pI (zw_pR (zw_pI (zw_pR (zw_pI (zw_pR (zw_pI (zw_pR (zw_pI (zw_pR S 65 0 66) 65 1 0) 65 2 67) 65 3 0) 65 4 68) 65 5 0) 65 6 69) 65 7 0) 65 8 70) 65 9 0) 65 10 71) 65 11 0) 65 12 72) 65 13 73) 65 14 0)) 66 0 74)) 66 1 77)) 66 2 80)) 66 3 83)) 67 0 86)) 67 1 88)) 67 2 90)) 67 3 92)) 67 4 94)) 67 5 96)) 68 0 98)) 68 1 100)) 68 2 102)) 68 3 104)) 69 0 106)) 69 1 107)) 69 2 108)) 69 3 109)) 69 4 110)) 69 5 111))
  refine kx_aast (pc := 207) (o := 69) (κ := 17) (j := 6) d_X1_init_207 ⟨by decide, by decide⟩ (by decide +kernel) (by decide) (by decide +kernel) (by decide +kernel) ⟨by decide, by decide⟩ (by decide +kernel) ?_
  have hZ := hZ.pR (o := 69) (j := 6) (v := 112) (by decide)
  refine kx_iinc (pc := 208) (x2 := 7) (L2 := [.ref 65, .int 7]) d_X1_init_208 (by decide) rfl zc_i_1 (by decide +kernel) rfl ?_
  refine zv_goto (pc := 211) (tg := 189) d_X1_init_211 (by decide) ?_
  refine zv_iload_n (pc := 189) d_X1_init_189 rfl ?_
  refine zv_bipush (pc := 190) d_X1_init_190 zc_b_8 ?_
  refine zv_icmp_ge (pc := 192) (tg := 214) d_X1_init_192 (by decide) (fun q => absurd q (by decide +kernel)) (fun _ => ?_)
  refine zv_aload_n (pc := 195) d_X1_init_195 rfl ?_
  refine kx_getR (pc := 196) (o := 65) (v := 69) d_X1_init_196 lk_CutStones_House_38 (by decide) ⟨by decide, by decide⟩ (by decide +kernel) rfl (by decide) ?_
  refine zv_iload_n (pc := 199) d_X1_init_199 rfl ?_
  refine kx_new (pc := 200) (c := 5) d_X1_init_200 rfl ⟨(zw_mG (List.mem_of_getElem? (i := 169) (by decide +kernel)) rfl), (zw_mG (List.mem_of_getElem? (i := 234) (by decide +kernel)) rfl), (zw_mG (List.mem_of_getElem? (i := 102) (by decide +kernel)) rfl)⟩ (by decide) rfl hZ ⟨by decide, by decide⟩ (by decide) (by decide +kernel) ?_
  have hZ := hZ.up
  refine zv_dup (pc := 203) d_X1_init_203 rfl ?_
  refine zv_callIN (pc := 204) (As := []) (o := 113) (st := [.ref 113, .int 7, .ref 69]) (d2 := 1) (mc2 := 0) (ms2 := 0) (M2 := M_X5_init) (R2 := fun r T => r = none ∧ T = kS_X5_init_113 (zw_pR (kS_X5_init_112 (zw_pR (kS_X5_init_111 (zw_pR (kS_X5_init_110 (zw_pR (kS_X5_init_109 (zw_pR (kS_X5_init_108 (zw_pR (kS_X5_init_107 (zw_pR (kS_X5_init_106 (zw_pR (kS_X0_init_104 (zw_pR (kS_X0_init_102 (zw_pR (kS_X0_init_100 (zw_pR (kS_X0_init_98 (zw_pR (kS_X0_init_96 (zw_pR (kS_X0_init_94 (zw_pR (kS_X0_init_92 (zw_pR (kS_X0_init_90 (zw_pR (kS_X0_init_88 (zw_pR (kS_X0_init_86 (zw_pR (kS_X7_init_83 (zw_pR (kS_X7_init_80 (zw_pR (kS_X7_init_77 (zw_pR (kS_X7_init_74 (zw_pI (zw_pR (zw_pR (zw_pI (zw_pR (zw_pI (zw_pR (zw_pI (zw_pR (zw_pI (zw_pR (zw_pI (zw_pR (zw_pI (zw_pR S 65 0 66) 65 1 0) 65 2 67) 65 3 0) 65 4 68) 65 5 0) 65 6 69) 65 7 0) 65 8 70) 65 9 0) 65 10 71) 65 11 0) 65 12 72) 65 13 73) 65 14 0)) 66 0 74)) 66 1 77)) 66 2 80)) 66 3 83)) 67 0 86)) 67 1 88)) 67 2 90)) 67 3 92)) 67 4 94)) 67 5 96)) 68 0 98)) 68 1 100)) 68 2 102)) 68 3 104)) 69 0 106)) 69 1 107)) 69 2 108)) 69 3 109)) 69 4 110)) 69 5 111)) 69 6 112)) d_X1_init_204 (by decide +kernel) ce_X5_init (Nat.le_of_ble_eq_true rfl) rfl (Nat.le_of_ble_eq_true rfl) (by decide) ⟨by decide, by decide⟩ (by decide) (k_X5_init_113 hZ ⟨rfl, rfl⟩) ?_
  rintro _ _ ⟨rfl, rfl⟩
  have hZ := kZ_X5_init_113 hZ
  show zw_V X M_X1_init 2 56 2672 65 P (204 + 3) 48 2648 [.ref 65, .int 7] [.ref 113, .int 7, .ref 69] (kS_X5_init_113 (zw_pR (kS_X5_init_112 (zw_pR (kS_X5_init_111 (zw_pR (kS_X5_init_110 (zw_pR (kS_X5_init_109 (zw_pR (kS_X5_init_108 (zw_pR (kS_X5_init_107 (zw_pR (kS_X5_init_106 (zw_pR (kS_X0_init_104 (zw_pR (kS_X0_init_102 (zw_pR (kS_X0_init_100 (zw_pR (kS_X0_init_98 (zw_pR (kS_X0_init_96 (zw_pR (kS_X0_init_94 (zw_pR (kS_X0_init_92 (zw_pR (kS_X0_init_90 (zw_pR (kS_X0_init_88 (zw_pR (kS_X0_init_86 (zw_pR (kS_X7_init_83 (zw_pR (kS_X7_init_80 (zw_pR (kS_X7_init_77 (zw_pR (kS_X7_init_74 (zw_pI (zw_pR (zw_pR (zw_pI (zw_pR (zw_pI (zw_pR (zw_pI (zw_pR (zw_pI (zw_pR (zw_pI (zw_pR (zw_pI (zw_pR S 65 0 66) 65 1 0) 65 2 67) 65 3 0) 65 4 68) 65 5 0) 65 6 69) 65 7 0) 65 8 70) 65 9 0) 65 10 71) 65 11 0) 65 12 72) 65 13 73) 65 14 0)) 66 0 74)) 66 1 77)) 66 2 80)) 66 3 83)) 67 0 86)) 67 1 88)) 67 2 90)) 67 3 92)) 67 4 94)) 67 5 96)) 68 0 98)) 68 1 100)) 68 2 102)) 68 3 104)) 69 0 106)) 69 1 107)) 69 2 108)) 69 3 109)) 69 4 110)) 69 5 111)) 69 6 112))
  refine kx_aast (pc := 207) (o := 69) (κ := 17) (j := 7) d_X1_init_207 ⟨by decide, by decide⟩ (by decide +kernel) (by decide) (by decide +kernel) (by decide +kernel) ⟨by decide, by decide⟩ (by decide +kernel) ?_
  have hZ := hZ.pR (o := 69) (j := 7) (v := 113) (by decide)
  refine kx_iinc (pc := 208) (x2 := 8) (L2 := [.ref 65, .int 8]) d_X1_init_208 (by decide) rfl zc_i_1 (by decide +kernel) rfl ?_
  refine zv_goto (pc := 211) (tg := 189) d_X1_init_211 (by decide) ?_
  refine zv_iload_n (pc := 189) d_X1_init_189 rfl ?_
  refine zv_bipush (pc := 190) d_X1_init_190 zc_b_8 ?_
  refine zv_icmp_ge (pc := 192) (tg := 214) d_X1_init_192 (by decide) (fun _ => ?_) (fun q => absurd (by decide +kernel) q)
  refine zv_iconst (pc := 214) d_X1_init_214 zc_i_0 ?_
  refine kx_istore_n (pc := 215) (L2 := [.ref 65, .int 0]) d_X1_init_215 (by decide) rfl ?_
  refine zv_iload_n (pc := 216) d_X1_init_216 rfl ?_
  refine zv_bipush (pc := 217) d_X1_init_217 zc_b_8 ?_
  refine zv_icmp_ge (pc := 219) (tg := 241) d_X1_init_219 (by decide) (fun q => absurd q (by decide +kernel)) (fun _ => ?_)
  refine zv_aload_n (pc := 222) d_X1_init_222 rfl ?_
  refine kx_getR (pc := 223) (o := 65) (v := 70) d_X1_init_223 lk_CutStones_House_45 (by decide) ⟨by decide, by decide⟩ (by decide +kernel) rfl (by decide) ?_
  refine zv_iload_n (pc := 226) d_X1_init_226 rfl ?_
  refine kx_new (pc := 227) (c := 5) d_X1_init_227 rfl ⟨(zw_mG (List.mem_of_getElem? (i := 169) (by decide +kernel)) rfl), (zw_mG (List.mem_of_getElem? (i := 234) (by decide +kernel)) rfl), (zw_mG (List.mem_of_getElem? (i := 102) (by decide +kernel)) rfl)⟩ (by decide) rfl hZ ⟨by decide, by decide⟩ (by decide) (by decide +kernel) ?_
  have hZ := hZ.up
  refine zv_dup (pc := 230) d_X1_init_230 rfl ?_
  refine zv_callIN (pc := 231) (As := []) (o := 114) (st := [.ref 114, .int 0, .ref 70]) (d2 := 1) (mc2 := 0) (ms2 := 0) (M2 := M_X5_init) (R2 := fun r T => r = none ∧ T = kS_X5_init_114 (zw_pR (kS_X5_init_113 (zw_pR (kS_X5_init_112 (zw_pR (kS_X5_init_111 (zw_pR (kS_X5_init_110 (zw_pR (kS_X5_init_109 (zw_pR (kS_X5_init_108 (zw_pR (kS_X5_init_107 (zw_pR (kS_X5_init_106 (zw_pR (kS_X0_init_104 (zw_pR (kS_X0_init_102 (zw_pR (kS_X0_init_100 (zw_pR (kS_X0_init_98 (zw_pR (kS_X0_init_96 (zw_pR (kS_X0_init_94 (zw_pR (kS_X0_init_92 (zw_pR (kS_X0_init_90 (zw_pR (kS_X0_init_88 (zw_pR (kS_X0_init_86 (zw_pR (kS_X7_init_83 (zw_pR (kS_X7_init_80 (zw_pR (kS_X7_init_77 (zw_pR (kS_X7_init_74 (zw_pI (zw_pR (zw_pR (zw_pI (zw_pR (zw_pI (zw_pR (zw_pI (zw_pR (zw_pI (zw_pR (zw_pI (zw_pR (zw_pI (zw_pR S 65 0 66) 65 1 0) 65 2 67) 65 3 0) 65 4 68) 65 5 0) 65 6 69) 65 7 0) 65 8 70) 65 9 0) 65 10 71) 65 11 0) 65 12 72) 65 13 73) 65 14 0)) 66 0 74)) 66 1 77)) 66 2 80)) 66 3 83)) 67 0 86)) 67 1 88)) 67 2 90)) 67 3 92)) 67 4 94)) 67 5 96)) 68 0 98)) 68 1 100)) 68 2 102)) 68 3 104)) 69 0 106)) 69 1 107)) 69 2 108)) 69 3 109)) 69 4 110)) 69 5 111)) 69 6 112)) 69 7 113)) d_X1_init_231 (by decide +kernel) ce_X5_init (Nat.le_of_ble_eq_true rfl) rfl (Nat.le_of_ble_eq_true rfl) (by decide) ⟨by decide, by decide⟩ (by decide) (k_X5_init_114 hZ ⟨rfl, rfl⟩) ?_
  rintro _ _ ⟨rfl, rfl⟩
  have hZ := kZ_X5_init_114 hZ
  show zw_V X M_X1_init 2 56 2672 65 P (231 + 3) 49 2651 [.ref 65, .int 0] [.ref 114, .int 0, .ref 70] (kS_X5_init_114 (zw_pR (kS_X5_init_113 (zw_pR (kS_X5_init_112 (zw_pR (kS_X5_init_111 (zw_pR (kS_X5_init_110 (zw_pR (kS_X5_init_109 (zw_pR (kS_X5_init_108 (zw_pR (kS_X5_init_107 (zw_pR (kS_X5_init_106 (zw_pR (kS_X0_init_104 (zw_pR (kS_X0_init_102 (zw_pR (kS_X0_init_100 (zw_pR (kS_X0_init_98 (zw_pR (kS_X0_init_96 (zw_pR (kS_X0_init_94 (zw_pR (kS_X0_init_92 (zw_pR (kS_X0_init_90 (zw_pR (kS_X0_init_88 (zw_pR (kS_X0_init_86 (zw_pR (kS_X7_init_83 (zw_pR (kS_X7_init_80 (zw_pR (kS_X7_init_77 (zw_pR (kS_X7_init_74 (zw_pI (zw_pR (zw_pR (zw_pI (zw_pR (zw_pI (zw_pR (zw_pI (zw_pR (zw_pI (zw_pR (zw_pI (zw_pR (zw_pI (zw_pR S 65 0 66) 65 1 0) 65 2 67) 65 3 0) 65 4 68) 65 5 0) 65 6 69) 65 7 0) 65 8 70) 65 9 0) 65 10 71) 65 11 0) 65 12 72) 65 13 73) 65 14 0)) 66 0 74)) 66 1 77)) 66 2 80)) 66 3 83)) 67 0 86)) 67 1 88)) 67 2 90)) 67 3 92)) 67 4 94)) 67 5 96)) 68 0 98)) 68 1 100)) 68 2 102)) 68 3 104)) 69 0 106)) 69 1 107)) 69 2 108)) 69 3 109)) 69 4 110)) 69 5 111)) 69 6 112)) 69 7 113))
  refine kx_aast (pc := 234) (o := 70) (κ := 17) (j := 0) d_X1_init_234 ⟨by decide, by decide⟩ (by decide +kernel) (by decide) (by decide +kernel) (by decide +kernel) ⟨by decide, by decide⟩ (by decide +kernel) ?_
  have hZ := hZ.pR (o := 70) (j := 0) (v := 114) (by decide)
  refine kx_iinc (pc := 235) (x2 := 1) (L2 := [.ref 65, .int 1]) d_X1_init_235 (by decide) rfl zc_i_1 (by decide +kernel) rfl ?_
  refine zv_goto (pc := 238) (tg := 216) d_X1_init_238 (by decide) ?_
  refine zv_iload_n (pc := 216) d_X1_init_216 rfl ?_
  refine zv_bipush (pc := 217) d_X1_init_217 zc_b_8 ?_
  refine zv_icmp_ge (pc := 219) (tg := 241) d_X1_init_219 (by decide) (fun q => absurd q (by decide +kernel)) (fun _ => ?_)
  refine zv_aload_n (pc := 222) d_X1_init_222 rfl ?_
  refine kx_getR (pc := 223) (o := 65) (v := 70) d_X1_init_223 lk_CutStones_House_45 (by decide) ⟨by decide, by decide⟩ (by decide +kernel) rfl (by decide) ?_
  refine zv_iload_n (pc := 226) d_X1_init_226 rfl ?_
  refine kx_new (pc := 227) (c := 5) d_X1_init_227 rfl ⟨(zw_mG (List.mem_of_getElem? (i := 169) (by decide +kernel)) rfl), (zw_mG (List.mem_of_getElem? (i := 234) (by decide +kernel)) rfl), (zw_mG (List.mem_of_getElem? (i := 102) (by decide +kernel)) rfl)⟩ (by decide) rfl hZ ⟨by decide, by decide⟩ (by decide) (by decide +kernel) ?_
  have hZ := hZ.up
  refine zv_dup (pc := 230) d_X1_init_230 rfl ?_
  refine zv_callIN (pc := 231) (As := []) (o := 115) (st := [.ref 115, .int 1, .ref 70]) (d2 := 1) (mc2 := 0) (ms2 := 0) (M2 := M_X5_init) (R2 := fun r T => r = none ∧ T = kS_X5_init_115 (zw_pR (kS_X5_init_114 (zw_pR (kS_X5_init_113 (zw_pR (kS_X5_init_112 (zw_pR (kS_X5_init_111 (zw_pR (kS_X5_init_110 (zw_pR (kS_X5_init_109 (zw_pR (kS_X5_init_108 (zw_pR (kS_X5_init_107 (zw_pR (kS_X5_init_106 (zw_pR (kS_X0_init_104 (zw_pR (kS_X0_init_102 (zw_pR (kS_X0_init_100 (zw_pR (kS_X0_init_98 (zw_pR (kS_X0_init_96 (zw_pR (kS_X0_init_94 (zw_pR (kS_X0_init_92 (zw_pR (kS_X0_init_90 (zw_pR (kS_X0_init_88 (zw_pR (kS_X0_init_86 (zw_pR (kS_X7_init_83 (zw_pR (kS_X7_init_80 (zw_pR (kS_X7_init_77 (zw_pR (kS_X7_init_74 (zw_pI (zw_pR (zw_pR (zw_pI (zw_pR (zw_pI (zw_pR (zw_pI (zw_pR (zw_pI (zw_pR (zw_pI (zw_pR (zw_pI (zw_pR S 65 0 66) 65 1 0) 65 2 67) 65 3 0) 65 4 68) 65 5 0) 65 6 69) 65 7 0) 65 8 70) 65 9 0) 65 10 71) 65 11 0) 65 12 72) 65 13 73) 65 14 0)) 66 0 74)) 66 1 77)) 66 2 80)) 66 3 83)) 67 0 86)) 67 1 88)) 67 2 90)) 67 3 92)) 67 4 94)) 67 5 96)) 68 0 98)) 68 1 100)) 68 2 102)) 68 3 104)) 69 0 106)) 69 1 107)) 69 2 108)) 69 3 109)) 69 4 110)) 69 5 111)) 69 6 112)) 69 7 113)) 70 0 114)) d_X1_init_231 (by decide +kernel) ce_X5_init (Nat.le_of_ble_eq_true rfl) rfl (Nat.le_of_ble_eq_true rfl) (by decide) ⟨by decide, by decide⟩ (by decide) (k_X5_init_115 hZ ⟨rfl, rfl⟩) ?_
  rintro _ _ ⟨rfl, rfl⟩
  have hZ := kZ_X5_init_115 hZ
  show zw_V X M_X1_init 2 56 2672 65 P (231 + 3) 50 2654 [.ref 65, .int 1] [.ref 115, .int 1, .ref 70] (kS_X5_init_115 (zw_pR (kS_X5_init_114 (zw_pR (kS_X5_init_113 (zw_pR (kS_X5_init_112 (zw_pR (kS_X5_init_111 (zw_pR (kS_X5_init_110 (zw_pR (kS_X5_init_109 (zw_pR (kS_X5_init_108 (zw_pR (kS_X5_init_107 (zw_pR (kS_X5_init_106 (zw_pR (kS_X0_init_104 (zw_pR (kS_X0_init_102 (zw_pR (kS_X0_init_100 (zw_pR (kS_X0_init_98 (zw_pR (kS_X0_init_96 (zw_pR (kS_X0_init_94 (zw_pR (kS_X0_init_92 (zw_pR (kS_X0_init_90 (zw_pR (kS_X0_init_88 (zw_pR (kS_X0_init_86 (zw_pR (kS_X7_init_83 (zw_pR (kS_X7_init_80 (zw_pR (kS_X7_init_77 (zw_pR (kS_X7_init_74 (zw_pI (zw_pR (zw_pR (zw_pI (zw_pR (zw_pI (zw_pR (zw_pI (zw_pR (zw_pI (zw_pR (zw_pI (zw_pR (zw_pI (zw_pR S 65 0 66) 65 1 0) 65 2 67) 65 3 0) 65 4 68) 65 5 0) 65 6 69) 65 7 0) 65 8 70) 65 9 0) 65 10 71) 65 11 0) 65 12 72) 65 13 73) 65 14 0)) 66 0 74)) 66 1 77)) 66 2 80)) 66 3 83)) 67 0 86)) 67 1 88)) 67 2 90)) 67 3 92)) 67 4 94)) 67 5 96)) 68 0 98)) 68 1 100)) 68 2 102)) 68 3 104)) 69 0 106)) 69 1 107)) 69 2 108)) 69 3 109)) 69 4 110)) 69 5 111)) 69 6 112)) 69 7 113)) 70 0 114))
  refine kx_aast (pc := 234) (o := 70) (κ := 17) (j := 1) d_X1_init_234 ⟨by decide, by decide⟩ (by decide +kernel) (by decide) (by decide +kernel) (by decide +kernel) ⟨by decide, by decide⟩ (by decide +kernel) ?_
  have hZ := hZ.pR (o := 70) (j := 1) (v := 115) (by decide)
  refine kx_iinc (pc := 235) (x2 := 2) (L2 := [.ref 65, .int 2]) d_X1_init_235 (by decide) rfl zc_i_1 (by decide +kernel) rfl ?_
  refine zv_goto (pc := 238) (tg := 216) d_X1_init_238 (by decide) ?_
  refine zv_iload_n (pc := 216) d_X1_init_216 rfl ?_
  refine zv_bipush (pc := 217) d_X1_init_217 zc_b_8 ?_
  refine zv_icmp_ge (pc := 219) (tg := 241) d_X1_init_219 (by decide) (fun q => absurd q (by decide +kernel)) (fun _ => ?_)
  refine zv_aload_n (pc := 222) d_X1_init_222 rfl ?_
  refine kx_getR (pc := 223) (o := 65) (v := 70) d_X1_init_223 lk_CutStones_House_45 (by decide) ⟨by decide, by decide⟩ (by decide +kernel) rfl (by decide) ?_
  refine zv_iload_n (pc := 226) d_X1_init_226 rfl ?_
  refine kx_new (pc := 227) (c := 5) d_X1_init_227 rfl ⟨(zw_mG (List.mem_of_getElem? (i := 169) (by decide +kernel)) rfl), (zw_mG (List.mem_of_getElem? (i := 234) (by decide +kernel)) rfl), (zw_mG (List.mem_of_getElem? (i := 102) (by decide +kernel)) rfl)⟩ (by decide) rfl hZ ⟨by decide, by decide⟩ (by decide) (by decide +kernel) ?_
  have hZ := hZ.up
  refine zv_dup (pc := 230) d_X1_init_230 rfl ?_
  refine zv_callIN (pc := 231) (As := []) (o := 116) (st := [.ref 116, .int 2, .ref 70]) (d2 := 1) (mc2 := 0) (ms2 := 0) (M2 := M_X5_init) (R2 := fun r T => r = none ∧ T = kS_X5_init_116 (zw_pR (kS_X5_init_115 (zw_pR (kS_X5_init_114 (zw_pR (kS_X5_init_113 (zw_pR (kS_X5_init_112 (zw_pR (kS_X5_init_111 (zw_pR (kS_X5_init_110 (zw_pR (kS_X5_init_109 (zw_pR (kS_X5_init_108 (zw_pR (kS_X5_init_107 (zw_pR (kS_X5_init_106 (zw_pR (kS_X0_init_104 (zw_pR (kS_X0_init_102 (zw_pR (kS_X0_init_100 (zw_pR (kS_X0_init_98 (zw_pR (kS_X0_init_96 (zw_pR (kS_X0_init_94 (zw_pR (kS_X0_init_92 (zw_pR (kS_X0_init_90 (zw_pR (kS_X0_init_88 (zw_pR (kS_X0_init_86 (zw_pR (kS_X7_init_83 (zw_pR (kS_X7_init_80 (zw_pR (kS_X7_init_77 (zw_pR (kS_X7_init_74 (zw_pI (zw_pR (zw_pR (zw_pI (zw_pR (zw_pI (zw_pR (zw_pI (zw_pR (zw_pI (zw_pR (zw_pI (zw_pR (zw_pI (zw_pR S 65 0 66) 65 1 0) 65 2 67) 65 3 0) 65 4 68) 65 5 0) 65 6 69) 65 7 0) 65 8 70) 65 9 0) 65 10 71) 65 11 0) 65 12 72) 65 13 73) 65 14 0)) 66 0 74)) 66 1 77)) 66 2 80)) 66 3 83)) 67 0 86)) 67 1 88)) 67 2 90)) 67 3 92)) 67 4 94)) 67 5 96)) 68 0 98)) 68 1 100)) 68 2 102)) 68 3 104)) 69 0 106)) 69 1 107)) 69 2 108)) 69 3 109)) 69 4 110)) 69 5 111)) 69 6 112)) 69 7 113)) 70 0 114)) 70 1 115)) d_X1_init_231 (by decide +kernel) ce_X5_init (Nat.le_of_ble_eq_true rfl) rfl (Nat.le_of_ble_eq_true rfl) (by decide) ⟨by decide, by decide⟩ (by decide) (k_X5_init_116 hZ ⟨rfl, rfl⟩) ?_
  rintro _ _ ⟨rfl, rfl⟩
  have hZ := kZ_X5_init_116 hZ
  show zw_V X M_X1_init 2 56 2672 65 P (231 + 3) 51 2657 [.ref 65, .int 2] [.ref 116, .int 2, .ref 70] (kS_X5_init_116 (zw_pR (kS_X5_init_115 (zw_pR (kS_X5_init_114 (zw_pR (kS_X5_init_113 (zw_pR (kS_X5_init_112 (zw_pR (kS_X5_init_111 (zw_pR (kS_X5_init_110 (zw_pR (kS_X5_init_109 (zw_pR (kS_X5_init_108 (zw_pR (kS_X5_init_107 (zw_pR (kS_X5_init_106 (zw_pR (kS_X0_init_104 (zw_pR (kS_X0_init_102 (zw_pR (kS_X0_init_100 (zw_pR (kS_X0_init_98 (zw_pR (kS_X0_init_96 (zw_pR (kS_X0_init_94 (zw_pR (kS_X0_init_92 (zw_pR (kS_X0_init_90 (zw_pR (kS_X0_init_88 (zw_pR (kS_X0_init_86 (zw_pR (kS_X7_init_83 (zw_pR (kS_X7_init_80 (zw_pR (kS_X7_init_77 (zw_pR (kS_X7_init_74 (zw_pI (zw_pR (zw_pR (zw_pI (zw_pR (zw_pI (zw_pR (zw_pI (zw_pR (zw_pI (zw_pR (zw_pI (zw_pR (zw_pI (zw_pR S 65 0 66) 65 1 0) 65 2 67) 65 3 0) 65 4 68) 65 5 0) 65 6 69) 65 7 0) 65 8 70) 65 9 0) 65 10 71) 65 11 0) 65 12 72) 65 13 73) 65 14 0)) 66 0 74)) 66 1 77)) 66 2 80)) 66 3 83)) 67 0 86)) 67 1 88)) 67 2 90)) 67 3 92)) 67 4 94)) 67 5 96)) 68 0 98)) 68 1 100)) 68 2 102)) 68 3 104)) 69 0 106)) 69 1 107)) 69 2 108)) 69 3 109)) 69 4 110)) 69 5 111)) 69 6 112)) 69 7 113)) 70 0 114)) 70 1 115))
  refine kx_aast (pc := 234) (o := 70) (κ := 17) (j := 2) d_X1_init_234 ⟨by decide, by decide⟩ (by decide +kernel) (by decide) (by decide +kernel) (by decide +kernel) ⟨by decide, by decide⟩ (by decide +kernel) ?_
  have hZ := hZ.pR (o := 70) (j := 2) (v := 116) (by decide)
  refine kx_iinc (pc := 235) (x2 := 3) (L2 := [.ref 65, .int 3]) d_X1_init_235 (by decide) rfl zc_i_1 (by decide +kernel) rfl ?_
  refine zv_goto (pc := 238) (tg := 216) d_X1_init_238 (by decide) ?_
  refine zv_iload_n (pc := 216) d_X1_init_216 rfl ?_
  refine zv_bipush (pc := 217) d_X1_init_217 zc_b_8 ?_
  refine zv_icmp_ge (pc := 219) (tg := 241) d_X1_init_219 (by decide) (fun q => absurd q (by decide +kernel)) (fun _ => ?_)
  refine zv_aload_n (pc := 222) d_X1_init_222 rfl ?_
  refine kx_getR (pc := 223) (o := 65) (v := 70) d_X1_init_223 lk_CutStones_House_45 (by decide) ⟨by decide, by decide⟩ (by decide +kernel) rfl (by decide) ?_
  refine zv_iload_n (pc := 226) d_X1_init_226 rfl ?_
  refine kx_new (pc := 227) (c := 5) d_X1_init_227 rfl ⟨(zw_mG (List.mem_of_getElem? (i := 169) (by decide +kernel)) rfl), (zw_mG (List.mem_of_getElem? (i := 234) (by decide +kernel)) rfl), (zw_mG (List.mem_of_getElem? (i := 102) (by decide +kernel)) rfl)⟩ (by decide) rfl hZ ⟨by decide, by decide⟩ (by decide) (by decide +kernel) ?_
  have hZ := hZ.up
  refine zv_dup (pc := 230) d_X1_init_230 rfl ?_
  refine zv_callIN (pc := 231) (As := []) (o := 117) (st := [.ref 117, .int 3, .ref 70]) (d2 := 1) (mc2 := 0) (ms2 := 0) (M2 := M_X5_init) (R2 := fun r T => r = none ∧ T = kS_X5_init_117 (zw_pR (kS_X5_init_116 (zw_pR (kS_X5_init_115 (zw_pR (kS_X5_init_114 (zw_pR (kS_X5_init_113 (zw_pR (kS_X5_init_112 (zw_pR (kS_X5_init_111 (zw_pR (kS_X5_init_110 (zw_pR (kS_X5_init_109 (zw_pR (kS_X5_init_108 (zw_pR (kS_X5_init_107 (zw_pR (kS_X5_init_106 (zw_pR (kS_X0_init_104 (zw_pR (kS_X0_init_102 (zw_pR (kS_X0_init_100 (zw_pR (kS_X0_init_98 (zw_pR (kS_X0_init_96 (zw_pR (kS_X0_init_94 (zw_pR (kS_X0_init_92 (zw_pR (kS_X0_init_90 (zw_pR (kS_X0_init_88 (zw_pR (kS_X0_init_86 (zw_pR (kS_X7_init_83 (zw_pR (kS_X7_init_80 (zw_pR (kS_X7_init_77 (zw_pR (kS_X7_init_74 (zw_pI (zw_pR (zw_pR (zw_pI (zw_pR (zw_pI (zw_pR (zw_pI (zw_pR (zw_pI (zw_pR (zw_pI (zw_pR (zw_pI (zw_pR S 65 0 66) 65 1 0) 65 2 67) 65 3 0) 65 4 68) 65 5 0) 65 6 69) 65 7 0) 65 8 70) 65 9 0) 65 10 71) 65 11 0) 65 12 72) 65 13 73) 65 14 0)) 66 0 74)) 66 1 77)) 66 2 80)) 66 3 83)) 67 0 86)) 67 1 88)) 67 2 90)) 67 3 92)) 67 4 94)) 67 5 96)) 68 0 98)) 68 1 100)) 68 2 102)) 68 3 104)) 69 0 106)) 69 1 107)) 69 2 108)) 69 3 109)) 69 4 110)) 69 5 111)) 69 6 112)) 69 7 113)) 70 0 114)) 70 1 115)) 70 2 116)) d_X1_init_231 (by decide +kernel) ce_X5_init (Nat.le_of_ble_eq_true rfl) rfl (Nat.le_of_ble_eq_true rfl) (by decide) ⟨by decide, by decide⟩ (by decide) (k_X5_init_117 hZ ⟨rfl, rfl⟩) ?_
  rintro _ _ ⟨rfl, rfl⟩
  have hZ := kZ_X5_init_117 hZ
  show zw_V X M_X1_init 2 56 2672 65 P (231 + 3) 52 2660 [.ref 65, .int 3] [.ref 117, .int 3, .ref 70] (kS_X5_init_117 (zw_pR (kS_X5_init_116 (zw_pR (kS_X5_init_115 (zw_pR (kS_X5_init_114 (zw_pR (kS_X5_init_113 (zw_pR (kS_X5_init_112 (zw_pR (kS_X5_init_111 (zw_pR (kS_X5_init_110 (zw_pR (kS_X5_init_109 (zw_pR (kS_X5_init_108 (zw_pR (kS_X5_init_107 (zw_pR (kS_X5_init_106 (zw_pR (kS_X0_init_104 (zw_pR (kS_X0_init_102 (zw_pR (kS_X0_init_100 (zw_pR (kS_X0_init_98 (zw_pR (kS_X0_init_96 (zw_pR (kS_X0_init_94 (zw_pR (kS_X0_init_92 (zw_pR (kS_X0_init_90 (zw_pR (kS_X0_init_88 (zw_pR (kS_X0_init_86 (zw_pR (kS_X7_init_83 (zw_pR (kS_X7_init_80 (zw_pR (kS_X7_init_77 (zw_pR (kS_X7_init_74 (zw_pI (zw_pR (zw_pR (zw_pI (zw_pR (zw_pI (zw_pR (zw_pI (zw_pR (zw_pI (zw_pR (zw_pI (zw_pR (zw_pI (zw_pR S 65 0 66) 65 1 0) 65 2 67) 65 3 0) 65 4 68) 65 5 0) 65 6 69) 65 7 0) 65 8 70) 65 9 0) 65 10 71) 65 11 0) 65 12 72) 65 13 73) 65 14 0)) 66 0 74)) 66 1 77)) 66 2 80)) 66 3 83)) 67 0 86)) 67 1 88)) 67 2 90)) 67 3 92)) 67 4 94)) 67 5 96)) 68 0 98)) 68 1 100)) 68 2 102)) 68 3 104)) 69 0 106)) 69 1 107)) 69 2 108)) 69 3 109)) 69 4 110)) 69 5 111)) 69 6 112)) 69 7 113)) 70 0 114)) 70 1 115)) 70 2 116))
  refine kx_aast (pc := 234) (o := 70) (κ := 17) (j := 3) d_X1_init_234 ⟨by decide, by decide⟩ (by decide +kernel) (by decide) (by decide +kernel) (by decide +kernel) ⟨by decide, by decide⟩ (by decide +kernel) ?_
  have hZ := hZ.pR (o := 70) (j := 3) (v := 117) (by decide)
  refine kx_iinc (pc := 235) (x2 := 4) (L2 := [.ref 65, .int 4]) d_X1_init_235 (by decide) rfl zc_i_1 (by decide +kernel) rfl ?_
  refine zv_goto (pc := 238) (tg := 216) d_X1_init_238 (by decide) ?_
  refine zv_iload_n (pc := 216) d_X1_init_216 rfl ?_
  refine zv_bipush (pc := 217) d_X1_init_217 zc_b_8 ?_
  refine zv_icmp_ge (pc := 219) (tg := 241) d_X1_init_219 (by decide) (fun q => absurd q (by decide +kernel)) (fun _ => ?_)
  refine zv_aload_n (pc := 222) d_X1_init_222 rfl ?_
  refine kx_getR (pc := 223) (o := 65) (v := 70) d_X1_init_223 lk_CutStones_House_45 (by decide) ⟨by decide, by decide⟩ (by decide +kernel) rfl (by decide) ?_
  refine zv_iload_n (pc := 226) d_X1_init_226 rfl ?_
  refine kx_new (pc := 227) (c := 5) d_X1_init_227 rfl ⟨(zw_mG (List.mem_of_getElem? (i := 169) (by decide +kernel)) rfl), (zw_mG (List.mem_of_getElem? (i := 234) (by decide +kernel)) rfl), (zw_mG (List.mem_of_getElem? (i := 102) (by decide +kernel)) rfl)⟩ (by decide) rfl hZ ⟨by decide, by decide⟩ (by decide) (by decide +kernel) ?_
  have hZ := hZ.up
  refine zv_dup (pc := 230) d_X1_init_230 rfl ?_
  refine zv_callIN (pc := 231) (As := []) (o := 118) (st := [.ref 118, .int 4, .ref 70]) (d2 := 1) (mc2 := 0) (ms2 := 0) (M2 := M_X5_init) (R2 := fun r T => r = none ∧ T = kS_X5_init_118 (zw_pR (kS_X5_init_117 (zw_pR (kS_X5_init_116 (zw_pR (kS_X5_init_115 (zw_pR (kS_X5_init_114 (zw_pR (kS_X5_init_113 (zw_pR (kS_X5_init_112 (zw_pR (kS_X5_init_111 (zw_pR (kS_X5_init_110 (zw_pR (kS_X5_init_109 (zw_pR (kS_X5_init_108 (zw_pR (kS_X5_init_107 (zw_pR (kS_X5_init_106 (zw_pR (kS_X0_init_104 (zw_pR (kS_X0_init_102 (zw_pR (kS_X0_init_100 (zw_pR (kS_X0_init_98 (zw_pR (kS_X0_init_96 (zw_pR (kS_X0_init_94 (zw_pR (kS_X0_init_92 (zw_pR (kS_X0_init_90 (zw_pR (kS_X0_init_88 (zw_pR (kS_X0_init_86 (zw_pR (kS_X7_init_83 (zw_pR (kS_X7_init_80 (zw_pR (kS_X7_init_77 (zw_pR (kS_X7_init_74 (zw_pI (zw_pR (zw_pR (zw_pI (zw_pR (zw_pI (zw_pR (zw_pI (zw_pR (zw_pI (zw_pR (zw_pI (zw_pR (zw_pI (zw_pR S 65 0 66) 65 1 0) 65 2 67) 65 3 0) 65 4 68) 65 5 0) 65 6 69) 65 7 0) 65 8 70) 65 9 0) 65 10 71) 65 11 0) 65 12 72) 65 13 73) 65 14 0)) 66 0 74)) 66 1 77)) 66 2 80)) 66 3 83)) 67 0 86)) 67 1 88)) 67 2 90)) 67 3 92)) 67 4 94)) 67 5 96)) 68 0 98)) 68 1 100)) 68 2 102)) 68 3 104)) 69 0 106)) 69 1 107)) 69 2 108)) 69 3 109)) 69 4 110)) 69 5 111)) 69 6 112)) 69 7 113)) 70 0 114)) 70 1 115)) 70 2 116)) 70 3 117)) d_X1_init_231 (by decide +kernel) ce_X5_init (Nat.le_of_ble_eq_true rfl) rfl (Nat.le_of_ble_eq_true rfl) (by decide) ⟨by decide, by decide⟩ (by decide) (k_X5_init_118 hZ ⟨rfl, rfl⟩) ?_
  rintro _ _ ⟨rfl, rfl⟩
  have hZ := kZ_X5_init_118 hZ
  show zw_V X M_X1_init 2 56 2672 65 P (231 + 3) 53 2663 [.ref 65, .int 4] [.ref 118, .int 4, .ref 70] (kS_X5_init_118 (zw_pR (kS_X5_init_117 (zw_pR (kS_X5_init_116 (zw_pR (kS_X5_init_115 (zw_pR (kS_X5_init_114 (zw_pR (kS_X5_init_113 (zw_pR (kS_X5_init_112 (zw_pR (kS_X5_init_111 (zw_pR (kS_X5_init_110 (zw_pR (kS_X5_init_109 (zw_pR (kS_X5_init_108 (zw_pR (kS_X5_init_107 (zw_pR (kS_X5_init_106 (zw_pR (kS_X0_init_104 (zw_pR (kS_X0_init_102 (zw_pR (kS_X0_init_100 (zw_pR (kS_X0_init_98 (zw_pR (kS_X0_init_96 (zw_pR (kS_X0_init_94 (zw_pR (kS_X0_init_92 (zw_pR (kS_X0_init_90 (zw_pR (kS_X0_init_88 (zw_pR (kS_X0_init_86 (zw_pR (kS_X7_init_83 (zw_pR (kS_X7_init_80 (zw_pR (kS_X7_init_77 (zw_pR (kS_X7_init_74 (zw_pI (zw_pR (zw_pR (zw_pI (zw_pR (zw_pI (zw_pR (zw_pI (zw_pR (zw_pI (zw_pR (zw_pI (zw_pR (zw_pI (zw_pR S 65 0 66) 65 1 0) 65 2 67) 65 3 0) 65 4 68) 65 5 0) 65 6 69) 65 7 0) 65 8 70) 65 9 0) 65 10 71) 65 11 0) 65 12 72) 65 13 73) 65 14 0)) 66 0 74)) 66 1 77)) 66 2 80)) 66 3 83)) 67 0 86)) 67 1 88)) 67 2 90)) 67 3 92)) 67 4 94)) 67 5 96)) 68 0 98)) 68 1 100)) 68 2 102)) 68 3 104)) 69 0 106)) 69 1 107)) 69 2 108)) 69 3 109)) 69 4 110)) 69 5 111)) 69 6 112)) 69 7 113)) 70 0 114)) 70 1 115)) 70 2 116)) 70 3 117))
  refine kx_aast (pc := 234) (o := 70) (κ := 17) (j := 4) d_X1_init_234 ⟨by decide, by decide⟩ (by decide +kernel) (by decide) (by decide +kernel) (by decide +kernel) ⟨by decide, by decide⟩ (by decide +kernel) ?_
  have hZ := hZ.pR (o := 70) (j := 4) (v := 118) (by decide)
  refine kx_iinc (pc := 235) (x2 := 5) (L2 := [.ref 65, .int 5]) d_X1_init_235 (by decide) rfl zc_i_1 (by decide +kernel) rfl ?_
  refine zv_goto (pc := 238) (tg := 216) d_X1_init_238 (by decide) ?_
  refine zv_iload_n (pc := 216) d_X1_init_216 rfl ?_
  refine zv_bipush (pc := 217) d_X1_init_217 zc_b_8 ?_
  refine zv_icmp_ge (pc := 219) (tg := 241) d_X1_init_219 (by decide) (fun q => absurd q (by decide +kernel)) (fun _ => ?_)
  refine zv_aload_n (pc := 222) d_X1_init_222 rfl ?_
  refine kx_getR (pc := 223) (o := 65) (v := 70) d_X1_init_223 lk_CutStones_House_45 (by decide) ⟨by decide, by decide⟩ (by decide +kernel) rfl (by decide) ?_
  refine zv_iload_n (pc := 226) d_X1_init_226 rfl ?_
  refine kx_new (pc := 227) (c := 5) d_X1_init_227 rfl ⟨(zw_mG (List.mem_of_getElem? (i := 169) (by decide +kernel)) rfl), (zw_mG (List.mem_of_getElem? (i := 234) (by decide +kernel)) rfl), (zw_mG (List.mem_of_getElem? (i := 102) (by decide +kernel)) rfl)⟩ (by decide) rfl hZ ⟨by decide, by decide⟩ (by decide) (by decide +kernel) ?_
  have hZ := hZ.up
  refine zv_dup (pc := 230) d_X1_init_230 rfl ?_
  refine zv_callIN (pc := 231) (As := []) (o := 119) (st := [.ref 119, .int 5, .ref 70]) (d2 := 1) (mc2 := 0) (ms2 := 0) (M2 := M_X5_init) (R2 := fun r T => r = none ∧ T = kS_X5_init_119 (zw_pR (kS_X5_init_118 (zw_pR (kS_X5_init_117 (zw_pR (kS_X5_init_116 (zw_pR (kS_X5_init_115 (zw_pR (kS_X5_init_114 (zw_pR (kS_X5_init_113 (zw_pR (kS_X5_init_112 (zw_pR (kS_X5_init_111 (zw_pR (kS_X5_init_110 (zw_pR (kS_X5_init_109 (zw_pR (kS_X5_init_108 (zw_pR (kS_X5_init_107 (zw_pR (kS_X5_init_106 (zw_pR (kS_X0_init_104 (zw_pR (kS_X0_init_102 (zw_pR (kS_X0_init_100 (zw_pR (kS_X0_init_98 (zw_pR (kS_X0_init_96 (zw_pR (kS_X0_init_94 (zw_pR (kS_X0_init_92 (zw_pR (kS_X0_init_90 (zw_pR (kS_X0_init_88 (zw_pR (kS_X0_init_86 (zw_pR (kS_X7_init_83 (zw_pR (kS_X7_init_80 (zw_pR (kS_X7_init_77 (zw_pR (kS_X7_init_74 (zw_pI (zw_pR (zw_pR (zw_pI (zw_pR (zw_pI (zw_pR (zw_pI (zw_pR (zw_pI (zw_pR (zw_pI (zw_pR (zw_pI (zw_pR S 65 0 66) 65 1 0) 65 2 67) 65 3 0) 65 4 68) 65 5 0) 65 6 69) 65 7 0) 65 8 70) 65 9 0) 65 10 71) 65 11 0) 65 12 72) 65 13 73) 65 14 0)) 66 0 74)) 66 1 77)) 66 2 80)) 66 3 83)) 67 0 86)) 67 1 88)) 67 2 90)) 67 3 92)) 67 4 94)) 67 5 96)) 68 0 98)) 68 1 100)) 68 2 102)) 68 3 104)) 69 0 106)) 69 1 107)) 69 2 108)) 69 3 109)) 69 4 110)) 69 5 111)) 69 6 112)) 69 7 113)) 70 0 114)) 70 1 115)) 70 2 116)) 70 3 117)) 70 4 118)) d_X1_init_231 (by decide +kernel) ce_X5_init (Nat.le_of_ble_eq_true rfl) rfl (Nat.le_of_ble_eq_true rfl) (by decide) ⟨by decide, by decide⟩ (by decide) (k_X5_init_119 hZ ⟨rfl, rfl⟩) ?_
  rintro _ _ ⟨rfl, rfl⟩
  have hZ := kZ_X5_init_119 hZ
  show zw_V X M_X1_init 2 56 2672 65 P (231 + 3) 54 2666 [.ref 65, .int 5] [.ref 119, .int 5, .ref 70] (kS_X5_init_119 (zw_pR (kS_X5_init_118 (zw_pR (kS_X5_init_117 (zw_pR (kS_X5_init_116 (zw_pR (kS_X5_init_115 (zw_pR (kS_X5_init_114 (zw_pR (kS_X5_init_113 (zw_pR (kS_X5_init_112 (zw_pR (kS_X5_init_111 (zw_pR (kS_X5_init_110 (zw_pR (kS_X5_init_109 (zw_pR (kS_X5_init_108 (zw_pR (kS_X5_init_107 (zw_pR (kS_X5_init_106 (zw_pR (kS_X0_init_104 (zw_pR (kS_X0_init_102 (zw_pR (kS_X0_init_100 (zw_pR (kS_X0_init_98 (zw_pR (kS_X0_init_96 (zw_pR (kS_X0_init_94 (zw_pR (kS_X0_init_92 (zw_pR (kS_X0_init_90 (zw_pR (kS_X0_init_88 (zw_pR (kS_X0_init_86 (zw_pR (kS_X7_init_83 (zw_pR (kS_X7_init_80 (zw_pR (kS_X7_init_77 (zw_pR (kS_X7_init_74 (zw_pI (zw_pR (zw_pR (zw_pI (zw_pR (zw_pI (zw_pR (zw_pI (zw_pR (zw_pI (zw_pR (zw_pI (zw_pR (zw_pI (zw_pR S 65 0 66) 65 1 0) 65 2 67) 65 3 0) 65 4 68) 65 5 0) 65 6 69) 65 7 0) 65 8 70) 65 9 0) 65 10 71) 65 11 0) 65 12 72) 65 13 73) 65 14 0)) 66 0 74)) 66 1 77)) 66 2 80)) 66 3 83)) 67 0 86)) 67 1 88)) 67 2 90)) 67 3 92)) 67 4 94)) 67 5 96)) 68 0 98)) 68 1 100)) 68 2 102)) 68 3 104)) 69 0 106)) 69 1 107)) 69 2 108)) 69 3 109)) 69 4 110)) 69 5 111)) 69 6 112)) 69 7 113)) 70 0 114)) 70 1 115)) 70 2 116)) 70 3 117)) 70 4 118))
  refine kx_aast (pc := 234) (o := 70) (κ := 17) (j := 5) d_X1_init_234 ⟨by decide, by decide⟩ (by decide +kernel) (by decide) (by decide +kernel) (by decide +kernel) ⟨by decide, by decide⟩ (by decide +kernel) ?_
  have hZ := hZ.pR (o := 70) (j := 5) (v := 119) (by decide)
  refine kx_iinc (pc := 235) (x2 := 6) (L2 := [.ref 65, .int 6]) d_X1_init_235 (by decide) rfl zc_i_1 (by decide +kernel) rfl ?_
  refine zv_goto (pc := 238) (tg := 216) d_X1_init_238 (by decide) ?_
  refine zv_iload_n (pc := 216) d_X1_init_216 rfl ?_
  refine zv_bipush (pc := 217) d_X1_init_217 zc_b_8 ?_
  refine zv_icmp_ge (pc := 219) (tg := 241) d_X1_init_219 (by decide) (fun q => absurd q (by decide +kernel)) (fun _ => ?_)
  refine zv_aload_n (pc := 222) d_X1_init_222 rfl ?_
  refine kx_getR (pc := 223) (o := 65) (v := 70) d_X1_init_223 lk_CutStones_House_45 (by decide) ⟨by decide, by decide⟩ (by decide +kernel) rfl (by decide) ?_
  refine zv_iload_n (pc := 226) d_X1_init_226 rfl ?_
  refine kx_new (pc := 227) (c := 5) d_X1_init_227 rfl ⟨(zw_mG (List.mem_of_getElem? (i := 169) (by decide +kernel)) rfl), (zw_mG (List.mem_of_getElem? (i := 234) (by decide +kernel)) rfl), (zw_mG (List.mem_of_getElem? (i := 102) (by decide +kernel)) rfl)⟩ (by decide) rfl hZ ⟨by decide, by decide⟩ (by decide) (by decide +kernel) ?_
  have hZ := hZ.up
  refine zv_dup (pc := 230) d_X1_init_230 rfl ?_
  refine zv_callIN (pc := 231) (As := []) (o := 120) (st := [.ref 120, .int 6, .ref 70]) (d2 := 1) (mc2 := 0) (ms2 := 0) (M2 := M_X5_init) (R2 := fun r T => r = none ∧ T = kS_X5_init_120 (zw_pR (kS_X5_init_119 (zw_pR (kS_X5_init_118 (zw_pR (kS_X5_init_117 (zw_pR (kS_X5_init_116 (zw_pR (kS_X5_init_115 (zw_pR (kS_X5_init_114 (zw_pR (kS_X5_init_113 (zw_pR (kS_X5_init_112 (zw_pR (kS_X5_init_111 (zw_pR (kS_X5_init_110 (zw_pR (kS_X5_init_109 (zw_pR (kS_X5_init_108 (zw_pR (kS_X5_init_107 (zw_pR (kS_X5_init_106 (zw_pR (kS_X0_init_104 (zw_pR (kS_X0_init_102 (zw_pR (kS_X0_init_100 (zw_pR (kS_X0_init_98 (zw_pR (kS_X0_init_96 (zw_pR (kS_X0_init_94 (zw_pR (kS_X0_init_92 (zw_pR (kS_X0_init_90 (zw_pR (kS_X0_init_88 (zw_pR (kS_X0_init_86 (zw_pR (kS_X7_init_83 (zw_pR (kS_X7_init_80 (zw_pR (kS_X7_init_77 (zw_pR (kS_X7_init_74 (zw_pI (zw_pR (zw_pR (zw_pI (zw_pR (zw_pI (zw_pR (zw_pI (zw_pR (zw_pI (zw_pR (zw_pI (zw_pR (zw_pI (zw_pR S 65 0 66) 65 1 0) 65 2 67) 65 3 0) 65 4 68) 65 5 0) 65 6 69) 65 7 0) 65 8 70) 65 9 0) 65 10 71) 65 11 0) 65 12 72) 65 13 73) 65 14 0)) 66 0 74)) 66 1 77)) 66 2 80)) 66 3 83)) 67 0 86)) 67 1 88)) 67 2 90)) 67 3 92)) 67 4 94)) 67 5 96)) 68 0 98)) 68 1 100)) 68 2 102)) 68 3 104)) 69 0 106)) 69 1 107)) 69 2 108)) 69 3 109)) 69 4 110)) 69 5 111)) 69 6 112)) 69 7 113)) 70 0 114)) 70 1 115)) 70 2 116)) 70 3 117)) 70 4 118)) 70 5 119)) d_X1_init_231 (by decide +kernel) ce_X5_init (Nat.le_of_ble_eq_true rfl) rfl (Nat.le_of_ble_eq_true rfl) (by decide) ⟨by decide, by decide⟩ (by decide) (k_X5_init_120 hZ ⟨rfl, rfl⟩) ?_
  rintro _ _ ⟨rfl, rfl⟩
  have hZ := kZ_X5_init_120 hZ
  show zw_V X M_X1_init 2 56 2672 65 P (231 + 3) 55 2669 [.ref 65, .int 6] [.ref 120, .int 6, .ref 70] (kS_X5_init_120 (zw_pR (kS_X5_init_119 (zw_pR (kS_X5_init_118 (zw_pR (kS_X5_init_117 (zw_pR (kS_X5_init_116 (zw_pR (kS_X5_init_115 (zw_pR (kS_X5_init_114 (zw_pR (kS_X5_init_113 (zw_pR (kS_X5_init_112 (zw_pR (kS_X5_init_111 (zw_pR (kS_X5_init_110 (zw_pR (kS_X5_init_109 (zw_pR (kS_X5_init_108 (zw_pR (kS_X5_init_107 (zw_pR (kS_X5_init_106 (zw_pR (kS_X0_init_104 (zw_pR (kS_X0_init_102 (zw_pR (kS_X0_init_100 (zw_pR (kS_X0_init_98 (zw_pR (kS_X0_init_96 (zw_pR (kS_X0_init_94 (zw_pR (kS_X0_init_92 (zw_pR (kS_X0_init_90 (zw_pR (kS_X0_init_88 (zw_pR (kS_X0_init_86 (zw_pR (kS_X7_init_83 (zw_pR (kS_X7_init_80 (zw_pR (kS_X7_init_77 (zw_pR (kS_X7_init_74 (zw_pI (zw_pR (zw_pR (zw_pI (zw_pR (zw_pI (zw_pR (zw_pI (zw_pR (zw_pI (zw_pR (zw_pI (zw_pR (zw_pI (zw_pR S 65 0 66) 65 1 0) 65 2 67) 65 3 0) 65 4 68) 65 5 0) 65 6 69) 65 7 0) 65 8 70) 65 9 0) 65 10 71) 65 11 0) 65 12 72) 65 13 73) 65 14 0)) 66 0 74)) 66 1 77)) 66 2 80)) 66 3 83)) 67 0 86)) 67 1 88)) 67 2 90)) 67 3 92)) 67 4 94)) 67 5 96)) 68 0 98)) 68 1 100)) 68 2 102)) 68 3 104)) 69 0 106)) 69 1 107)) 69 2 108)) 69 3 109)) 69 4 110)) 69 5 111)) 69 6 112)) 69 7 113)) 70 0 114)) 70 1 115)) 70 2 116)) 70 3 117)) 70 4 118)) 70 5 119))
  refine kx_aast (pc := 234) (o := 70) (κ := 17) (j := 6) d_X1_init_234 ⟨by decide, by decide⟩ (by decide +kernel) (by decide) (by decide +kernel) (by decide +kernel) ⟨by decide, by decide⟩ (by decide +kernel) ?_
  have hZ := hZ.pR (o := 70) (j := 6) (v := 120) (by decide)
  refine kx_iinc (pc := 235) (x2 := 7) (L2 := [.ref 65, .int 7]) d_X1_init_235 (by decide) rfl zc_i_1 (by decide +kernel) rfl ?_
  refine zv_goto (pc := 238) (tg := 216) d_X1_init_238 (by decide) ?_
  refine zv_iload_n (pc := 216) d_X1_init_216 rfl ?_
  refine zv_bipush (pc := 217) d_X1_init_217 zc_b_8 ?_
  refine zv_icmp_ge (pc := 219) (tg := 241) d_X1_init_219 (by decide) (fun q => absurd q (by decide +kernel)) (fun _ => ?_)
  refine zv_aload_n (pc := 222) d_X1_init_222 rfl ?_
  refine kx_getR (pc := 223) (o := 65) (v := 70) d_X1_init_223 lk_CutStones_House_45 (by decide) ⟨by decide, by decide⟩ (by decide +kernel) rfl (by decide) ?_
  refine zv_iload_n (pc := 226) d_X1_init_226 rfl ?_
  refine kx_new (pc := 227) (c := 5) d_X1_init_227 rfl ⟨(zw_mG (List.mem_of_getElem? (i := 169) (by decide +kernel)) rfl), (zw_mG (List.mem_of_getElem? (i := 234) (by decide +kernel)) rfl), (zw_mG (List.mem_of_getElem? (i := 102) (by decide +kernel)) rfl)⟩ (by decide) rfl hZ ⟨by decide, by decide⟩ (by decide) (by decide +kernel) ?_
  have hZ := hZ.up
  refine zv_dup (pc := 230) d_X1_init_230 rfl ?_
  refine zv_callIN (pc := 231) (As := []) (o := 121) (st := [.ref 121, .int 7, .ref 70]) (d2 := 1) (mc2 := 0) (ms2 := 0) (M2 := M_X5_init) (R2 := fun r T => r = none ∧ T = kS_X5_init_121 (zw_pR (kS_X5_init_120 (zw_pR (kS_X5_init_119 (zw_pR (kS_X5_init_118 (zw_pR (kS_X5_init_117 (zw_pR (kS_X5_init_116 (zw_pR (kS_X5_init_115 (zw_pR (kS_X5_init_114 (zw_pR (kS_X5_init_113 (zw_pR (kS_X5_init_112 (zw_pR (kS_X5_init_111 (zw_pR (kS_X5_init_110 (zw_pR (kS_X5_init_109 (zw_pR (kS_X5_init_108 (zw_pR (kS_X5_init_107 (zw_pR (kS_X5_init_106 (zw_pR (kS_X0_init_104 (zw_pR (kS_X0_init_102 (zw_pR (kS_X0_init_100 (zw_pR (kS_X0_init_98 (zw_pR (kS_X0_init_96 (zw_pR (kS_X0_init_94 (zw_pR (kS_X0_init_92 (zw_pR (kS_X0_init_90 (zw_pR (kS_X0_init_88 (zw_pR (kS_X0_init_86 (zw_pR (kS_X7_init_83 (zw_pR (kS_X7_init_80 (zw_pR (kS_X7_init_77 (zw_pR (kS_X7_init_74 (zw_pI (zw_pR (zw_pR (zw_pI (zw_pR (zw_pI (zw_pR (zw_pI (zw_pR (zw_pI (zw_pR (zw_pI (zw_pR (zw_pI (zw_pR S 65 0 66) 65 1 0) 65 2 67) 65 3 0) 65 4 68) 65 5 0) 65 6 69) 65 7 0) 65 8 70) 65 9 0) 65 10 71) 65 11 0) 65 12 72) 65 13 73) 65 14 0)) 66 0 74)) 66 1 77)) 66 2 80)) 66 3 83)) 67 0 86)) 67 1 88)) 67 2 90)) 67 3 92)) 67 4 94)) 67 5 96)) 68 0 98)) 68 1 100)) 68 2 102)) 68 3 104)) 69 0 106)) 69 1 107)) 69 2 108)) 69 3 109)) 69 4 110)) 69 5 111)) 69 6 112)) 69 7 113)) 70 0 114)) 70 1 115)) 70 2 116)) 70 3 117)) 70 4 118)) 70 5 119)) 70 6 120)) d_X1_init_231 (by decide +kernel) ce_X5_init (Nat.le_of_ble_eq_true rfl) rfl (Nat.le_of_ble_eq_true rfl) (by decide) ⟨by decide, by decide⟩ (by decide) (k_X5_init_121 hZ ⟨rfl, rfl⟩) ?_
  rintro _ _ ⟨rfl, rfl⟩
  have hZ := kZ_X5_init_121 hZ
  show zw_V X M_X1_init 2 56 2672 65 P (231 + 3) 56 2672 [.ref 65, .int 7] [.ref 121, .int 7, .ref 70] (kS_X5_init_121 (zw_pR (kS_X5_init_120 (zw_pR (kS_X5_init_119 (zw_pR (kS_X5_init_118 (zw_pR (kS_X5_init_117 (zw_pR (kS_X5_init_116 (zw_pR (kS_X5_init_115 (zw_pR (kS_X5_init_114 (zw_pR (kS_X5_init_113 (zw_pR (kS_X5_init_112 (zw_pR (kS_X5_init_111 (zw_pR (kS_X5_init_110 (zw_pR (kS_X5_init_109 (zw_pR (kS_X5_init_108 (zw_pR (kS_X5_init_107 (zw_pR (kS_X5_init_106 (zw_pR (kS_X0_init_104 (zw_pR (kS_X0_init_102 (zw_pR (kS_X0_init_100 (zw_pR (kS_X0_init_98 (zw_pR (kS_X0_init_96 (zw_pR (kS_X0_init_94 (zw_pR (kS_X0_init_92 (zw_pR (kS_X0_init_90 (zw_pR (kS_X0_init_88 (zw_pR (kS_X0_init_86 (zw_pR (kS_X7_init_83 (zw_pR (kS_X7_init_80 (zw_pR (kS_X7_init_77 (zw_pR (kS_X7_init_74 (zw_pI (zw_pR (zw_pR (zw_pI (zw_pR (zw_pI (zw_pR (zw_pI (zw_pR (zw_pI (zw_pR (zw_pI (zw_pR (zw_pI (zw_pR S 65 0 66) 65 1 0) 65 2 67) 65 3 0) 65 4 68) 65 5 0) 65 6 69) 65 7 0) 65 8 70) 65 9 0) 65 10 71) 65 11 0) 65 12 72) 65 13 73) 65 14 0)) 66 0 74)) 66 1 77)) 66 2 80)) 66 3 83)) 67 0 86)) 67 1 88)) 67 2 90)) 67 3 92)) 67 4 94)) 67 5 96)) 68 0 98)) 68 1 100)) 68 2 102)) 68 3 104)) 69 0 106)) 69 1 107)) 69 2 108)) 69 3 109)) 69 4 110)) 69 5 111)) 69 6 112)) 69 7 113)) 70 0 114)) 70 1 115)) 70 2 116)) 70 3 117)) 70 4 118)) 70 5 119)) 70 6 120))
  refine kx_aast (pc := 234) (o := 70) (κ := 17) (j := 7) d_X1_init_234 ⟨by decide, by decide⟩ (by decide +kernel) (by decide) (by decide +kernel) (by decide +kernel) ⟨by decide, by decide⟩ (by decide +kernel) ?_
  have hZ := hZ.pR (o := 70) (j := 7) (v := 121) (by decide)
  refine kx_iinc (pc := 235) (x2 := 8) (L2 := [.ref 65, .int 8]) d_X1_init_235 (by decide) rfl zc_i_1 (by decide +kernel) rfl ?_
  refine zv_goto (pc := 238) (tg := 216) d_X1_init_238 (by decide) ?_
  refine zv_iload_n (pc := 216) d_X1_init_216 rfl ?_
  refine zv_bipush (pc := 217) d_X1_init_217 zc_b_8 ?_
  refine zv_icmp_ge (pc := 219) (tg := 241) d_X1_init_219 (by decide) (fun _ => ?_) (fun q => absurd (by decide +kernel) q)
  exact zv_vret (pc := 241) d_X1_init_241 rfl rfl (Nat.le_refl _) hP
