theorem lk_CutStones_Stuff_18 : zw_FL "CutStones$Stuff" 18 7 2 false := ⟨_, rfl, by decide, (zw_mG (List.mem_of_getElem? (i := 180) (by decide +kernel)) rfl), rfl⟩
abbrev M_X10_init : zw_M := (⟨"CutStones", "<init>", "()V"⟩, prog_1_method_1_code, 1, (Option.none : Option Jvm.ClassFile.FieldType))
theorem d_X10_init_0 : decode M_X10_init.2.1 0 = .ok (.aload_n 0, 1) := by decide +kernel
theorem d_X10_init_1 : decode M_X10_init.2.1 1 = .ok (.invokespecial 1, 3) := by decide +kernel
theorem d_X10_init_4 : decode M_X10_init.2.1 4 = .ok (.aload_n 0, 1) := by decide +kernel
theorem d_X10_init_5 : decode M_X10_init.2.1 5 = .ok (.new 7, 3) := by decide +kernel
theorem d_X10_init_8 : decode M_X10_init.2.1 8 = .ok (.dup, 1) := by decide +kernel
theorem d_X10_init_9 : decode M_X10_init.2.1 9 = .ok (.invokespecial 9, 3) := by decide +kernel
theorem d_X10_init_12 : decode M_X10_init.2.1 12 = .ok (.putfield 10, 3) := by decide +kernel
theorem d_X10_init_15 : decode M_X10_init.2.1 15 = .ok (.aload_n 0, 1) := by decide +kernel
theorem d_X10_init_16 : decode M_X10_init.2.1 16 = .ok (.new 16, 3) := by decide +kernel
theorem d_X10_init_19 : decode M_X10_init.2.1 19 = .ok (.dup, 1) := by decide +kernel
theorem d_X10_init_20 : decode M_X10_init.2.1 20 = .ok (.invokespecial 18, 3) := by decide +kernel
theorem d_X10_init_23 : decode M_X10_init.2.1 23 = .ok (.putfield 19, 3) := by decide +kernel
theorem d_X10_init_26 : decode M_X10_init.2.1 26 = .ok (.aload_n 0, 1) := by decide +kernel
theorem d_X10_init_27 : decode M_X10_init.2.1 27 = .ok (.new 23, 3) := by decide +kernel
theorem d_X10_init_30 : decode M_X10_init.2.1 30 = .ok (.dup, 1) := by decide +kernel
theorem d_X10_init_31 : decode M_X10_init.2.1 31 = .ok (.invokespecial 25, 3) := by decide +kernel
theorem d_X10_init_34 : decode M_X10_init.2.1 34 = .ok (.putfield 26, 3) := by decide +kernel
theorem d_X10_init_37 : decode M_X10_init.2.1 37 = .ok (.aload_n 0, 1) := by decide +kernel
theorem d_X10_init_38 : decode M_X10_init.2.1 38 = .ok (.new 30, 3) := by decide +kernel
theorem d_X10_init_41 : decode M_X10_init.2.1 41 = .ok (.dup, 1) := by decide +kernel
theorem d_X10_init_42 : decode M_X10_init.2.1 42 = .ok (.invokespecial 32, 3) := by decide +kernel
theorem d_X10_init_45 : decode M_X10_init.2.1 45 = .ok (.putfield 33, 3) := by decide +kernel
theorem d_X10_init_48 : decode M_X10_init.2.1 48 = .ok (.aload_n 0, 1) := by decide +kernel
theorem d_X10_init_49 : decode M_X10_init.2.1 49 = .ok (.iconst 0, 1) := by decide +kernel
theorem d_X10_init_50 : decode M_X10_init.2.1 50 = .ok (.putfield 37, 3) := by decide +kernel
theorem d_X10_init_53 : decode M_X10_init.2.1 53 = .ok (.aload_n 0, 1) := by decide +kernel
theorem d_X10_init_54 : decode M_X10_init.2.1 54 = .ok (.new 41, 3) := by decide +kernel
theorem d_X10_init_57 : decode M_X10_init.2.1 57 = .ok (.dup, 1) := by decide +kernel
theorem d_X10_init_58 : decode M_X10_init.2.1 58 = .ok (.invokespecial 43, 3) := by decide +kernel
theorem d_X10_init_61 : decode M_X10_init.2.1 61 = .ok (.putfield 44, 3) := by decide +kernel
theorem d_X10_init_64 : decode M_X10_init.2.1 64 = .ok (.aload_n 0, 1) := by decide +kernel
theorem d_X10_init_65 : decode M_X10_init.2.1 65 = .ok (.iconst 0, 1) := by decide +kernel
theorem d_X10_init_66 : decode M_X10_init.2.1 66 = .ok (.putfield 48, 3) := by decide +kernel
theorem d_X10_init_69 : decode M_X10_init.2.1 69 = .ok (.aload_n 0, 1) := by decide +kernel
theorem d_X10_init_70 : decode M_X10_init.2.1 70 = .ok (.new 41, 3) := by decide +kernel
theorem d_X10_init_73 : decode M_X10_init.2.1 73 = .ok (.dup, 1) := by decide +kernel
theorem d_X10_init_74 : decode M_X10_init.2.1 74 = .ok (.invokespecial 43, 3) := by decide +kernel
theorem d_X10_init_77 : decode M_X10_init.2.1 77 = .ok (.putfield 51, 3) := by decide +kernel
theorem d_X10_init_80 : decode M_X10_init.2.1 80 = .ok (.aload_n 0, 1) := by decide +kernel
theorem d_X10_init_81 : decode M_X10_init.2.1 81 = .ok (.new 54, 3) := by decide +kernel
theorem d_X10_init_84 : decode M_X10_init.2.1 84 = .ok (.dup, 1) := by decide +kernel
theorem d_X10_init_85 : decode M_X10_init.2.1 85 = .ok (.invokespecial 56, 3) := by decide +kernel
theorem d_X10_init_88 : decode M_X10_init.2.1 88 = .ok (.putfield 57, 3) := by decide +kernel
theorem d_X10_init_91 : decode M_X10_init.2.1 91 = .ok (.aload_n 0, 1) := by decide +kernel
theorem d_X10_init_92 : decode M_X10_init.2.1 92 = .ok (.bipush 6, 2) := by decide +kernel
theorem d_X10_init_94 : decode M_X10_init.2.1 94 = .ok (.newarray .int, 2) := by decide +kernel
theorem d_X10_init_96 : decode M_X10_init.2.1 96 = .ok (.putfield 61, 3) := by decide +kernel
theorem d_X10_init_99 : decode M_X10_init.2.1 99 = .ok (.aload_n 0, 1) := by decide +kernel
theorem d_X10_init_100 : decode M_X10_init.2.1 100 = .ok (.bipush 7, 2) := by decide +kernel
theorem d_X10_init_102 : decode M_X10_init.2.1 102 = .ok (.newarray .int, 2) := by decide +kernel
theorem d_X10_init_104 : decode M_X10_init.2.1 104 = .ok (.dup, 1) := by decide +kernel
theorem d_X10_init_105 : decode M_X10_init.2.1 105 = .ok (.iconst 0, 1) := by decide +kernel
theorem d_X10_init_106 : decode M_X10_init.2.1 106 = .ok (.iconst (-1), 1) := by decide +kernel
theorem d_X10_init_107 : decode M_X10_init.2.1 107 = .ok (.iastore, 1) := by decide +kernel
theorem d_X10_init_108 : decode M_X10_init.2.1 108 = .ok (.dup, 1) := by decide +kernel
theorem d_X10_init_109 : decode M_X10_init.2.1 109 = .ok (.iconst 1, 1) := by decide +kernel
theorem d_X10_init_110 : decode M_X10_init.2.1 110 = .ok (.iconst (-1), 1) := by decide +kernel
theorem d_X10_init_111 : decode M_X10_init.2.1 111 = .ok (.iastore, 1) := by decide +kernel
theorem d_X10_init_112 : decode M_X10_init.2.1 112 = .ok (.dup, 1) := by decide +kernel
theorem d_X10_init_113 : decode M_X10_init.2.1 113 = .ok (.iconst 2, 1) := by decide +kernel
theorem d_X10_init_114 : decode M_X10_init.2.1 114 = .ok (.iconst (-1), 1) := by decide +kernel
theorem d_X10_init_115 : decode M_X10_init.2.1 115 = .ok (.iastore, 1) := by decide +kernel
theorem d_X10_init_116 : decode M_X10_init.2.1 116 = .ok (.dup, 1) := by decide +kernel
theorem d_X10_init_117 : decode M_X10_init.2.1 117 = .ok (.iconst 3, 1) := by decide +kernel
theorem d_X10_init_118 : decode M_X10_init.2.1 118 = .ok (.iconst (-1), 1) := by decide +kernel
theorem d_X10_init_119 : decode M_X10_init.2.1 119 = .ok (.iastore, 1) := by decide +kernel
theorem d_X10_init_120 : decode M_X10_init.2.1 120 = .ok (.dup, 1) := by decide +kernel
theorem d_X10_init_121 : decode M_X10_init.2.1 121 = .ok (.iconst 4, 1) := by decide +kernel
theorem d_X10_init_122 : decode M_X10_init.2.1 122 = .ok (.iconst (-1), 1) := by decide +kernel
theorem d_X10_init_123 : decode M_X10_init.2.1 123 = .ok (.iastore, 1) := by decide +kernel
theorem d_X10_init_124 : decode M_X10_init.2.1 124 = .ok (.dup, 1) := by decide +kernel
theorem d_X10_init_125 : decode M_X10_init.2.1 125 = .ok (.iconst 5, 1) := by decide +kernel
theorem d_X10_init_126 : decode M_X10_init.2.1 126 = .ok (.iconst (-1), 1) := by decide +kernel
theorem d_X10_init_127 : decode M_X10_init.2.1 127 = .ok (.iastore, 1) := by decide +kernel
theorem d_X10_init_128 : decode M_X10_init.2.1 128 = .ok (.dup, 1) := by decide +kernel
theorem d_X10_init_129 : decode M_X10_init.2.1 129 = .ok (.bipush 6, 2) := by decide +kernel
theorem d_X10_init_131 : decode M_X10_init.2.1 131 = .ok (.iconst (-1), 1) := by decide +kernel
theorem d_X10_init_132 : decode M_X10_init.2.1 132 = .ok (.iastore, 1) := by decide +kernel
theorem d_X10_init_133 : decode M_X10_init.2.1 133 = .ok (.putfield 65, 3) := by decide +kernel
theorem d_X10_init_136 : decode M_X10_init.2.1 136 = .ok (.aload_n 0, 1) := by decide +kernel
theorem d_X10_init_137 : decode M_X10_init.2.1 137 = .ok (.new 68, 3) := by decide +kernel
theorem d_X10_init_140 : decode M_X10_init.2.1 140 = .ok (.dup, 1) := by decide +kernel
theorem d_X10_init_141 : decode M_X10_init.2.1 141 = .ok (.invokespecial 70, 3) := by decide +kernel
theorem d_X10_init_144 : decode M_X10_init.2.1 144 = .ok (.putfield 71, 3) := by decide +kernel
theorem d_X10_init_147 : decode M_X10_init.2.1 147 = .ok (.aload_n 0, 1) := by decide +kernel
theorem d_X10_init_148 : decode M_X10_init.2.1 148 = .ok (.bipush 96, 2) := by decide +kernel
theorem d_X10_init_150 : decode M_X10_init.2.1 150 = .ok (.newarray .int, 2) := by decide +kernel
theorem d_X10_init_152 : decode M_X10_init.2.1 152 = .ok (.putfield 75, 3) := by decide +kernel
theorem d_X10_init_155 : decode M_X10_init.2.1 155 = .ok (.aload_n 0, 1) := by decide +kernel
theorem d_X10_init_156 : decode M_X10_init.2.1 156 = .ok (.getfield 51, 3) := by decide +kernel
theorem d_X10_init_159 : decode M_X10_init.2.1 159 = .ok (.sipush 1000, 3) := by decide +kernel
theorem d_X10_init_162 : decode M_X10_init.2.1 162 = .ok (.iconst 0, 1) := by decide +kernel
theorem d_X10_init_163 : decode M_X10_init.2.1 163 = .ok (.iconst 0, 1) := by decide +kernel
theorem d_X10_init_164 : decode M_X10_init.2.1 164 = .ok (.invokevirtual 78, 3) := by decide +kernel
theorem d_X10_init_167 : decode M_X10_init.2.1 167 = .ok (.aload_n 0, 1) := by decide +kernel
theorem d_X10_init_168 : decode M_X10_init.2.1 168 = .ok (.getfield 75, 3) := by decide +kernel
theorem d_X10_init_171 : decode M_X10_init.2.1 171 = .ok (.iconst (-1), 1) := by decide +kernel
theorem d_X10_init_172 : decode M_X10_init.2.1 172 = .ok (.invokestatic 82, 3) := by decide +kernel
theorem d_X10_init_175 : decode M_X10_init.2.1 175 = .ok (.return_, 1) := by decide +kernel
theorem ce_X10_init : zw_CeI M_X10_init 0 := ⟨⟨⟨by decide +kernel, by decide +kernel, by decide +kernel⟩, (zw_mG (List.mem_of_getElem? (i := 120) (by decide +kernel)) rfl), (zw_mG (List.mem_of_getElem? (i := 96) (by decide +kernel)) rfl), by decide, by decide +kernel⟩, (zw_mG (List.mem_of_getElem? (i := 119) (by decide +kernel)) rfl), rfl, rfl⟩
abbrev M_X8_init : zw_M := (⟨"CutStones$Tape", "<init>", "()V"⟩, prog_10_method_1_code, 1, (Option.none : Option Jvm.ClassFile.FieldType))
theorem d_X8_init_0 : decode M_X8_init.2.1 0 = .ok (.aload_n 0, 1) := by decide +kernel
theorem d_X8_init_1 : decode M_X8_init.2.1 1 = .ok (.invokespecial 3, 3) := by decide +kernel
theorem d_X8_init_4 : decode M_X8_init.2.1 4 = .ok (.aload_n 0, 1) := by decide +kernel
theorem d_X8_init_5 : decode M_X8_init.2.1 5 = .ok (.sipush 2000, 3) := by decide +kernel
theorem d_X8_init_8 : decode M_X8_init.2.1 8 = .ok (.newarray .byte, 2) := by decide +kernel
theorem d_X8_init_10 : decode M_X8_init.2.1 10 = .ok (.putfield 9, 3) := by decide +kernel
theorem d_X8_init_13 : decode M_X8_init.2.1 13 = .ok (.aload_n 0, 1) := by decide +kernel
theorem d_X8_init_14 : decode M_X8_init.2.1 14 = .ok (.iconst 0, 1) := by decide +kernel
theorem d_X8_init_15 : decode M_X8_init.2.1 15 = .ok (.putfield 15, 3) := by decide +kernel
theorem d_X8_init_18 : decode M_X8_init.2.1 18 = .ok (.aload_n 0, 1) := by decide +kernel
theorem d_X8_init_19 : decode M_X8_init.2.1 19 = .ok (.sipush 501, 3) := by decide +kernel
theorem d_X8_init_22 : decode M_X8_init.2.1 22 = .ok (.newarray .int, 2) := by decide +kernel
theorem d_X8_init_24 : decode M_X8_init.2.1 24 = .ok (.putfield 19, 3) := by decide +kernel
theorem d_X8_init_27 : decode M_X8_init.2.1 27 = .ok (.aload_n 0, 1) := by decide +kernel
theorem d_X8_init_28 : decode M_X8_init.2.1 28 = .ok (.sipush 501, 3) := by decide +kernel
theorem d_X8_init_31 : decode M_X8_init.2.1 31 = .ok (.newarray .int, 2) := by decide +kernel
theorem d_X8_init_33 : decode M_X8_init.2.1 33 = .ok (.putfield 23, 3) := by decide +kernel
theorem d_X8_init_36 : decode M_X8_init.2.1 36 = .ok (.aload_n 0, 1) := by decide +kernel
theorem d_X8_init_37 : decode M_X8_init.2.1 37 = .ok (.sipush 501, 3) := by decide +kernel
theorem d_X8_init_40 : decode M_X8_init.2.1 40 = .ok (.newarray .long, 2) := by decide +kernel
theorem d_X8_init_42 : decode M_X8_init.2.1 42 = .ok (.putfield 26, 3) := by decide +kernel
theorem d_X8_init_45 : decode M_X8_init.2.1 45 = .ok (.return_, 1) := by decide +kernel
theorem ce_X8_init : zw_CeI M_X8_init 0 := ⟨⟨⟨by decide +kernel, by decide +kernel, by decide +kernel⟩, (zw_mG (List.mem_of_getElem? (i := 128) (by decide +kernel)) rfl), (zw_mG (List.mem_of_getElem? (i := 97) (by decide +kernel)) rfl), by decide, by decide +kernel⟩, (zw_mG (List.mem_of_getElem? (i := 127) (by decide +kernel)) rfl), rfl, rfl⟩
def kS_X8_init_2 (S : aS) : aS := (zw_pR (zw_pR (zw_pR (zw_pI (zw_pR S 2 0 3) 2 1 0) 2 2 4) 2 3 5) 2 4 6)
theorem kZ_X8_init_2 {S : aS} (hZ : zw_Z 2 S) : zw_Z 6 (kS_X8_init_2 S) := by
  unfold kS_X8_init_2
  have hZ := hZ.up
  have hZ := hZ.pR (o := 2) (j := 0) (v := 3) (by decide)
  have hZ := hZ.pI (o := 2) (j := 1) (v := 0) (by decide)
  have hZ := hZ.up
  have hZ := hZ.pR (o := 2) (j := 2) (v := 4) (by decide)
  have hZ := hZ.up
  have hZ := hZ.pR (o := 2) (j := 3) (v := 5) (by decide)
  have hZ := hZ.up
  have hZ := hZ.pR (o := 2) (j := 4) (v := 6) (by decide)
  exact hZ
theorem k_X8_init_2 {X : zw_X} {P : Option Value → aS → Prop} {S : aS} (hZ : zw_Z 2 S) (hP : P none (kS_X8_init_2 S)) : zw_C X M_X8_init 1 4 3503 2 [.ref 2] S P := by
  show zw_V X M_X8_init 1 4 3503 2 P 0 0 0 [.ref 2] [] S
  refine zv_aload_n (pc := 0) d_X8_init_0 rfl ?_
  refine zv_obj (pc := 1) d_X8_init_1 (zw_mG (List.mem_of_getElem? (i := 129) (by decide +kernel)) rfl) (by decide) (Nat.le_of_ble_eq_true rfl) ?_
  refine zv_aload_n (pc := 4) d_X8_init_4 rfl ?_
  refine zv_sipush (pc := 5) d_X8_init_5 zc_s_2000 ?_
  refine kx_newa (pc := 8) (N := 2000) d_X8_init_8 (by decide) (by decide +kernel) (by decide +kernel) (by decide) (by decide) rfl hZ ⟨by decide, by decide⟩ (by decide) ?_
  have hZ := hZ.up
  refine kx_putR (pc := 10) (o := 2) (v := 3) d_X8_init_10 lk_CutStones_Tape_9 (Or.inr ⟨rfl, rfl, rfl⟩) (by decide) ⟨by decide, by decide⟩ (by decide +kernel) (by decide) ?_
  have hZ := hZ.pR (o := 2) (j := 0) (v := 3) (by decide)
  refine zv_aload_n (pc := 13) d_X8_init_13 rfl ?_
  refine zv_iconst (pc := 14) d_X8_init_14 zc_i_0 ?_
  refine kx_putI (pc := 15) (o := 2) (v := 0) d_X8_init_15 lk_CutStones_Tape_15 (Or.inl rfl) ⟨by decide, by decide⟩ (by decide +kernel) ?_
  have hZ := hZ.pI (o := 2) (j := 1) (v := 0) (by decide)
  refine zv_aload_n (pc := 18) d_X8_init_18 rfl ?_
  refine zv_sipush (pc := 19) d_X8_init_19 zc_s_501 ?_
  refine kx_newa (pc := 22) (N := 501) d_X8_init_22 (by decide) (by decide +kernel) (by decide +kernel) (by decide) (by decide) rfl hZ ⟨by decide, by decide⟩ (by decide) ?_
  have hZ := hZ.up
  refine kx_putR (pc := 24) (o := 2) (v := 4) d_X8_init_24 lk_CutStones_Tape_19 (Or.inr ⟨rfl, rfl, rfl⟩) (by decide) ⟨by decide, by decide⟩ (by decide +kernel) (by decide) ?_
  have hZ := hZ.pR (o := 2) (j := 2) (v := 4) (by decide)
  refine zv_aload_n (pc := 27) d_X8_init_27 rfl ?_
  refine zv_sipush (pc := 28) d_X8_init_28 zc_s_501 ?_
  refine kx_newa (pc := 31) (N := 501) d_X8_init_31 (by decide) (by decide +kernel) (by decide +kernel) (by decide) (by decide) rfl hZ ⟨by decide, by decide⟩ (by decide) ?_
  have hZ := hZ.up
  refine kx_putR (pc := 33) (o := 2) (v := 5) d_X8_init_33 lk_CutStones_Tape_23 (Or.inr ⟨rfl, rfl, rfl⟩) (by decide) ⟨by decide, by decide⟩ (by decide +kernel) (by decide) ?_
  have hZ := hZ.pR (o := 2) (j := 3) (v := 5) (by decide)
  refine zv_aload_n (pc := 36) d_X8_init_36 rfl ?_
  refine zv_sipush (pc := 37) d_X8_init_37 zc_s_501 ?_
  refine kx_newa (pc := 40) (N := 501) d_X8_init_40 (by decide) (by decide +kernel) (by decide +kernel) (by decide) (by decide) rfl hZ ⟨by decide, by decide⟩ (by decide) ?_
  have hZ := hZ.up
  refine kx_putR (pc := 42) (o := 2) (v := 6) d_X8_init_42 lk_CutStones_Tape_26 (Or.inr ⟨rfl, rfl, rfl⟩) (by decide) ⟨by decide, by decide⟩ (by decide +kernel) (by decide) ?_
  have hZ := hZ.pR (o := 2) (j := 4) (v := 6) (by decide)
  exact zv_vret (pc := 45) d_X8_init_45 rfl rfl (Nat.le_refl _) hP
abbrev M_X3_init : zw_M := (⟨"CutStones$Reader", "<init>", "()V"⟩, prog_5_method_1_code, 1, (Option.none : Option Jvm.ClassFile.FieldType))
theorem d_X3_init_0 : decode M_X3_init.2.1 0 = .ok (.aload_n 0, 1) := by decide +kernel
theorem d_X3_init_1 : decode M_X3_init.2.1 1 = .ok (.invokespecial 3, 3) := by decide +kernel
theorem d_X3_init_4 : decode M_X3_init.2.1 4 = .ok (.aload_n 0, 1) := by decide +kernel
theorem d_X3_init_5 : decode M_X3_init.2.1 5 = .ok (.iconst 0, 1) := by decide +kernel
theorem d_X3_init_6 : decode M_X3_init.2.1 6 = .ok (.putfield 9, 3) := by decide +kernel
theorem d_X3_init_9 : decode M_X3_init.2.1 9 = .ok (.aload_n 0, 1) := by decide +kernel
theorem d_X3_init_10 : decode M_X3_init.2.1 10 = .ok (.iconst (-1), 1) := by decide +kernel
theorem d_X3_init_11 : decode M_X3_init.2.1 11 = .ok (.putfield 15, 3) := by decide +kernel
theorem d_X3_init_14 : decode M_X3_init.2.1 14 = .ok (.aload_n 0, 1) := by decide +kernel
theorem d_X3_init_15 : decode M_X3_init.2.1 15 = .ok (.new 18, 3) := by decide +kernel
theorem d_X3_init_18 : decode M_X3_init.2.1 18 = .ok (.dup, 1) := by decide +kernel
theorem d_X3_init_19 : decode M_X3_init.2.1 19 = .ok (.invokespecial 20, 3) := by decide +kernel
theorem d_X3_init_22 : decode M_X3_init.2.1 22 = .ok (.putfield 21, 3) := by decide +kernel
theorem d_X3_init_25 : decode M_X3_init.2.1 25 = .ok (.aload_n 0, 1) := by decide +kernel
theorem d_X3_init_26 : decode M_X3_init.2.1 26 = .ok (.iconst 0, 1) := by decide +kernel
theorem d_X3_init_27 : decode M_X3_init.2.1 27 = .ok (.putfield 25, 3) := by decide +kernel
theorem d_X3_init_30 : decode M_X3_init.2.1 30 = .ok (.aload_n 0, 1) := by decide +kernel
theorem d_X3_init_31 : decode M_X3_init.2.1 31 = .ok (.iconst 0, 1) := by decide +kernel
theorem d_X3_init_32 : decode M_X3_init.2.1 32 = .ok (.putfield 28, 3) := by decide +kernel
theorem d_X3_init_35 : decode M_X3_init.2.1 35 = .ok (.aload_n 0, 1) := by decide +kernel
theorem d_X3_init_36 : decode M_X3_init.2.1 36 = .ok (.iconst (-1), 1) := by decide +kernel
theorem d_X3_init_37 : decode M_X3_init.2.1 37 = .ok (.putfield 31, 3) := by decide +kernel
theorem d_X3_init_40 : decode M_X3_init.2.1 40 = .ok (.return_, 1) := by decide +kernel
theorem ce_X3_init : zw_CeI M_X3_init 0 := ⟨⟨⟨by decide +kernel, by decide +kernel, by decide +kernel⟩, (zw_mG (List.mem_of_getElem? (i := 157) (by decide +kernel)) rfl), (zw_mG (List.mem_of_getElem? (i := 98) (by decide +kernel)) rfl), by decide, by decide +kernel⟩, (zw_mG (List.mem_of_getElem? (i := 156) (by decide +kernel)) rfl), rfl, rfl⟩
abbrev M_X1_init : zw_M := (⟨"CutStones$House", "<init>", "()V"⟩, prog_3_method_1_code, 2, (Option.none : Option Jvm.ClassFile.FieldType))
theorem d_X1_init_0 : decode M_X1_init.2.1 0 = .ok (.aload_n 0, 1) := by decide +kernel
theorem d_X1_init_1 : decode M_X1_init.2.1 1 = .ok (.invokespecial 3, 3) := by decide +kernel
theorem d_X1_init_4 : decode M_X1_init.2.1 4 = .ok (.aload_n 0, 1) := by decide +kernel
theorem d_X1_init_5 : decode M_X1_init.2.1 5 = .ok (.iconst 4, 1) := by decide +kernel
theorem d_X1_init_6 : decode M_X1_init.2.1 6 = .ok (.anewarray 9, 3) := by decide +kernel
theorem d_X1_init_9 : decode M_X1_init.2.1 9 = .ok (.putfield 11, 3) := by decide +kernel
theorem d_X1_init_12 : decode M_X1_init.2.1 12 = .ok (.aload_n 0, 1) := by decide +kernel
theorem d_X1_init_13 : decode M_X1_init.2.1 13 = .ok (.iconst 0, 1) := by decide +kernel
theorem d_X1_init_14 : decode M_X1_init.2.1 14 = .ok (.putfield 17, 3) := by decide +kernel
theorem d_X1_init_17 : decode M_X1_init.2.1 17 = .ok (.aload_n 0, 1) := by decide +kernel
theorem d_X1_init_18 : decode M_X1_init.2.1 18 = .ok (.bipush 6, 2) := by decide +kernel
theorem d_X1_init_20 : decode M_X1_init.2.1 20 = .ok (.anewarray 21, 3) := by decide +kernel
theorem d_X1_init_23 : decode M_X1_init.2.1 23 = .ok (.putfield 23, 3) := by decide +kernel
theorem d_X1_init_26 : decode M_X1_init.2.1 26 = .ok (.aload_n 0, 1) := by decide +kernel
theorem d_X1_init_27 : decode M_X1_init.2.1 27 = .ok (.iconst 0, 1) := by decide +kernel
theorem d_X1_init_28 : decode M_X1_init.2.1 28 = .ok (.putfield 27, 3) := by decide +kernel
theorem d_X1_init_31 : decode M_X1_init.2.1 31 = .ok (.aload_n 0, 1) := by decide +kernel
theorem d_X1_init_32 : decode M_X1_init.2.1 32 = .ok (.iconst 4, 1) := by decide +kernel
theorem d_X1_init_33 : decode M_X1_init.2.1 33 = .ok (.anewarray 21, 3) := by decide +kernel
theorem d_X1_init_36 : decode M_X1_init.2.1 36 = .ok (.putfield 30, 3) := by decide +kernel
theorem d_X1_init_39 : decode M_X1_init.2.1 39 = .ok (.aload_n 0, 1) := by decide +kernel
theorem d_X1_init_40 : decode M_X1_init.2.1 40 = .ok (.iconst 0, 1) := by decide +kernel
theorem d_X1_init_41 : decode M_X1_init.2.1 41 = .ok (.putfield 33, 3) := by decide +kernel
theorem d_X1_init_44 : decode M_X1_init.2.1 44 = .ok (.aload_n 0, 1) := by decide +kernel
theorem d_X1_init_45 : decode M_X1_init.2.1 45 = .ok (.bipush 8, 2) := by decide +kernel
theorem d_X1_init_47 : decode M_X1_init.2.1 47 = .ok (.anewarray 36, 3) := by decide +kernel
theorem d_X1_init_50 : decode M_X1_init.2.1 50 = .ok (.putfield 38, 3) := by decide +kernel
theorem d_X1_init_53 : decode M_X1_init.2.1 53 = .ok (.aload_n 0, 1) := by decide +kernel
theorem d_X1_init_54 : decode M_X1_init.2.1 54 = .ok (.iconst 0, 1) := by decide +kernel
theorem d_X1_init_55 : decode M_X1_init.2.1 55 = .ok (.putfield 42, 3) := by decide +kernel
theorem d_X1_init_58 : decode M_X1_init.2.1 58 = .ok (.aload_n 0, 1) := by decide +kernel
theorem d_X1_init_59 : decode M_X1_init.2.1 59 = .ok (.bipush 8, 2) := by decide +kernel
theorem d_X1_init_61 : decode M_X1_init.2.1 61 = .ok (.anewarray 36, 3) := by decide +kernel
theorem d_X1_init_64 : decode M_X1_init.2.1 64 = .ok (.putfield 45, 3) := by decide +kernel
theorem d_X1_init_67 : decode M_X1_init.2.1 67 = .ok (.aload_n 0, 1) := by decide +kernel
theorem d_X1_init_68 : decode M_X1_init.2.1 68 = .ok (.iconst 0, 1) := by decide +kernel
theorem d_X1_init_69 : decode M_X1_init.2.1 69 = .ok (.putfield 48, 3) := by decide +kernel
theorem d_X1_init_72 : decode M_X1_init.2.1 72 = .ok (.aload_n 0, 1) := by decide +kernel
theorem d_X1_init_73 : decode M_X1_init.2.1 73 = .ok (.bipush 30, 2) := by decide +kernel
theorem d_X1_init_75 : decode M_X1_init.2.1 75 = .ok (.newarray .long, 2) := by decide +kernel
theorem d_X1_init_77 : decode M_X1_init.2.1 77 = .ok (.putfield 51, 3) := by decide +kernel
theorem d_X1_init_80 : decode M_X1_init.2.1 80 = .ok (.aload_n 0, 1) := by decide +kernel
theorem d_X1_init_81 : decode M_X1_init.2.1 81 = .ok (.iconst 0, 1) := by decide +kernel
theorem d_X1_init_82 : decode M_X1_init.2.1 82 = .ok (.putfield 55, 3) := by decide +kernel
theorem d_X1_init_85 : decode M_X1_init.2.1 85 = .ok (.aload_n 0, 1) := by decide +kernel
theorem d_X1_init_86 : decode M_X1_init.2.1 86 = .ok (.sipush 500, 3) := by decide +kernel
theorem d_X1_init_89 : decode M_X1_init.2.1 89 = .ok (.newarray .int, 2) := by decide +kernel
theorem d_X1_init_91 : decode M_X1_init.2.1 91 = .ok (.putfield 58, 3) := by decide +kernel
theorem d_X1_init_94 : decode M_X1_init.2.1 94 = .ok (.aload_n 0, 1) := by decide +kernel
theorem d_X1_init_95 : decode M_X1_init.2.1 95 = .ok (.sipush 500, 3) := by decide +kernel
theorem d_X1_init_98 : decode M_X1_init.2.1 98 = .ok (.newarray .int, 2) := by decide +kernel
theorem d_X1_init_100 : decode M_X1_init.2.1 100 = .ok (.putfield 62, 3) := by decide +kernel
theorem d_X1_init_103 : decode M_X1_init.2.1 103 = .ok (.aload_n 0, 1) := by decide +kernel
theorem d_X1_init_104 : decode M_X1_init.2.1 104 = .ok (.iconst 0, 1) := by decide +kernel
theorem d_X1_init_105 : decode M_X1_init.2.1 105 = .ok (.putfield 65, 3) := by decide +kernel
theorem d_X1_init_108 : decode M_X1_init.2.1 108 = .ok (.iconst 0, 1) := by decide +kernel
theorem d_X1_init_109 : decode M_X1_init.2.1 109 = .ok (.istore_n 1, 1) := by decide +kernel
theorem d_X1_init_110 : decode M_X1_init.2.1 110 = .ok (.iload_n 1, 1) := by decide +kernel
theorem d_X1_init_111 : decode M_X1_init.2.1 111 = .ok (.iconst 4, 1) := by decide +kernel
theorem d_X1_init_112 : decode M_X1_init.2.1 112 = .ok (.if_icmp .ge 22, 3) := by decide +kernel
theorem d_X1_init_115 : decode M_X1_init.2.1 115 = .ok (.aload_n 0, 1) := by decide +kernel
theorem d_X1_init_116 : decode M_X1_init.2.1 116 = .ok (.getfield 11, 3) := by decide +kernel
theorem d_X1_init_119 : decode M_X1_init.2.1 119 = .ok (.iload_n 1, 1) := by decide +kernel
theorem d_X1_init_120 : decode M_X1_init.2.1 120 = .ok (.new 9, 3) := by decide +kernel
theorem d_X1_init_123 : decode M_X1_init.2.1 123 = .ok (.dup, 1) := by decide +kernel
theorem d_X1_init_124 : decode M_X1_init.2.1 124 = .ok (.invokespecial 68, 3) := by decide +kernel
theorem d_X1_init_127 : decode M_X1_init.2.1 127 = .ok (.aastore, 1) := by decide +kernel
theorem d_X1_init_128 : decode M_X1_init.2.1 128 = .ok (.iinc 1 1, 3) := by decide +kernel
theorem d_X1_init_131 : decode M_X1_init.2.1 131 = .ok (.goto (-21), 3) := by decide +kernel
theorem d_X1_init_134 : decode M_X1_init.2.1 134 = .ok (.iconst 0, 1) := by decide +kernel
theorem d_X1_init_135 : decode M_X1_init.2.1 135 = .ok (.istore_n 1, 1) := by decide +kernel
theorem d_X1_init_136 : decode M_X1_init.2.1 136 = .ok (.iload_n 1, 1) := by decide +kernel
theorem d_X1_init_137 : decode M_X1_init.2.1 137 = .ok (.bipush 6, 2) := by decide +kernel
theorem d_X1_init_139 : decode M_X1_init.2.1 139 = .ok (.if_icmp .ge 22, 3) := by decide +kernel
theorem d_X1_init_142 : decode M_X1_init.2.1 142 = .ok (.aload_n 0, 1) := by decide +kernel
theorem d_X1_init_143 : decode M_X1_init.2.1 143 = .ok (.getfield 23, 3) := by decide +kernel
theorem d_X1_init_146 : decode M_X1_init.2.1 146 = .ok (.iload_n 1, 1) := by decide +kernel
theorem d_X1_init_147 : decode M_X1_init.2.1 147 = .ok (.new 21, 3) := by decide +kernel
theorem d_X1_init_150 : decode M_X1_init.2.1 150 = .ok (.dup, 1) := by decide +kernel
theorem d_X1_init_151 : decode M_X1_init.2.1 151 = .ok (.invokespecial 69, 3) := by decide +kernel
theorem d_X1_init_154 : decode M_X1_init.2.1 154 = .ok (.aastore, 1) := by decide +kernel
theorem d_X1_init_155 : decode M_X1_init.2.1 155 = .ok (.iinc 1 1, 3) := by decide +kernel
theorem d_X1_init_158 : decode M_X1_init.2.1 158 = .ok (.goto (-22), 3) := by decide +kernel
theorem d_X1_init_161 : decode M_X1_init.2.1 161 = .ok (.iconst 0, 1) := by decide +kernel
theorem d_X1_init_162 : decode M_X1_init.2.1 162 = .ok (.istore_n 1, 1) := by decide +kernel
theorem d_X1_init_163 : decode M_X1_init.2.1 163 = .ok (.iload_n 1, 1) := by decide +kernel
theorem d_X1_init_164 : decode M_X1_init.2.1 164 = .ok (.iconst 4, 1) := by decide +kernel
theorem d_X1_init_165 : decode M_X1_init.2.1 165 = .ok (.if_icmp .ge 22, 3) := by decide +kernel
theorem d_X1_init_168 : decode M_X1_init.2.1 168 = .ok (.aload_n 0, 1) := by decide +kernel
theorem d_X1_init_169 : decode M_X1_init.2.1 169 = .ok (.getfield 30, 3) := by decide +kernel
theorem d_X1_init_172 : decode M_X1_init.2.1 172 = .ok (.iload_n 1, 1) := by decide +kernel
theorem d_X1_init_173 : decode M_X1_init.2.1 173 = .ok (.new 21, 3) := by decide +kernel
theorem d_X1_init_176 : decode M_X1_init.2.1 176 = .ok (.dup, 1) := by decide +kernel
theorem d_X1_init_177 : decode M_X1_init.2.1 177 = .ok (.invokespecial 69, 3) := by decide +kernel
theorem d_X1_init_180 : decode M_X1_init.2.1 180 = .ok (.aastore, 1) := by decide +kernel
theorem d_X1_init_181 : decode M_X1_init.2.1 181 = .ok (.iinc 1 1, 3) := by decide +kernel
theorem d_X1_init_184 : decode M_X1_init.2.1 184 = .ok (.goto (-21), 3) := by decide +kernel
theorem d_X1_init_187 : decode M_X1_init.2.1 187 = .ok (.iconst 0, 1) := by decide +kernel
theorem d_X1_init_188 : decode M_X1_init.2.1 188 = .ok (.istore_n 1, 1) := by decide +kernel
theorem d_X1_init_189 : decode M_X1_init.2.1 189 = .ok (.iload_n 1, 1) := by decide +kernel
theorem d_X1_init_190 : decode M_X1_init.2.1 190 = .ok (.bipush 8, 2) := by decide +kernel
theorem d_X1_init_192 : decode M_X1_init.2.1 192 = .ok (.if_icmp .ge 22, 3) := by decide +kernel
theorem d_X1_init_195 : decode M_X1_init.2.1 195 = .ok (.aload_n 0, 1) := by decide +kernel
theorem d_X1_init_196 : decode M_X1_init.2.1 196 = .ok (.getfield 38, 3) := by decide +kernel
theorem d_X1_init_199 : decode M_X1_init.2.1 199 = .ok (.iload_n 1, 1) := by decide +kernel
theorem d_X1_init_200 : decode M_X1_init.2.1 200 = .ok (.new 36, 3) := by decide +kernel
theorem d_X1_init_203 : decode M_X1_init.2.1 203 = .ok (.dup, 1) := by decide +kernel
theorem d_X1_init_204 : decode M_X1_init.2.1 204 = .ok (.invokespecial 70, 3) := by decide +kernel
theorem d_X1_init_207 : decode M_X1_init.2.1 207 = .ok (.aastore, 1) := by decide +kernel
theorem d_X1_init_208 : decode M_X1_init.2.1 208 = .ok (.iinc 1 1, 3) := by decide +kernel
theorem d_X1_init_211 : decode M_X1_init.2.1 211 = .ok (.goto (-22), 3) := by decide +kernel
theorem d_X1_init_214 : decode M_X1_init.2.1 214 = .ok (.iconst 0, 1) := by decide +kernel
theorem d_X1_init_215 : decode M_X1_init.2.1 215 = .ok (.istore_n 1, 1) := by decide +kernel
theorem d_X1_init_216 : decode M_X1_init.2.1 216 = .ok (.iload_n 1, 1) := by decide +kernel
theorem d_X1_init_217 : decode M_X1_init.2.1 217 = .ok (.bipush 8, 2) := by decide +kernel
theorem d_X1_init_219 : decode M_X1_init.2.1 219 = .ok (.if_icmp .ge 22, 3) := by decide +kernel
theorem d_X1_init_222 : decode M_X1_init.2.1 222 = .ok (.aload_n 0, 1) := by decide +kernel
theorem d_X1_init_223 : decode M_X1_init.2.1 223 = .ok (.getfield 45, 3) := by decide +kernel
theorem d_X1_init_226 : decode M_X1_init.2.1 226 = .ok (.iload_n 1, 1) := by decide +kernel
theorem d_X1_init_227 : decode M_X1_init.2.1 227 = .ok (.new 36, 3) := by decide +kernel
theorem d_X1_init_230 : decode M_X1_init.2.1 230 = .ok (.dup, 1) := by decide +kernel
theorem d_X1_init_231 : decode M_X1_init.2.1 231 = .ok (.invokespecial 70, 3) := by decide +kernel
theorem d_X1_init_234 : decode M_X1_init.2.1 234 = .ok (.aastore, 1) := by decide +kernel
theorem d_X1_init_235 : decode M_X1_init.2.1 235 = .ok (.iinc 1 1, 3) := by decide +kernel
theorem d_X1_init_238 : decode M_X1_init.2.1 238 = .ok (.goto (-22), 3) := by decide +kernel
theorem d_X1_init_241 : decode M_X1_init.2.1 241 = .ok (.return_, 1) := by decide +kernel
theorem ce_X1_init : zw_CeI M_X1_init 0 := ⟨⟨⟨by decide +kernel, by decide +kernel, by decide +kernel⟩, (zw_mG (List.mem_of_getElem? (i := 163) (by decide +kernel)) rfl), (zw_mG (List.mem_of_getElem? (i := 99) (by decide +kernel)) rfl), by decide, by decide +kernel⟩, (zw_mG (List.mem_of_getElem? (i := 162) (by decide +kernel)) rfl), rfl, rfl⟩
abbrev M_X7_init : zw_M := (⟨"CutStones$Stuff", "<init>", "()V"⟩, prog_9_method_1_code, 1, (Option.none : Option Jvm.ClassFile.FieldType))
theorem d_X7_init_0 : decode M_X7_init.2.1 0 = .ok (.aload_n 0, 1) := by decide +kernel
theorem d_X7_init_1 : decode M_X7_init.2.1 1 = .ok (.invokespecial 3, 3) := by decide +kernel
theorem d_X7_init_4 : decode M_X7_init.2.1 4 = .ok (.aload_n 0, 1) := by decide +kernel
theorem d_X7_init_5 : decode M_X7_init.2.1 5 = .ok (.iconst 4, 1) := by decide +kernel
theorem d_X7_init_6 : decode M_X7_init.2.1 6 = .ok (.newarray .int, 2) := by decide +kernel
theorem d_X7_init_8 : decode M_X7_init.2.1 8 = .ok (.putfield 9, 3) := by decide +kernel
theorem d_X7_init_11 : decode M_X7_init.2.1 11 = .ok (.aload_n 0, 1) := by decide +kernel
theorem d_X7_init_12 : decode M_X7_init.2.1 12 = .ok (.iconst 4, 1) := by decide +kernel
theorem d_X7_init_13 : decode M_X7_init.2.1 13 = .ok (.newarray .int, 2) := by decide +kernel
theorem d_X7_init_15 : decode M_X7_init.2.1 15 = .ok (.putfield 15, 3) := by decide +kernel
theorem d_X7_init_18 : decode M_X7_init.2.1 18 = .ok (.aload_n 0, 1) := by decide +kernel
theorem d_X7_init_19 : decode M_X7_init.2.1 19 = .ok (.sipush 200, 3) := by decide +kernel
theorem d_X7_init_22 : decode M_X7_init.2.1 22 = .ok (.putfield 18, 3) := by decide +kernel
theorem d_X7_init_25 : decode M_X7_init.2.1 25 = .ok (.return_, 1) := by decide +kernel
theorem ce_X7_init : zw_CeI M_X7_init 0 := ⟨⟨⟨by decide +kernel, by decide +kernel, by decide +kernel⟩, (zw_mG (List.mem_of_getElem? (i := 174) (by decide +kernel)) rfl), (zw_mG (List.mem_of_getElem? (i := 100) (by decide +kernel)) rfl), by decide, by decide +kernel⟩, (zw_mG (List.mem_of_getElem? (i := 173) (by decide +kernel)) rfl), rfl, rfl⟩
def kS_X7_init_17 (S : aS) : aS := (zw_pI (zw_pR (zw_pR S 17 0 18) 17 1 19) 17 2 200)
theorem kZ_X7_init_17 {S : aS} (hZ : zw_Z 17 S) : zw_Z 19 (kS_X7_init_17 S) := by
  unfold kS_X7_init_17
  have hZ := hZ.up
  have hZ := hZ.pR (o := 17) (j := 0) (v := 18) (by decide)
  have hZ := hZ.up
  have hZ := hZ.pR (o := 17) (j := 1) (v := 19) (by decide)
  have hZ := hZ.pI (o := 17) (j := 2) (v := 200) (by decide)
  exact hZ
theorem k_X7_init_17 {X : zw_X} {P : Option Value → aS → Prop} {S : aS} (hZ : zw_Z 17 S) (hP : P none (kS_X7_init_17 S)) : zw_C X M_X7_init 1 2 8 17 [.ref 17] S P := by
  show zw_V X M_X7_init 1 2 8 17 P 0 0 0 [.ref 17] [] S
  refine zv_aload_n (pc := 0) d_X7_init_0 rfl ?_
  refine zv_obj (pc := 1) d_X7_init_1 (zw_mG (List.mem_of_getElem? (i := 175) (by decide +kernel)) rfl) (by decide) (Nat.le_of_ble_eq_true rfl) ?_
  refine zv_aload_n (pc := 4) d_X7_init_4 rfl ?_
  refine zv_iconst (pc := 5) d_X7_init_5 zc_i_4 ?_
  refine kx_newa (pc := 6) (N := 4) d_X7_init_6 (by decide) (by decide +kernel) (by decide +kernel) (by decide) (by decide) rfl hZ ⟨by decide, by decide⟩ (by decide) ?_
  have hZ := hZ.up
  refine kx_putR (pc := 8) (o := 17) (v := 18) d_X7_init_8 lk_CutStones_Stuff_9 (Or.inr ⟨rfl, rfl, rfl⟩) (by decide) ⟨by decide, by decide⟩ (by decide +kernel) (by decide) ?_
  have hZ := hZ.pR (o := 17) (j := 0) (v := 18) (by decide)
  refine zv_aload_n (pc := 11) d_X7_init_11 rfl ?_
  refine zv_iconst (pc := 12) d_X7_init_12 zc_i_4 ?_
  refine kx_newa (pc := 13) (N := 4) d_X7_init_13 (by decide) (by decide +kernel) (by decide +kernel) (by decide) (by decide) rfl hZ ⟨by decide, by decide⟩ (by decide) ?_
  have hZ := hZ.up
  refine kx_putR (pc := 15) (o := 17) (v := 19) d_X7_init_15 lk_CutStones_Stuff_15 (Or.inr ⟨rfl, rfl, rfl⟩) (by decide) ⟨by decide, by decide⟩ (by decide +kernel) (by decide) ?_
  have hZ := hZ.pR (o := 17) (j := 1) (v := 19) (by decide)
  refine zv_aload_n (pc := 18) d_X7_init_18 rfl ?_
  refine zv_sipush (pc := 19) d_X7_init_19 zc_s_200 ?_
  refine kx_putI (pc := 22) (o := 17) (v := 200) d_X7_init_22 lk_CutStones_Stuff_18 (Or.inl rfl) ⟨by decide, by decide⟩ (by decide +kernel) ?_
  have hZ := hZ.pI (o := 17) (j := 2) (v := 200) (by decide)
  exact zv_vret (pc := 25) d_X7_init_25 rfl rfl (Nat.le_refl _) hP
def kS_X7_init_20 (S : aS) : aS := (zw_pI (zw_pR (zw_pR S 20 0 21) 20 1 22) 20 2 200)
theorem kZ_X7_init_20 {S : aS} (hZ : zw_Z 20 S) : zw_Z 22 (kS_X7_init_20 S) := by
  unfold kS_X7_init_20
  have hZ := hZ.up
  have hZ := hZ.pR (o := 20) (j := 0) (v := 21) (by decide)
  have hZ := hZ.up
  have hZ := hZ.pR (o := 20) (j := 1) (v := 22) (by decide)
  have hZ := hZ.pI (o := 20) (j := 2) (v := 200) (by decide)
  exact hZ
theorem k_X7_init_20 {X : zw_X} {P : Option Value → aS → Prop} {S : aS} (hZ : zw_Z 20 S) (hP : P none (kS_X7_init_20 S)) : zw_C X M_X7_init 1 2 8 20 [.ref 20] S P := by
  show zw_V X M_X7_init 1 2 8 20 P 0 0 0 [.ref 20] [] S
  refine zv_aload_n (pc := 0) d_X7_init_0 rfl ?_
  refine zv_obj (pc := 1) d_X7_init_1 (zw_mG (List.mem_of_getElem? (i := 175) (by decide +kernel)) rfl) (by decide) (Nat.le_of_ble_eq_true rfl) ?_
  refine zv_aload_n (pc := 4) d_X7_init_4 rfl ?_
  refine zv_iconst (pc := 5) d_X7_init_5 zc_i_4 ?_
  refine kx_newa (pc := 6) (N := 4) d_X7_init_6 (by decide) (by decide +kernel) (by decide +kernel) (by decide) (by decide) rfl hZ ⟨by decide, by decide⟩ (by decide) ?_
  have hZ := hZ.up
  refine kx_putR (pc := 8) (o := 20) (v := 21) d_X7_init_8 lk_CutStones_Stuff_9 (Or.inr ⟨rfl, rfl, rfl⟩) (by decide) ⟨by decide, by decide⟩ (by decide +kernel) (by decide) ?_
  have hZ := hZ.pR (o := 20) (j := 0) (v := 21) (by decide)
  refine zv_aload_n (pc := 11) d_X7_init_11 rfl ?_
  refine zv_iconst (pc := 12) d_X7_init_12 zc_i_4 ?_
  refine kx_newa (pc := 13) (N := 4) d_X7_init_13 (by decide) (by decide +kernel) (by decide +kernel) (by decide) (by decide) rfl hZ ⟨by decide, by decide⟩ (by decide) ?_
  have hZ := hZ.up
  refine kx_putR (pc := 15) (o := 20) (v := 22) d_X7_init_15 lk_CutStones_Stuff_15 (Or.inr ⟨rfl, rfl, rfl⟩) (by decide) ⟨by decide, by decide⟩ (by decide +kernel) (by decide) ?_
  have hZ := hZ.pR (o := 20) (j := 1) (v := 22) (by decide)
  refine zv_aload_n (pc := 18) d_X7_init_18 rfl ?_
  refine zv_sipush (pc := 19) d_X7_init_19 zc_s_200 ?_
  refine kx_putI (pc := 22) (o := 20) (v := 200) d_X7_init_22 lk_CutStones_Stuff_18 (Or.inl rfl) ⟨by decide, by decide⟩ (by decide +kernel) ?_
  have hZ := hZ.pI (o := 20) (j := 2) (v := 200) (by decide)
  exact zv_vret (pc := 25) d_X7_init_25 rfl rfl (Nat.le_refl _) hP
def kS_X7_init_23 (S : aS) : aS := (zw_pI (zw_pR (zw_pR S 23 0 24) 23 1 25) 23 2 200)
theorem kZ_X7_init_23 {S : aS} (hZ : zw_Z 23 S) : zw_Z 25 (kS_X7_init_23 S) := by
  unfold kS_X7_init_23
  have hZ := hZ.up
  have hZ := hZ.pR (o := 23) (j := 0) (v := 24) (by decide)
  have hZ := hZ.up
  have hZ := hZ.pR (o := 23) (j := 1) (v := 25) (by decide)
  have hZ := hZ.pI (o := 23) (j := 2) (v := 200) (by decide)
  exact hZ
theorem k_X7_init_23 {X : zw_X} {P : Option Value → aS → Prop} {S : aS} (hZ : zw_Z 23 S) (hP : P none (kS_X7_init_23 S)) : zw_C X M_X7_init 1 2 8 23 [.ref 23] S P := by
  show zw_V X M_X7_init 1 2 8 23 P 0 0 0 [.ref 23] [] S
  refine zv_aload_n (pc := 0) d_X7_init_0 rfl ?_
  refine zv_obj (pc := 1) d_X7_init_1 (zw_mG (List.mem_of_getElem? (i := 175) (by decide +kernel)) rfl) (by decide) (Nat.le_of_ble_eq_true rfl) ?_
  refine zv_aload_n (pc := 4) d_X7_init_4 rfl ?_
  refine zv_iconst (pc := 5) d_X7_init_5 zc_i_4 ?_
  refine kx_newa (pc := 6) (N := 4) d_X7_init_6 (by decide) (by decide +kernel) (by decide +kernel) (by decide) (by decide) rfl hZ ⟨by decide, by decide⟩ (by decide) ?_
  have hZ := hZ.up
  refine kx_putR (pc := 8) (o := 23) (v := 24) d_X7_init_8 lk_CutStones_Stuff_9 (Or.inr ⟨rfl, rfl, rfl⟩) (by decide) ⟨by decide, by decide⟩ (by decide +kernel) (by decide) ?_
  have hZ := hZ.pR (o := 23) (j := 0) (v := 24) (by decide)
  refine zv_aload_n (pc := 11) d_X7_init_11 rfl ?_
  refine zv_iconst (pc := 12) d_X7_init_12 zc_i_4 ?_
  refine kx_newa (pc := 13) (N := 4) d_X7_init_13 (by decide) (by decide +kernel) (by decide +kernel) (by decide) (by decide) rfl hZ ⟨by decide, by decide⟩ (by decide) ?_
  have hZ := hZ.up
  refine kx_putR (pc := 15) (o := 23) (v := 25) d_X7_init_15 lk_CutStones_Stuff_15 (Or.inr ⟨rfl, rfl, rfl⟩) (by decide) ⟨by decide, by decide⟩ (by decide +kernel) (by decide) ?_
  have hZ := hZ.pR (o := 23) (j := 1) (v := 25) (by decide)
  refine zv_aload_n (pc := 18) d_X7_init_18 rfl ?_
  refine zv_sipush (pc := 19) d_X7_init_19 zc_s_200 ?_
  refine kx_putI (pc := 22) (o := 23) (v := 200) d_X7_init_22 lk_CutStones_Stuff_18 (Or.inl rfl) ⟨by decide, by decide⟩ (by decide +kernel) ?_
  have hZ := hZ.pI (o := 23) (j := 2) (v := 200) (by decide)
  exact zv_vret (pc := 25) d_X7_init_25 rfl rfl (Nat.le_refl _) hP
def kS_X7_init_26 (S : aS) : aS := (zw_pI (zw_pR (zw_pR S 26 0 27) 26 1 28) 26 2 200)
theorem kZ_X7_init_26 {S : aS} (hZ : zw_Z 26 S) : zw_Z 28 (kS_X7_init_26 S) := by
  unfold kS_X7_init_26
  have hZ := hZ.up
  have hZ := hZ.pR (o := 26) (j := 0) (v := 27) (by decide)
  have hZ := hZ.up
  have hZ := hZ.pR (o := 26) (j := 1) (v := 28) (by decide)
  have hZ := hZ.pI (o := 26) (j := 2) (v := 200) (by decide)
  exact hZ
theorem k_X7_init_26 {X : zw_X} {P : Option Value → aS → Prop} {S : aS} (hZ : zw_Z 26 S) (hP : P none (kS_X7_init_26 S)) : zw_C X M_X7_init 1 2 8 26 [.ref 26] S P := by
  show zw_V X M_X7_init 1 2 8 26 P 0 0 0 [.ref 26] [] S
  refine zv_aload_n (pc := 0) d_X7_init_0 rfl ?_
  refine zv_obj (pc := 1) d_X7_init_1 (zw_mG (List.mem_of_getElem? (i := 175) (by decide +kernel)) rfl) (by decide) (Nat.le_of_ble_eq_true rfl) ?_
  refine zv_aload_n (pc := 4) d_X7_init_4 rfl ?_
  refine zv_iconst (pc := 5) d_X7_init_5 zc_i_4 ?_
  refine kx_newa (pc := 6) (N := 4) d_X7_init_6 (by decide) (by decide +kernel) (by decide +kernel) (by decide) (by decide) rfl hZ ⟨by decide, by decide⟩ (by decide) ?_
  have hZ := hZ.up
  refine kx_putR (pc := 8) (o := 26) (v := 27) d_X7_init_8 lk_CutStones_Stuff_9 (Or.inr ⟨rfl, rfl, rfl⟩) (by decide) ⟨by decide, by decide⟩ (by decide +kernel) (by decide) ?_
  have hZ := hZ.pR (o := 26) (j := 0) (v := 27) (by decide)
  refine zv_aload_n (pc := 11) d_X7_init_11 rfl ?_
  refine zv_iconst (pc := 12) d_X7_init_12 zc_i_4 ?_
  refine kx_newa (pc := 13) (N := 4) d_X7_init_13 (by decide) (by decide +kernel) (by decide +kernel) (by decide) (by decide) rfl hZ ⟨by decide, by decide⟩ (by decide) ?_
  have hZ := hZ.up
  refine kx_putR (pc := 15) (o := 26) (v := 28) d_X7_init_15 lk_CutStones_Stuff_15 (Or.inr ⟨rfl, rfl, rfl⟩) (by decide) ⟨by decide, by decide⟩ (by decide +kernel) (by decide) ?_
  have hZ := hZ.pR (o := 26) (j := 1) (v := 28) (by decide)
  refine zv_aload_n (pc := 18) d_X7_init_18 rfl ?_
  refine zv_sipush (pc := 19) d_X7_init_19 zc_s_200 ?_
  refine kx_putI (pc := 22) (o := 26) (v := 200) d_X7_init_22 lk_CutStones_Stuff_18 (Or.inl rfl) ⟨by decide, by decide⟩ (by decide +kernel) ?_
  have hZ := hZ.pI (o := 26) (j := 2) (v := 200) (by decide)
  exact zv_vret (pc := 25) d_X7_init_25 rfl rfl (Nat.le_refl _) hP
abbrev M_X0_init : zw_M := (⟨"CutStones$Drawing", "<init>", "()V"⟩, prog_2_method_1_code, 1, (Option.none : Option Jvm.ClassFile.FieldType))
theorem d_X0_init_0 : decode M_X0_init.2.1 0 = .ok (.aload_n 0, 1) := by decide +kernel
theorem d_X0_init_1 : decode M_X0_init.2.1 1 = .ok (.invokespecial 3, 3) := by decide +kernel
theorem d_X0_init_4 : decode M_X0_init.2.1 4 = .ok (.aload_n 0, 1) := by decide +kernel
theorem d_X0_init_5 : decode M_X0_init.2.1 5 = .ok (.sipush 144, 3) := by decide +kernel
theorem d_X0_init_8 : decode M_X0_init.2.1 8 = .ok (.newarray .int, 2) := by decide +kernel
theorem d_X0_init_10 : decode M_X0_init.2.1 10 = .ok (.putfield 9, 3) := by decide +kernel
theorem d_X0_init_13 : decode M_X0_init.2.1 13 = .ok (.aload_n 0, 1) := by decide +kernel
theorem d_X0_init_14 : decode M_X0_init.2.1 14 = .ok (.iconst 0, 1) := by decide +kernel
theorem d_X0_init_15 : decode M_X0_init.2.1 15 = .ok (.putfield 15, 3) := by decide +kernel
theorem d_X0_init_18 : decode M_X0_init.2.1 18 = .ok (.aload_n 0, 1) := by decide +kernel
theorem d_X0_init_19 : decode M_X0_init.2.1 19 = .ok (.iconst 0, 1) := by decide +kernel
theorem d_X0_init_20 : decode M_X0_init.2.1 20 = .ok (.putfield 19, 3) := by decide +kernel
theorem d_X0_init_23 : decode M_X0_init.2.1 23 = .ok (.aload_n 0, 1) := by decide +kernel
theorem d_X0_init_24 : decode M_X0_init.2.1 24 = .ok (.iconst 0, 1) := by decide +kernel
theorem d_X0_init_25 : decode M_X0_init.2.1 25 = .ok (.putfield 22, 3) := by decide +kernel
theorem d_X0_init_28 : decode M_X0_init.2.1 28 = .ok (.aload_n 0, 1) := by decide +kernel
theorem d_X0_init_29 : decode M_X0_init.2.1 29 = .ok (.iconst 0, 1) := by decide +kernel
theorem d_X0_init_30 : decode M_X0_init.2.1 30 = .ok (.putfield 25, 3) := by decide +kernel
theorem d_X0_init_33 : decode M_X0_init.2.1 33 = .ok (.aload_n 0, 1) := by decide +kernel
theorem d_X0_init_34 : decode M_X0_init.2.1 34 = .ok (.iconst 0, 1) := by decide +kernel
theorem d_X0_init_35 : decode M_X0_init.2.1 35 = .ok (.putfield 28, 3) := by decide +kernel
theorem d_X0_init_38 : decode M_X0_init.2.1 38 = .ok (.aload_n 0, 1) := by decide +kernel
theorem d_X0_init_39 : decode M_X0_init.2.1 39 = .ok (.iconst 0, 1) := by decide +kernel
theorem d_X0_init_40 : decode M_X0_init.2.1 40 = .ok (.putfield 31, 3) := by decide +kernel
theorem d_X0_init_43 : decode M_X0_init.2.1 43 = .ok (.aload_n 0, 1) := by decide +kernel
theorem d_X0_init_44 : decode M_X0_init.2.1 44 = .ok (.iconst 0, 1) := by decide +kernel
theorem d_X0_init_45 : decode M_X0_init.2.1 45 = .ok (.putfield 34, 3) := by decide +kernel
theorem d_X0_init_48 : decode M_X0_init.2.1 48 = .ok (.return_, 1) := by decide +kernel
theorem ce_X0_init : zw_CeI M_X0_init 0 := ⟨⟨⟨by decide +kernel, by decide +kernel, by decide +kernel⟩, (zw_mG (List.mem_of_getElem? (i := 194) (by decide +kernel)) rfl), (zw_mG (List.mem_of_getElem? (i := 101) (by decide +kernel)) rfl), by decide, by decide +kernel⟩, (zw_mG (List.mem_of_getElem? (i := 193) (by decide +kernel)) rfl), rfl, rfl⟩
def kS_X0_init_29 (S : aS) : aS := (zw_pI (zw_pI (zw_pI (zw_pI (zw_pI (zw_pI (zw_pI (zw_pR S 29 0 30) 29 1 0) 29 2 0) 29 3 0) 29 4 0) 29 5 0) 29 6 0) 29 7 0)
theorem kZ_X0_init_29 {S : aS} (hZ : zw_Z 29 S) : zw_Z 30 (kS_X0_init_29 S) := by
  unfold kS_X0_init_29
  have hZ := hZ.up
  have hZ := hZ.pR (o := 29) (j := 0) (v := 30) (by decide)
  have hZ := hZ.pI (o := 29) (j := 1) (v := 0) (by decide)
  have hZ := hZ.pI (o := 29) (j := 2) (v := 0) (by decide)
  have hZ := hZ.pI (o := 29) (j := 3) (v := 0) (by decide)
  have hZ := hZ.pI (o := 29) (j := 4) (v := 0) (by decide)
  have hZ := hZ.pI (o := 29) (j := 5) (v := 0) (by decide)
  have hZ := hZ.pI (o := 29) (j := 6) (v := 0) (by decide)
  have hZ := hZ.pI (o := 29) (j := 7) (v := 0) (by decide)
  exact hZ
theorem k_X0_init_29 {X : zw_X} {P : Option Value → aS → Prop} {S : aS} (hZ : zw_Z 29 S) (hP : P none (kS_X0_init_29 S)) : zw_C X M_X0_init 1 1 144 29 [.ref 29] S P := by
  show zw_V X M_X0_init 1 1 144 29 P 0 0 0 [.ref 29] [] S
  refine zv_aload_n (pc := 0) d_X0_init_0 rfl ?_
  refine zv_obj (pc := 1) d_X0_init_1 (zw_mG (List.mem_of_getElem? (i := 195) (by decide +kernel)) rfl) (by decide) (Nat.le_of_ble_eq_true rfl) ?_
  refine zv_aload_n (pc := 4) d_X0_init_4 rfl ?_
  refine zv_sipush (pc := 5) d_X0_init_5 zc_s_144 ?_
  refine kx_newa (pc := 8) (N := 144) d_X0_init_8 (by decide) (by decide +kernel) (by decide +kernel) (by decide) (by decide) rfl hZ ⟨by decide, by decide⟩ (by decide) ?_
  have hZ := hZ.up
  refine kx_putR (pc := 10) (o := 29) (v := 30) d_X0_init_10 lk_CutStones_Drawing_9 (Or.inr ⟨rfl, rfl, rfl⟩) (by decide) ⟨by decide, by decide⟩ (by decide +kernel) (by decide) ?_
  have hZ := hZ.pR (o := 29) (j := 0) (v := 30) (by decide)
  refine zv_aload_n (pc := 13) d_X0_init_13 rfl ?_
  refine zv_iconst (pc := 14) d_X0_init_14 zc_i_0 ?_
  refine kx_putI (pc := 15) (o := 29) (v := 0) d_X0_init_15 lk_CutStones_Drawing_15 (Or.inl rfl) ⟨by decide, by decide⟩ (by decide +kernel) ?_
  have hZ := hZ.pI (o := 29) (j := 1) (v := 0) (by decide)
  refine zv_aload_n (pc := 18) d_X0_init_18 rfl ?_
  refine zv_iconst (pc := 19) d_X0_init_19 zc_i_0 ?_
  refine kx_putI (pc := 20) (o := 29) (v := 0) d_X0_init_20 lk_CutStones_Drawing_19 (Or.inl rfl) ⟨by decide, by decide⟩ (by decide +kernel) ?_
  have hZ := hZ.pI (o := 29) (j := 2) (v := 0) (by decide)
  refine zv_aload_n (pc := 23) d_X0_init_23 rfl ?_
  refine zv_iconst (pc := 24) d_X0_init_24 zc_i_0 ?_
  refine kx_putI (pc := 25) (o := 29) (v := 0) d_X0_init_25 lk_CutStones_Drawing_22 (Or.inl rfl) ⟨by decide, by decide⟩ (by decide +kernel) ?_
  have hZ := hZ.pI (o := 29) (j := 3) (v := 0) (by decide)
  refine zv_aload_n (pc := 28) d_X0_init_28 rfl ?_
  refine zv_iconst (pc := 29) d_X0_init_29 zc_i_0 ?_
  refine kx_putI (pc := 30) (o := 29) (v := 0) d_X0_init_30 lk_CutStones_Drawing_25 (Or.inl rfl) ⟨by decide, by decide⟩ (by decide +kernel) ?_
  have hZ := hZ.pI (o := 29) (j := 4) (v := 0) (by decide)
  refine zv_aload_n (pc := 33) d_X0_init_33 rfl ?_
  refine zv_iconst (pc := 34) d_X0_init_34 zc_i_0 ?_
  refine kx_putI (pc := 35) (o := 29) (v := 0) d_X0_init_35 lk_CutStones_Drawing_28 (Or.inl rfl) ⟨by decide, by decide⟩ (by decide +kernel) ?_
  have hZ := hZ.pI (o := 29) (j := 5) (v := 0) (by decide)
  refine zv_aload_n (pc := 38) d_X0_init_38 rfl ?_
  refine zv_iconst (pc := 39) d_X0_init_39 zc_i_0 ?_
  refine kx_putI (pc := 40) (o := 29) (v := 0) d_X0_init_40 lk_CutStones_Drawing_31 (Or.inl rfl) ⟨by decide, by decide⟩ (by decide +kernel) ?_
  have hZ := hZ.pI (o := 29) (j := 6) (v := 0) (by decide)
  refine zv_aload_n (pc := 43) d_X0_init_43 rfl ?_
  refine zv_iconst (pc := 44) d_X0_init_44 zc_i_0 ?_
  refine kx_putI (pc := 45) (o := 29) (v := 0) d_X0_init_45 lk_CutStones_Drawing_34 (Or.inl rfl) ⟨by decide, by decide⟩ (by decide +kernel) ?_
  have hZ := hZ.pI (o := 29) (j := 7) (v := 0) (by decide)
  exact zv_vret (pc := 48) d_X0_init_48 rfl rfl (Nat.le_refl _) hP
def kS_X0_init_31 (S : aS) : aS := (zw_pI (zw_pI (zw_pI (zw_pI (zw_pI (zw_pI (zw_pI (zw_pR S 31 0 32) 31 1 0) 31 2 0) 31 3 0) 31 4 0) 31 5 0) 31 6 0) 31 7 0)
theorem kZ_X0_init_31 {S : aS} (hZ : zw_Z 31 S) : zw_Z 32 (kS_X0_init_31 S) := by
  unfold kS_X0_init_31
  have hZ := hZ.up
  have hZ := hZ.pR (o := 31) (j := 0) (v := 32) (by decide)
  have hZ := hZ.pI (o := 31) (j := 1) (v := 0) (by decide)
  have hZ := hZ.pI (o := 31) (j := 2) (v := 0) (by decide)
  have hZ := hZ.pI (o := 31) (j := 3) (v := 0) (by decide)
  have hZ := hZ.pI (o := 31) (j := 4) (v := 0) (by decide)
  have hZ := hZ.pI (o := 31) (j := 5) (v := 0) (by decide)
  have hZ := hZ.pI (o := 31) (j := 6) (v := 0) (by decide)
  have hZ := hZ.pI (o := 31) (j := 7) (v := 0) (by decide)
  exact hZ
theorem k_X0_init_31 {X : zw_X} {P : Option Value → aS → Prop} {S : aS} (hZ : zw_Z 31 S) (hP : P none (kS_X0_init_31 S)) : zw_C X M_X0_init 1 1 144 31 [.ref 31] S P := by
  show zw_V X M_X0_init 1 1 144 31 P 0 0 0 [.ref 31] [] S
  refine zv_aload_n (pc := 0) d_X0_init_0 rfl ?_
  refine zv_obj (pc := 1) d_X0_init_1 (zw_mG (List.mem_of_getElem? (i := 195) (by decide +kernel)) rfl) (by decide) (Nat.le_of_ble_eq_true rfl) ?_
  refine zv_aload_n (pc := 4) d_X0_init_4 rfl ?_
  refine zv_sipush (pc := 5) d_X0_init_5 zc_s_144 ?_
  refine kx_newa (pc := 8) (N := 144) d_X0_init_8 (by decide) (by decide +kernel) (by decide +kernel) (by decide) (by decide) rfl hZ ⟨by decide, by decide⟩ (by decide) ?_
  have hZ := hZ.up
  refine kx_putR (pc := 10) (o := 31) (v := 32) d_X0_init_10 lk_CutStones_Drawing_9 (Or.inr ⟨rfl, rfl, rfl⟩) (by decide) ⟨by decide, by decide⟩ (by decide +kernel) (by decide) ?_
  have hZ := hZ.pR (o := 31) (j := 0) (v := 32) (by decide)
  refine zv_aload_n (pc := 13) d_X0_init_13 rfl ?_
  refine zv_iconst (pc := 14) d_X0_init_14 zc_i_0 ?_
  refine kx_putI (pc := 15) (o := 31) (v := 0) d_X0_init_15 lk_CutStones_Drawing_15 (Or.inl rfl) ⟨by decide, by decide⟩ (by decide +kernel) ?_
  have hZ := hZ.pI (o := 31) (j := 1) (v := 0) (by decide)
  refine zv_aload_n (pc := 18) d_X0_init_18 rfl ?_
  refine zv_iconst (pc := 19) d_X0_init_19 zc_i_0 ?_
  refine kx_putI (pc := 20) (o := 31) (v := 0) d_X0_init_20 lk_CutStones_Drawing_19 (Or.inl rfl) ⟨by decide, by decide⟩ (by decide +kernel) ?_
  have hZ := hZ.pI (o := 31) (j := 2) (v := 0) (by decide)
  refine zv_aload_n (pc := 23) d_X0_init_23 rfl ?_
  refine zv_iconst (pc := 24) d_X0_init_24 zc_i_0 ?_
  refine kx_putI (pc := 25) (o := 31) (v := 0) d_X0_init_25 lk_CutStones_Drawing_22 (Or.inl rfl) ⟨by decide, by decide⟩ (by decide +kernel) ?_
  have hZ := hZ.pI (o := 31) (j := 3) (v := 0) (by decide)
  refine zv_aload_n (pc := 28) d_X0_init_28 rfl ?_
  refine zv_iconst (pc := 29) d_X0_init_29 zc_i_0 ?_
  refine kx_putI (pc := 30) (o := 31) (v := 0) d_X0_init_30 lk_CutStones_Drawing_25 (Or.inl rfl) ⟨by decide, by decide⟩ (by decide +kernel) ?_
  have hZ := hZ.pI (o := 31) (j := 4) (v := 0) (by decide)
  refine zv_aload_n (pc := 33) d_X0_init_33 rfl ?_
  refine zv_iconst (pc := 34) d_X0_init_34 zc_i_0 ?_
  refine kx_putI (pc := 35) (o := 31) (v := 0) d_X0_init_35 lk_CutStones_Drawing_28 (Or.inl rfl) ⟨by decide, by decide⟩ (by decide +kernel) ?_
  have hZ := hZ.pI (o := 31) (j := 5) (v := 0) (by decide)
  refine zv_aload_n (pc := 38) d_X0_init_38 rfl ?_
  refine zv_iconst (pc := 39) d_X0_init_39 zc_i_0 ?_
  refine kx_putI (pc := 40) (o := 31) (v := 0) d_X0_init_40 lk_CutStones_Drawing_31 (Or.inl rfl) ⟨by decide, by decide⟩ (by decide +kernel) ?_
  have hZ := hZ.pI (o := 31) (j := 6) (v := 0) (by decide)
  refine zv_aload_n (pc := 43) d_X0_init_43 rfl ?_
  refine zv_iconst (pc := 44) d_X0_init_44 zc_i_0 ?_
  refine kx_putI (pc := 45) (o := 31) (v := 0) d_X0_init_45 lk_CutStones_Drawing_34 (Or.inl rfl) ⟨by decide, by decide⟩ (by decide +kernel) ?_
  have hZ := hZ.pI (o := 31) (j := 7) (v := 0) (by decide)
  exact zv_vret (pc := 48) d_X0_init_48 rfl rfl (Nat.le_refl _) hP
def kS_X0_init_33 (S : aS) : aS := (zw_pI (zw_pI (zw_pI (zw_pI (zw_pI (zw_pI (zw_pI (zw_pR S 33 0 34) 33 1 0) 33 2 0) 33 3 0) 33 4 0) 33 5 0) 33 6 0) 33 7 0)
theorem kZ_X0_init_33 {S : aS} (hZ : zw_Z 33 S) : zw_Z 34 (kS_X0_init_33 S) := by
  unfold kS_X0_init_33
  have hZ := hZ.up
  have hZ := hZ.pR (o := 33) (j := 0) (v := 34) (by decide)
  have hZ := hZ.pI (o := 33) (j := 1) (v := 0) (by decide)
  have hZ := hZ.pI (o := 33) (j := 2) (v := 0) (by decide)
  have hZ := hZ.pI (o := 33) (j := 3) (v := 0) (by decide)
  have hZ := hZ.pI (o := 33) (j := 4) (v := 0) (by decide)
  have hZ := hZ.pI (o := 33) (j := 5) (v := 0) (by decide)
  have hZ := hZ.pI (o := 33) (j := 6) (v := 0) (by decide)
  have hZ := hZ.pI (o := 33) (j := 7) (v := 0) (by decide)
  exact hZ
theorem k_X0_init_33 {X : zw_X} {P : Option Value → aS → Prop} {S : aS} (hZ : zw_Z 33 S) (hP : P none (kS_X0_init_33 S)) : zw_C X M_X0_init 1 1 144 33 [.ref 33] S P := by
  show zw_V X M_X0_init 1 1 144 33 P 0 0 0 [.ref 33] [] S
  refine zv_aload_n (pc := 0) d_X0_init_0 rfl ?_
  refine zv_obj (pc := 1) d_X0_init_1 (zw_mG (List.mem_of_getElem? (i := 195) (by decide +kernel)) rfl) (by decide) (Nat.le_of_ble_eq_true rfl) ?_
  refine zv_aload_n (pc := 4) d_X0_init_4 rfl ?_
  refine zv_sipush (pc := 5) d_X0_init_5 zc_s_144 ?_
  refine kx_newa (pc := 8) (N := 144) d_X0_init_8 (by decide) (by decide +kernel) (by decide +kernel) (by decide) (by decide) rfl hZ ⟨by decide, by decide⟩ (by decide) ?_
  have hZ := hZ.up
  refine kx_putR (pc := 10) (o := 33) (v := 34) d_X0_init_10 lk_CutStones_Drawing_9 (Or.inr ⟨rfl, rfl, rfl⟩) (by decide) ⟨by decide, by decide⟩ (by decide +kernel) (by decide) ?_
  have hZ := hZ.pR (o := 33) (j := 0) (v := 34) (by decide)
  refine zv_aload_n (pc := 13) d_X0_init_13 rfl ?_
  refine zv_iconst (pc := 14) d_X0_init_14 zc_i_0 ?_
  refine kx_putI (pc := 15) (o := 33) (v := 0) d_X0_init_15 lk_CutStones_Drawing_15 (Or.inl rfl) ⟨by decide, by decide⟩ (by decide +kernel) ?_
  have hZ := hZ.pI (o := 33) (j := 1) (v := 0) (by decide)
  refine zv_aload_n (pc := 18) d_X0_init_18 rfl ?_
  refine zv_iconst (pc := 19) d_X0_init_19 zc_i_0 ?_
  refine kx_putI (pc := 20) (o := 33) (v := 0) d_X0_init_20 lk_CutStones_Drawing_19 (Or.inl rfl) ⟨by decide, by decide⟩ (by decide +kernel) ?_
  have hZ := hZ.pI (o := 33) (j := 2) (v := 0) (by decide)
  refine zv_aload_n (pc := 23) d_X0_init_23 rfl ?_
  refine zv_iconst (pc := 24) d_X0_init_24 zc_i_0 ?_
  refine kx_putI (pc := 25) (o := 33) (v := 0) d_X0_init_25 lk_CutStones_Drawing_22 (Or.inl rfl) ⟨by decide, by decide⟩ (by decide +kernel) ?_
  have hZ := hZ.pI (o := 33) (j := 3) (v := 0) (by decide)
  refine zv_aload_n (pc := 28) d_X0_init_28 rfl ?_
  refine zv_iconst (pc := 29) d_X0_init_29 zc_i_0 ?_
  refine kx_putI (pc := 30) (o := 33) (v := 0) d_X0_init_30 lk_CutStones_Drawing_25 (Or.inl rfl) ⟨by decide, by decide⟩ (by decide +kernel) ?_
  have hZ := hZ.pI (o := 33) (j := 4) (v := 0) (by decide)
  refine zv_aload_n (pc := 33) d_X0_init_33 rfl ?_
  refine zv_iconst (pc := 34) d_X0_init_34 zc_i_0 ?_
  refine kx_putI (pc := 35) (o := 33) (v := 0) d_X0_init_35 lk_CutStones_Drawing_28 (Or.inl rfl) ⟨by decide, by decide⟩ (by decide +kernel) ?_
  have hZ := hZ.pI (o := 33) (j := 5) (v := 0) (by decide)
  refine zv_aload_n (pc := 38) d_X0_init_38 rfl ?_
  refine zv_iconst (pc := 39) d_X0_init_39 zc_i_0 ?_
  refine kx_putI (pc := 40) (o := 33) (v := 0) d_X0_init_40 lk_CutStones_Drawing_31 (Or.inl rfl) ⟨by decide, by decide⟩ (by decide +kernel) ?_
  have hZ := hZ.pI (o := 33) (j := 6) (v := 0) (by decide)
  refine zv_aload_n (pc := 43) d_X0_init_43 rfl ?_
  refine zv_iconst (pc := 44) d_X0_init_44 zc_i_0 ?_
  refine kx_putI (pc := 45) (o := 33) (v := 0) d_X0_init_45 lk_CutStones_Drawing_34 (Or.inl rfl) ⟨by decide, by decide⟩ (by decide +kernel) ?_
  have hZ := hZ.pI (o := 33) (j := 7) (v := 0) (by decide)
  exact zv_vret (pc := 48) d_X0_init_48 rfl rfl (Nat.le_refl _) hP
def kS_X0_init_35 (S : aS) : aS := (zw_pI (zw_pI (zw_pI (zw_pI (zw_pI (zw_pI (zw_pI (zw_pR S 35 0 36) 35 1 0) 35 2 0) 35 3 0) 35 4 0) 35 5 0) 35 6 0) 35 7 0)
theorem kZ_X0_init_35 {S : aS} (hZ : zw_Z 35 S) : zw_Z 36 (kS_X0_init_35 S) := by
  unfold kS_X0_init_35
  have hZ := hZ.up
  have hZ := hZ.pR (o := 35) (j := 0) (v := 36) (by decide)
  have hZ := hZ.pI (o := 35) (j := 1) (v := 0) (by decide)
  have hZ := hZ.pI (o := 35) (j := 2) (v := 0) (by decide)
  have hZ := hZ.pI (o := 35) (j := 3) (v := 0) (by decide)
  have hZ := hZ.pI (o := 35) (j := 4) (v := 0) (by decide)
  have hZ := hZ.pI (o := 35) (j := 5) (v := 0) (by decide)
  have hZ := hZ.pI (o := 35) (j := 6) (v := 0) (by decide)
  have hZ := hZ.pI (o := 35) (j := 7) (v := 0) (by decide)
  exact hZ
theorem k_X0_init_35 {X : zw_X} {P : Option Value → aS → Prop} {S : aS} (hZ : zw_Z 35 S) (hP : P none (kS_X0_init_35 S)) : zw_C X M_X0_init 1 1 144 35 [.ref 35] S P := by
  show zw_V X M_X0_init 1 1 144 35 P 0 0 0 [.ref 35] [] S
  refine zv_aload_n (pc := 0) d_X0_init_0 rfl ?_
  refine zv_obj (pc := 1) d_X0_init_1 (zw_mG (List.mem_of_getElem? (i := 195) (by decide +kernel)) rfl) (by decide) (Nat.le_of_ble_eq_true rfl) ?_
  refine zv_aload_n (pc := 4) d_X0_init_4 rfl ?_
  refine zv_sipush (pc := 5) d_X0_init_5 zc_s_144 ?_
  refine kx_newa (pc := 8) (N := 144) d_X0_init_8 (by decide) (by decide +kernel) (by decide +kernel) (by decide) (by decide) rfl hZ ⟨by decide, by decide⟩ (by decide) ?_
  have hZ := hZ.up
  refine kx_putR (pc := 10) (o := 35) (v := 36) d_X0_init_10 lk_CutStones_Drawing_9 (Or.inr ⟨rfl, rfl, rfl⟩) (by decide) ⟨by decide, by decide⟩ (by decide +kernel) (by decide) ?_
  have hZ := hZ.pR (o := 35) (j := 0) (v := 36) (by decide)
  refine zv_aload_n (pc := 13) d_X0_init_13 rfl ?_
  refine zv_iconst (pc := 14) d_X0_init_14 zc_i_0 ?_
  refine kx_putI (pc := 15) (o := 35) (v := 0) d_X0_init_15 lk_CutStones_Drawing_15 (Or.inl rfl) ⟨by decide, by decide⟩ (by decide +kernel) ?_
  have hZ := hZ.pI (o := 35) (j := 1) (v := 0) (by decide)
  refine zv_aload_n (pc := 18) d_X0_init_18 rfl ?_
  refine zv_iconst (pc := 19) d_X0_init_19 zc_i_0 ?_
  refine kx_putI (pc := 20) (o := 35) (v := 0) d_X0_init_20 lk_CutStones_Drawing_19 (Or.inl rfl) ⟨by decide, by decide⟩ (by decide +kernel) ?_
  have hZ := hZ.pI (o := 35) (j := 2) (v := 0) (by decide)
  refine zv_aload_n (pc := 23) d_X0_init_23 rfl ?_
  refine zv_iconst (pc := 24) d_X0_init_24 zc_i_0 ?_
  refine kx_putI (pc := 25) (o := 35) (v := 0) d_X0_init_25 lk_CutStones_Drawing_22 (Or.inl rfl) ⟨by decide, by decide⟩ (by decide +kernel) ?_
  have hZ := hZ.pI (o := 35) (j := 3) (v := 0) (by decide)
  refine zv_aload_n (pc := 28) d_X0_init_28 rfl ?_
  refine zv_iconst (pc := 29) d_X0_init_29 zc_i_0 ?_
  refine kx_putI (pc := 30) (o := 35) (v := 0) d_X0_init_30 lk_CutStones_Drawing_25 (Or.inl rfl) ⟨by decide, by decide⟩ (by decide +kernel) ?_
  have hZ := hZ.pI (o := 35) (j := 4) (v := 0) (by decide)
  refine zv_aload_n (pc := 33) d_X0_init_33 rfl ?_
  refine zv_iconst (pc := 34) d_X0_init_34 zc_i_0 ?_
  refine kx_putI (pc := 35) (o := 35) (v := 0) d_X0_init_35 lk_CutStones_Drawing_28 (Or.inl rfl) ⟨by decide, by decide⟩ (by decide +kernel) ?_
  have hZ := hZ.pI (o := 35) (j := 5) (v := 0) (by decide)
  refine zv_aload_n (pc := 38) d_X0_init_38 rfl ?_
  refine zv_iconst (pc := 39) d_X0_init_39 zc_i_0 ?_
  refine kx_putI (pc := 40) (o := 35) (v := 0) d_X0_init_40 lk_CutStones_Drawing_31 (Or.inl rfl) ⟨by decide, by decide⟩ (by decide +kernel) ?_
  have hZ := hZ.pI (o := 35) (j := 6) (v := 0) (by decide)
  refine zv_aload_n (pc := 43) d_X0_init_43 rfl ?_
  refine zv_iconst (pc := 44) d_X0_init_44 zc_i_0 ?_
  refine kx_putI (pc := 45) (o := 35) (v := 0) d_X0_init_45 lk_CutStones_Drawing_34 (Or.inl rfl) ⟨by decide, by decide⟩ (by decide +kernel) ?_
  have hZ := hZ.pI (o := 35) (j := 7) (v := 0) (by decide)
  exact zv_vret (pc := 48) d_X0_init_48 rfl rfl (Nat.le_refl _) hP
def kS_X0_init_37 (S : aS) : aS := (zw_pI (zw_pI (zw_pI (zw_pI (zw_pI (zw_pI (zw_pI (zw_pR S 37 0 38) 37 1 0) 37 2 0) 37 3 0) 37 4 0) 37 5 0) 37 6 0) 37 7 0)
theorem kZ_X0_init_37 {S : aS} (hZ : zw_Z 37 S) : zw_Z 38 (kS_X0_init_37 S) := by
  unfold kS_X0_init_37
  have hZ := hZ.up
  have hZ := hZ.pR (o := 37) (j := 0) (v := 38) (by decide)
  have hZ := hZ.pI (o := 37) (j := 1) (v := 0) (by decide)
  have hZ := hZ.pI (o := 37) (j := 2) (v := 0) (by decide)
  have hZ := hZ.pI (o := 37) (j := 3) (v := 0) (by decide)
  have hZ := hZ.pI (o := 37) (j := 4) (v := 0) (by decide)
  have hZ := hZ.pI (o := 37) (j := 5) (v := 0) (by decide)
  have hZ := hZ.pI (o := 37) (j := 6) (v := 0) (by decide)
  have hZ := hZ.pI (o := 37) (j := 7) (v := 0) (by decide)
  exact hZ
theorem k_X0_init_37 {X : zw_X} {P : Option Value → aS → Prop} {S : aS} (hZ : zw_Z 37 S) (hP : P none (kS_X0_init_37 S)) : zw_C X M_X0_init 1 1 144 37 [.ref 37] S P := by
  show zw_V X M_X0_init 1 1 144 37 P 0 0 0 [.ref 37] [] S
  refine zv_aload_n (pc := 0) d_X0_init_0 rfl ?_
  refine zv_obj (pc := 1) d_X0_init_1 (zw_mG (List.mem_of_getElem? (i := 195) (by decide +kernel)) rfl) (by decide) (Nat.le_of_ble_eq_true rfl) ?_
  refine zv_aload_n (pc := 4) d_X0_init_4 rfl ?_
  refine zv_sipush (pc := 5) d_X0_init_5 zc_s_144 ?_
  refine kx_newa (pc := 8) (N := 144) d_X0_init_8 (by decide) (by decide +kernel) (by decide +kernel) (by decide) (by decide) rfl hZ ⟨by decide, by decide⟩ (by decide) ?_
  have hZ := hZ.up
  refine kx_putR (pc := 10) (o := 37) (v := 38) d_X0_init_10 lk_CutStones_Drawing_9 (Or.inr ⟨rfl, rfl, rfl⟩) (by decide) ⟨by decide, by decide⟩ (by decide +kernel) (by decide) ?_
  have hZ := hZ.pR (o := 37) (j := 0) (v := 38) (by decide)
  refine zv_aload_n (pc := 13) d_X0_init_13 rfl ?_
  refine zv_iconst (pc := 14) d_X0_init_14 zc_i_0 ?_
  refine kx_putI (pc := 15) (o := 37) (v := 0) d_X0_init_15 lk_CutStones_Drawing_15 (Or.inl rfl) ⟨by decide, by decide⟩ (by decide +kernel) ?_
  have hZ := hZ.pI (o := 37) (j := 1) (v := 0) (by decide)
  refine zv_aload_n (pc := 18) d_X0_init_18 rfl ?_
  refine zv_iconst (pc := 19) d_X0_init_19 zc_i_0 ?_
  refine kx_putI (pc := 20) (o := 37) (v := 0) d_X0_init_20 lk_CutStones_Drawing_19 (Or.inl rfl) ⟨by decide, by decide⟩ (by decide +kernel) ?_
  have hZ := hZ.pI (o := 37) (j := 2) (v := 0) (by decide)
  refine zv_aload_n (pc := 23) d_X0_init_23 rfl ?_
  refine zv_iconst (pc := 24) d_X0_init_24 zc_i_0 ?_
  refine kx_putI (pc := 25) (o := 37) (v := 0) d_X0_init_25 lk_CutStones_Drawing_22 (Or.inl rfl) ⟨by decide, by decide⟩ (by decide +kernel) ?_
  have hZ := hZ.pI (o := 37) (j := 3) (v := 0) (by decide)
  refine zv_aload_n (pc := 28) d_X0_init_28 rfl ?_
  refine zv_iconst (pc := 29) d_X0_init_29 zc_i_0 ?_
  refine kx_putI (pc := 30) (o := 37) (v := 0) d_X0_init_30 lk_CutStones_Drawing_25 (Or.inl rfl) ⟨by decide, by decide⟩ (by decide +kernel) ?_
  have hZ := hZ.pI (o := 37) (j := 4) (v := 0) (by decide)
  refine zv_aload_n (pc := 33) d_X0_init_33 rfl ?_
  refine zv_iconst (pc := 34) d_X0_init_34 zc_i_0 ?_
  refine kx_putI (pc := 35) (o := 37) (v := 0) d_X0_init_35 lk_CutStones_Drawing_28 (Or.inl rfl) ⟨by decide, by decide⟩ (by decide +kernel) ?_
  have hZ := hZ.pI (o := 37) (j := 5) (v := 0) (by decide)
  refine zv_aload_n (pc := 38) d_X0_init_38 rfl ?_
  refine zv_iconst (pc := 39) d_X0_init_39 zc_i_0 ?_
  refine kx_putI (pc := 40) (o := 37) (v := 0) d_X0_init_40 lk_CutStones_Drawing_31 (Or.inl rfl) ⟨by decide, by decide⟩ (by decide +kernel) ?_
  have hZ := hZ.pI (o := 37) (j := 6) (v := 0) (by decide)
  refine zv_aload_n (pc := 43) d_X0_init_43 rfl ?_
  refine zv_iconst (pc := 44) d_X0_init_44 zc_i_0 ?_
  refine kx_putI (pc := 45) (o := 37) (v := 0) d_X0_init_45 lk_CutStones_Drawing_34 (Or.inl rfl) ⟨by decide, by decide⟩ (by decide +kernel) ?_
  have hZ := hZ.pI (o := 37) (j := 7) (v := 0) (by decide)
  exact zv_vret (pc := 48) d_X0_init_48 rfl rfl (Nat.le_refl _) hP
def kS_X0_init_39 (S : aS) : aS := (zw_pI (zw_pI (zw_pI (zw_pI (zw_pI (zw_pI (zw_pI (zw_pR S 39 0 40) 39 1 0) 39 2 0) 39 3 0) 39 4 0) 39 5 0) 39 6 0) 39 7 0)
theorem kZ_X0_init_39 {S : aS} (hZ : zw_Z 39 S) : zw_Z 40 (kS_X0_init_39 S) := by
  unfold kS_X0_init_39
  have hZ := hZ.up
  have hZ := hZ.pR (o := 39) (j := 0) (v := 40) (by decide)
  have hZ := hZ.pI (o := 39) (j := 1) (v := 0) (by decide)
  have hZ := hZ.pI (o := 39) (j := 2) (v := 0) (by decide)
  have hZ := hZ.pI (o := 39) (j := 3) (v := 0) (by decide)
  have hZ := hZ.pI (o := 39) (j := 4) (v := 0) (by decide)
  have hZ := hZ.pI (o := 39) (j := 5) (v := 0) (by decide)
  have hZ := hZ.pI (o := 39) (j := 6) (v := 0) (by decide)
  have hZ := hZ.pI (o := 39) (j := 7) (v := 0) (by decide)
  exact hZ
theorem k_X0_init_39 {X : zw_X} {P : Option Value → aS → Prop} {S : aS} (hZ : zw_Z 39 S) (hP : P none (kS_X0_init_39 S)) : zw_C X M_X0_init 1 1 144 39 [.ref 39] S P := by
  show zw_V X M_X0_init 1 1 144 39 P 0 0 0 [.ref 39] [] S
  refine zv_aload_n (pc := 0) d_X0_init_0 rfl ?_
  refine zv_obj (pc := 1) d_X0_init_1 (zw_mG (List.mem_of_getElem? (i := 195) (by decide +kernel)) rfl) (by decide) (Nat.le_of_ble_eq_true rfl) ?_
  refine zv_aload_n (pc := 4) d_X0_init_4 rfl ?_
  refine zv_sipush (pc := 5) d_X0_init_5 zc_s_144 ?_
  refine kx_newa (pc := 8) (N := 144) d_X0_init_8 (by decide) (by decide +kernel) (by decide +kernel) (by decide) (by decide) rfl hZ ⟨by decide, by decide⟩ (by decide) ?_
  have hZ := hZ.up
  refine kx_putR (pc := 10) (o := 39) (v := 40) d_X0_init_10 lk_CutStones_Drawing_9 (Or.inr ⟨rfl, rfl, rfl⟩) (by decide) ⟨by decide, by decide⟩ (by decide +kernel) (by decide) ?_
  have hZ := hZ.pR (o := 39) (j := 0) (v := 40) (by decide)
  refine zv_aload_n (pc := 13) d_X0_init_13 rfl ?_
  refine zv_iconst (pc := 14) d_X0_init_14 zc_i_0 ?_
  refine kx_putI (pc := 15) (o := 39) (v := 0) d_X0_init_15 lk_CutStones_Drawing_15 (Or.inl rfl) ⟨by decide, by decide⟩ (by decide +kernel) ?_
  have hZ := hZ.pI (o := 39) (j := 1) (v := 0) (by decide)
  refine zv_aload_n (pc := 18) d_X0_init_18 rfl ?_
  refine zv_iconst (pc := 19) d_X0_init_19 zc_i_0 ?_
  refine kx_putI (pc := 20) (o := 39) (v := 0) d_X0_init_20 lk_CutStones_Drawing_19 (Or.inl rfl) ⟨by decide, by decide⟩ (by decide +kernel) ?_
  have hZ := hZ.pI (o := 39) (j := 2) (v := 0) (by decide)
  refine zv_aload_n (pc := 23) d_X0_init_23 rfl ?_
  refine zv_iconst (pc := 24) d_X0_init_24 zc_i_0 ?_
  refine kx_putI (pc := 25) (o := 39) (v := 0) d_X0_init_25 lk_CutStones_Drawing_22 (Or.inl rfl) ⟨by decide, by decide⟩ (by decide +kernel) ?_
  have hZ := hZ.pI (o := 39) (j := 3) (v := 0) (by decide)
  refine zv_aload_n (pc := 28) d_X0_init_28 rfl ?_
  refine zv_iconst (pc := 29) d_X0_init_29 zc_i_0 ?_
  refine kx_putI (pc := 30) (o := 39) (v := 0) d_X0_init_30 lk_CutStones_Drawing_25 (Or.inl rfl) ⟨by decide, by decide⟩ (by decide +kernel) ?_
  have hZ := hZ.pI (o := 39) (j := 4) (v := 0) (by decide)
  refine zv_aload_n (pc := 33) d_X0_init_33 rfl ?_
  refine zv_iconst (pc := 34) d_X0_init_34 zc_i_0 ?_
  refine kx_putI (pc := 35) (o := 39) (v := 0) d_X0_init_35 lk_CutStones_Drawing_28 (Or.inl rfl) ⟨by decide, by decide⟩ (by decide +kernel) ?_
  have hZ := hZ.pI (o := 39) (j := 5) (v := 0) (by decide)
  refine zv_aload_n (pc := 38) d_X0_init_38 rfl ?_
  refine zv_iconst (pc := 39) d_X0_init_39 zc_i_0 ?_
  refine kx_putI (pc := 40) (o := 39) (v := 0) d_X0_init_40 lk_CutStones_Drawing_31 (Or.inl rfl) ⟨by decide, by decide⟩ (by decide +kernel) ?_
  have hZ := hZ.pI (o := 39) (j := 6) (v := 0) (by decide)
  refine zv_aload_n (pc := 43) d_X0_init_43 rfl ?_
  refine zv_iconst (pc := 44) d_X0_init_44 zc_i_0 ?_
  refine kx_putI (pc := 45) (o := 39) (v := 0) d_X0_init_45 lk_CutStones_Drawing_34 (Or.inl rfl) ⟨by decide, by decide⟩ (by decide +kernel) ?_
  have hZ := hZ.pI (o := 39) (j := 7) (v := 0) (by decide)
  exact zv_vret (pc := 48) d_X0_init_48 rfl rfl (Nat.le_refl _) hP
def kS_X0_init_41 (S : aS) : aS := (zw_pI (zw_pI (zw_pI (zw_pI (zw_pI (zw_pI (zw_pI (zw_pR S 41 0 42) 41 1 0) 41 2 0) 41 3 0) 41 4 0) 41 5 0) 41 6 0) 41 7 0)
theorem kZ_X0_init_41 {S : aS} (hZ : zw_Z 41 S) : zw_Z 42 (kS_X0_init_41 S) := by
  unfold kS_X0_init_41
  have hZ := hZ.up
  have hZ := hZ.pR (o := 41) (j := 0) (v := 42) (by decide)
  have hZ := hZ.pI (o := 41) (j := 1) (v := 0) (by decide)
  have hZ := hZ.pI (o := 41) (j := 2) (v := 0) (by decide)
  have hZ := hZ.pI (o := 41) (j := 3) (v := 0) (by decide)
  have hZ := hZ.pI (o := 41) (j := 4) (v := 0) (by decide)
  have hZ := hZ.pI (o := 41) (j := 5) (v := 0) (by decide)
  have hZ := hZ.pI (o := 41) (j := 6) (v := 0) (by decide)
  have hZ := hZ.pI (o := 41) (j := 7) (v := 0) (by decide)
  exact hZ
theorem k_X0_init_41 {X : zw_X} {P : Option Value → aS → Prop} {S : aS} (hZ : zw_Z 41 S) (hP : P none (kS_X0_init_41 S)) : zw_C X M_X0_init 1 1 144 41 [.ref 41] S P := by
  show zw_V X M_X0_init 1 1 144 41 P 0 0 0 [.ref 41] [] S
  refine zv_aload_n (pc := 0) d_X0_init_0 rfl ?_
  refine zv_obj (pc := 1) d_X0_init_1 (zw_mG (List.mem_of_getElem? (i := 195) (by decide +kernel)) rfl) (by decide) (Nat.le_of_ble_eq_true rfl) ?_
  refine zv_aload_n (pc := 4) d_X0_init_4 rfl ?_
  refine zv_sipush (pc := 5) d_X0_init_5 zc_s_144 ?_
  refine kx_newa (pc := 8) (N := 144) d_X0_init_8 (by decide) (by decide +kernel) (by decide +kernel) (by decide) (by decide) rfl hZ ⟨by decide, by decide⟩ (by decide) ?_
  have hZ := hZ.up
  refine kx_putR (pc := 10) (o := 41) (v := 42) d_X0_init_10 lk_CutStones_Drawing_9 (Or.inr ⟨rfl, rfl, rfl⟩) (by decide) ⟨by decide, by decide⟩ (by decide +kernel) (by decide) ?_
  have hZ := hZ.pR (o := 41) (j := 0) (v := 42) (by decide)
  refine zv_aload_n (pc := 13) d_X0_init_13 rfl ?_
  refine zv_iconst (pc := 14) d_X0_init_14 zc_i_0 ?_
  refine kx_putI (pc := 15) (o := 41) (v := 0) d_X0_init_15 lk_CutStones_Drawing_15 (Or.inl rfl) ⟨by decide, by decide⟩ (by decide +kernel) ?_
  have hZ := hZ.pI (o := 41) (j := 1) (v := 0) (by decide)
  refine zv_aload_n (pc := 18) d_X0_init_18 rfl ?_
  refine zv_iconst (pc := 19) d_X0_init_19 zc_i_0 ?_
  refine kx_putI (pc := 20) (o := 41) (v := 0) d_X0_init_20 lk_CutStones_Drawing_19 (Or.inl rfl) ⟨by decide, by decide⟩ (by decide +kernel) ?_
  have hZ := hZ.pI (o := 41) (j := 2) (v := 0) (by decide)
  refine zv_aload_n (pc := 23) d_X0_init_23 rfl ?_
  refine zv_iconst (pc := 24) d_X0_init_24 zc_i_0 ?_
  refine kx_putI (pc := 25) (o := 41) (v := 0) d_X0_init_25 lk_CutStones_Drawing_22 (Or.inl rfl) ⟨by decide, by decide⟩ (by decide +kernel) ?_
  have hZ := hZ.pI (o := 41) (j := 3) (v := 0) (by decide)
  refine zv_aload_n (pc := 28) d_X0_init_28 rfl ?_
  refine zv_iconst (pc := 29) d_X0_init_29 zc_i_0 ?_
  refine kx_putI (pc := 30) (o := 41) (v := 0) d_X0_init_30 lk_CutStones_Drawing_25 (Or.inl rfl) ⟨by decide, by decide⟩ (by decide +kernel) ?_
  have hZ := hZ.pI (o := 41) (j := 4) (v := 0) (by decide)
  refine zv_aload_n (pc := 33) d_X0_init_33 rfl ?_
  refine zv_iconst (pc := 34) d_X0_init_34 zc_i_0 ?_
  refine kx_putI (pc := 35) (o := 41) (v := 0) d_X0_init_35 lk_CutStones_Drawing_28 (Or.inl rfl) ⟨by decide, by decide⟩ (by decide +kernel) ?_
  have hZ := hZ.pI (o := 41) (j := 5) (v := 0) (by decide)
  refine zv_aload_n (pc := 38) d_X0_init_38 rfl ?_
  refine zv_iconst (pc := 39) d_X0_init_39 zc_i_0 ?_
  refine kx_putI (pc := 40) (o := 41) (v := 0) d_X0_init_40 lk_CutStones_Drawing_31 (Or.inl rfl) ⟨by decide, by decide⟩ (by decide +kernel) ?_
  have hZ := hZ.pI (o := 41) (j := 6) (v := 0) (by decide)
  refine zv_aload_n (pc := 43) d_X0_init_43 rfl ?_
  refine zv_iconst (pc := 44) d_X0_init_44 zc_i_0 ?_
  refine kx_putI (pc := 45) (o := 41) (v := 0) d_X0_init_45 lk_CutStones_Drawing_34 (Or.inl rfl) ⟨by decide, by decide⟩ (by decide +kernel) ?_
  have hZ := hZ.pI (o := 41) (j := 7) (v := 0) (by decide)
  exact zv_vret (pc := 48) d_X0_init_48 rfl rfl (Nat.le_refl _) hP
def kS_X0_init_43 (S : aS) : aS := (zw_pI (zw_pI (zw_pI (zw_pI (zw_pI (zw_pI (zw_pI (zw_pR S 43 0 44) 43 1 0) 43 2 0) 43 3 0) 43 4 0) 43 5 0) 43 6 0) 43 7 0)
theorem kZ_X0_init_43 {S : aS} (hZ : zw_Z 43 S) : zw_Z 44 (kS_X0_init_43 S) := by
  unfold kS_X0_init_43
  have hZ := hZ.up
  have hZ := hZ.pR (o := 43) (j := 0) (v := 44) (by decide)
  have hZ := hZ.pI (o := 43) (j := 1) (v := 0) (by decide)
  have hZ := hZ.pI (o := 43) (j := 2) (v := 0) (by decide)
  have hZ := hZ.pI (o := 43) (j := 3) (v := 0) (by decide)
  have hZ := hZ.pI (o := 43) (j := 4) (v := 0) (by decide)
  have hZ := hZ.pI (o := 43) (j := 5) (v := 0) (by decide)
  have hZ := hZ.pI (o := 43) (j := 6) (v := 0) (by decide)
  have hZ := hZ.pI (o := 43) (j := 7) (v := 0) (by decide)
  exact hZ
theorem k_X0_init_43 {X : zw_X} {P : Option Value → aS → Prop} {S : aS} (hZ : zw_Z 43 S) (hP : P none (kS_X0_init_43 S)) : zw_C X M_X0_init 1 1 144 43 [.ref 43] S P := by
  show zw_V X M_X0_init 1 1 144 43 P 0 0 0 [.ref 43] [] S
  refine zv_aload_n (pc := 0) d_X0_init_0 rfl ?_
  refine zv_obj (pc := 1) d_X0_init_1 (zw_mG (List.mem_of_getElem? (i := 195) (by decide +kernel)) rfl) (by decide) (Nat.le_of_ble_eq_true rfl) ?_
  refine zv_aload_n (pc := 4) d_X0_init_4 rfl ?_
  refine zv_sipush (pc := 5) d_X0_init_5 zc_s_144 ?_
  refine kx_newa (pc := 8) (N := 144) d_X0_init_8 (by decide) (by decide +kernel) (by decide +kernel) (by decide) (by decide) rfl hZ ⟨by decide, by decide⟩ (by decide) ?_
  have hZ := hZ.up
  refine kx_putR (pc := 10) (o := 43) (v := 44) d_X0_init_10 lk_CutStones_Drawing_9 (Or.inr ⟨rfl, rfl, rfl⟩) (by decide) ⟨by decide, by decide⟩ (by decide +kernel) (by decide) ?_
  have hZ := hZ.pR (o := 43) (j := 0) (v := 44) (by decide)
  refine zv_aload_n (pc := 13) d_X0_init_13 rfl ?_
  refine zv_iconst (pc := 14) d_X0_init_14 zc_i_0 ?_
  refine kx_putI (pc := 15) (o := 43) (v := 0) d_X0_init_15 lk_CutStones_Drawing_15 (Or.inl rfl) ⟨by decide, by decide⟩ (by decide +kernel) ?_
  have hZ := hZ.pI (o := 43) (j := 1) (v := 0) (by decide)
  refine zv_aload_n (pc := 18) d_X0_init_18 rfl ?_
  refine zv_iconst (pc := 19) d_X0_init_19 zc_i_0 ?_
  refine kx_putI (pc := 20) (o := 43) (v := 0) d_X0_init_20 lk_CutStones_Drawing_19 (Or.inl rfl) ⟨by decide, by decide⟩ (by decide +kernel) ?_
  have hZ := hZ.pI (o := 43) (j := 2) (v := 0) (by decide)
  refine zv_aload_n (pc := 23) d_X0_init_23 rfl ?_
  refine zv_iconst (pc := 24) d_X0_init_24 zc_i_0 ?_
  refine kx_putI (pc := 25) (o := 43) (v := 0) d_X0_init_25 lk_CutStones_Drawing_22 (Or.inl rfl) ⟨by decide, by decide⟩ (by decide +kernel) ?_
  have hZ := hZ.pI (o := 43) (j := 3) (v := 0) (by decide)
  refine zv_aload_n (pc := 28) d_X0_init_28 rfl ?_
  refine zv_iconst (pc := 29) d_X0_init_29 zc_i_0 ?_
  refine kx_putI (pc := 30) (o := 43) (v := 0) d_X0_init_30 lk_CutStones_Drawing_25 (Or.inl rfl) ⟨by decide, by decide⟩ (by decide +kernel) ?_
  have hZ := hZ.pI (o := 43) (j := 4) (v := 0) (by decide)
  refine zv_aload_n (pc := 33) d_X0_init_33 rfl ?_
  refine zv_iconst (pc := 34) d_X0_init_34 zc_i_0 ?_
  refine kx_putI (pc := 35) (o := 43) (v := 0) d_X0_init_35 lk_CutStones_Drawing_28 (Or.inl rfl) ⟨by decide, by decide⟩ (by decide +kernel) ?_
  have hZ := hZ.pI (o := 43) (j := 5) (v := 0) (by decide)
  refine zv_aload_n (pc := 38) d_X0_init_38 rfl ?_
  refine zv_iconst (pc := 39) d_X0_init_39 zc_i_0 ?_
  refine kx_putI (pc := 40) (o := 43) (v := 0) d_X0_init_40 lk_CutStones_Drawing_31 (Or.inl rfl) ⟨by decide, by decide⟩ (by decide +kernel) ?_
  have hZ := hZ.pI (o := 43) (j := 6) (v := 0) (by decide)
  refine zv_aload_n (pc := 43) d_X0_init_43 rfl ?_
  refine zv_iconst (pc := 44) d_X0_init_44 zc_i_0 ?_
  refine kx_putI (pc := 45) (o := 43) (v := 0) d_X0_init_45 lk_CutStones_Drawing_34 (Or.inl rfl) ⟨by decide, by decide⟩ (by decide +kernel) ?_
  have hZ := hZ.pI (o := 43) (j := 7) (v := 0) (by decide)
  exact zv_vret (pc := 48) d_X0_init_48 rfl rfl (Nat.le_refl _) hP
