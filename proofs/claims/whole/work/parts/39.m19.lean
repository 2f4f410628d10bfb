abbrev M_X11_tellStuff : zw_M := (⟨"CutStonesModel", "tellStuff", "()V"⟩, prog_13_method_25_code, 7, (Option.none : Option Jvm.ClassFile.FieldType))
theorem d_X11_tellStuff_0 : decode M_X11_tellStuff.2.1 0 = .ok (.iconst 4, 1) := by decide +kernel
theorem d_X11_tellStuff_1 : decode M_X11_tellStuff.2.1 1 = .ok (.aload_n 0, 1) := by decide +kernel
theorem d_X11_tellStuff_2 : decode M_X11_tellStuff.2.1 2 = .ok (.getfield 251, 3) := by decide +kernel
theorem d_X11_tellStuff_5 : decode M_X11_tellStuff.2.1 5 = .ok (.imul, 1) := by decide +kernel
theorem d_X11_tellStuff_6 : decode M_X11_tellStuff.2.1 6 = .ok (.aload_n 0, 1) := by decide +kernel
theorem d_X11_tellStuff_7 : decode M_X11_tellStuff.2.1 7 = .ok (.getfield 46, 3) := by decide +kernel
theorem d_X11_tellStuff_10 : decode M_X11_tellStuff.2.1 10 = .ok (.aload_n 0, 1) := by decide +kernel
theorem d_X11_tellStuff_11 : decode M_X11_tellStuff.2.1 11 = .ok (.getfield 251, 3) := by decide +kernel
theorem d_X11_tellStuff_14 : decode M_X11_tellStuff.2.1 14 = .ok (.iaload, 1) := by decide +kernel
theorem d_X11_tellStuff_15 : decode M_X11_tellStuff.2.1 15 = .ok (.iadd, 1) := by decide +kernel
theorem d_X11_tellStuff_16 : decode M_X11_tellStuff.2.1 16 = .ok (.istore_n 1, 1) := by decide +kernel
theorem d_X11_tellStuff_17 : decode M_X11_tellStuff.2.1 17 = .ok (.aload_n 0, 1) := by decide +kernel
theorem d_X11_tellStuff_18 : decode M_X11_tellStuff.2.1 18 = .ok (.invokevirtual 239, 3) := by decide +kernel
theorem d_X11_tellStuff_21 : decode M_X11_tellStuff.2.1 21 = .ok (.aload_n 0, 1) := by decide +kernel
theorem d_X11_tellStuff_22 : decode M_X11_tellStuff.2.1 22 = .ok (.invokevirtual 293, 3) := by decide +kernel
theorem d_X11_tellStuff_25 : decode M_X11_tellStuff.2.1 25 = .ok (.aload_n 0, 1) := by decide +kernel
theorem d_X11_tellStuff_26 : decode M_X11_tellStuff.2.1 26 = .ok (.iconst 5, 1) := by decide +kernel
theorem d_X11_tellStuff_27 : decode M_X11_tellStuff.2.1 27 = .ok (.invokevirtual 286, 3) := by decide +kernel
theorem d_X11_tellStuff_30 : decode M_X11_tellStuff.2.1 30 = .ok (.iconst 0, 1) := by decide +kernel
theorem d_X11_tellStuff_31 : decode M_X11_tellStuff.2.1 31 = .ok (.istore_n 2, 1) := by decide +kernel
theorem d_X11_tellStuff_32 : decode M_X11_tellStuff.2.1 32 = .ok (.iconst 1, 1) := by decide +kernel
theorem d_X11_tellStuff_33 : decode M_X11_tellStuff.2.1 33 = .ok (.istore_n 3, 1) := by decide +kernel
theorem d_X11_tellStuff_34 : decode M_X11_tellStuff.2.1 34 = .ok (.iload_n 3, 1) := by decide +kernel
theorem d_X11_tellStuff_35 : decode M_X11_tellStuff.2.1 35 = .ok (.ifCond .eq 116, 3) := by decide +kernel
theorem d_X11_tellStuff_38 : decode M_X11_tellStuff.2.1 38 = .ok (.aload_n 0, 1) := by decide +kernel
theorem d_X11_tellStuff_39 : decode M_X11_tellStuff.2.1 39 = .ok (.getfield 218, 3) := by decide +kernel
theorem d_X11_tellStuff_42 : decode M_X11_tellStuff.2.1 42 = .ok (.ifCond .ne 109, 3) := by decide +kernel
theorem d_X11_tellStuff_45 : decode M_X11_tellStuff.2.1 45 = .ok (.iload_n 2, 1) := by decide +kernel
theorem d_X11_tellStuff_46 : decode M_X11_tellStuff.2.1 46 = .ok (.iconst 4, 1) := by decide +kernel
theorem d_X11_tellStuff_47 : decode M_X11_tellStuff.2.1 47 = .ok (.if_icmp .ne 16, 3) := by decide +kernel
theorem d_X11_tellStuff_50 : decode M_X11_tellStuff.2.1 50 = .ok (.aload_n 0, 1) := by decide +kernel
theorem d_X11_tellStuff_51 : decode M_X11_tellStuff.2.1 51 = .ok (.iconst 2, 1) := by decide +kernel
theorem d_X11_tellStuff_52 : decode M_X11_tellStuff.2.1 52 = .ok (.invokevirtual 236, 3) := by decide +kernel
theorem d_X11_tellStuff_55 : decode M_X11_tellStuff.2.1 55 = .ok (.ifCond .eq 8, 3) := by decide +kernel
theorem d_X11_tellStuff_58 : decode M_X11_tellStuff.2.1 58 = .ok (.aload_n 0, 1) := by decide +kernel
theorem d_X11_tellStuff_59 : decode M_X11_tellStuff.2.1 59 = .ok (.iconst 2, 1) := by decide +kernel
theorem d_X11_tellStuff_60 : decode M_X11_tellStuff.2.1 60 = .ok (.invokevirtual 233, 3) := by decide +kernel
theorem d_X11_tellStuff_63 : decode M_X11_tellStuff.2.1 63 = .ok (.aload_n 0, 1) := by decide +kernel
theorem d_X11_tellStuff_64 : decode M_X11_tellStuff.2.1 64 = .ok (.sipush 1000, 3) := by decide +kernel
theorem d_X11_tellStuff_67 : decode M_X11_tellStuff.2.1 67 = .ok (.invokevirtual 296, 3) := by decide +kernel
theorem d_X11_tellStuff_70 : decode M_X11_tellStuff.2.1 70 = .ok (.istore 4, 2) := by decide +kernel
theorem d_X11_tellStuff_72 : decode M_X11_tellStuff.2.1 72 = .ok (.aload_n 0, 1) := by decide +kernel
theorem d_X11_tellStuff_73 : decode M_X11_tellStuff.2.1 73 = .ok (.sipush 1000, 3) := by decide +kernel
theorem d_X11_tellStuff_76 : decode M_X11_tellStuff.2.1 76 = .ok (.invokevirtual 296, 3) := by decide +kernel
theorem d_X11_tellStuff_79 : decode M_X11_tellStuff.2.1 79 = .ok (.istore 5, 2) := by decide +kernel
theorem d_X11_tellStuff_81 : decode M_X11_tellStuff.2.1 81 = .ok (.aload_n 0, 1) := by decide +kernel
theorem d_X11_tellStuff_82 : decode M_X11_tellStuff.2.1 82 = .ok (.getfield 218, 3) := by decide +kernel
theorem d_X11_tellStuff_85 : decode M_X11_tellStuff.2.1 85 = .ok (.ifCond .le 4, 3) := by decide +kernel
theorem d_X11_tellStuff_88 : decode M_X11_tellStuff.2.1 88 = .ok (.return_, 1) := by decide +kernel
theorem d_X11_tellStuff_89 : decode M_X11_tellStuff.2.1 89 = .ok (.iload_n 2, 1) := by decide +kernel
theorem d_X11_tellStuff_90 : decode M_X11_tellStuff.2.1 90 = .ok (.istore 6, 2) := by decide +kernel
theorem d_X11_tellStuff_92 : decode M_X11_tellStuff.2.1 92 = .ok (.iload 6, 2) := by decide +kernel
theorem d_X11_tellStuff_94 : decode M_X11_tellStuff.2.1 94 = .ok (.iconst 4, 1) := by decide +kernel
theorem d_X11_tellStuff_95 : decode M_X11_tellStuff.2.1 95 = .ok (.if_icmp .ge 35, 3) := by decide +kernel
theorem d_X11_tellStuff_98 : decode M_X11_tellStuff.2.1 98 = .ok (.aload_n 0, 1) := by decide +kernel
theorem d_X11_tellStuff_99 : decode M_X11_tellStuff.2.1 99 = .ok (.getfield 49, 3) := by decide +kernel
theorem d_X11_tellStuff_102 : decode M_X11_tellStuff.2.1 102 = .ok (.iconst 4, 1) := by decide +kernel
theorem d_X11_tellStuff_103 : decode M_X11_tellStuff.2.1 103 = .ok (.iload_n 1, 1) := by decide +kernel
theorem d_X11_tellStuff_104 : decode M_X11_tellStuff.2.1 104 = .ok (.imul, 1) := by decide +kernel
theorem d_X11_tellStuff_105 : decode M_X11_tellStuff.2.1 105 = .ok (.iload 6, 2) := by decide +kernel
theorem d_X11_tellStuff_107 : decode M_X11_tellStuff.2.1 107 = .ok (.iadd, 1) := by decide +kernel
theorem d_X11_tellStuff_108 : decode M_X11_tellStuff.2.1 108 = .ok (.iload 4, 2) := by decide +kernel
theorem d_X11_tellStuff_110 : decode M_X11_tellStuff.2.1 110 = .ok (.iastore, 1) := by decide +kernel
theorem d_X11_tellStuff_111 : decode M_X11_tellStuff.2.1 111 = .ok (.aload_n 0, 1) := by decide +kernel
theorem d_X11_tellStuff_112 : decode M_X11_tellStuff.2.1 112 = .ok (.getfield 52, 3) := by decide +kernel
theorem d_X11_tellStuff_115 : decode M_X11_tellStuff.2.1 115 = .ok (.iconst 4, 1) := by decide +kernel
theorem d_X11_tellStuff_116 : decode M_X11_tellStuff.2.1 116 = .ok (.iload_n 1, 1) := by decide +kernel
theorem d_X11_tellStuff_117 : decode M_X11_tellStuff.2.1 117 = .ok (.imul, 1) := by decide +kernel
theorem d_X11_tellStuff_118 : decode M_X11_tellStuff.2.1 118 = .ok (.iload 6, 2) := by decide +kernel
theorem d_X11_tellStuff_120 : decode M_X11_tellStuff.2.1 120 = .ok (.iadd, 1) := by decide +kernel
theorem d_X11_tellStuff_121 : decode M_X11_tellStuff.2.1 121 = .ok (.iload 5, 2) := by decide +kernel
theorem d_X11_tellStuff_123 : decode M_X11_tellStuff.2.1 123 = .ok (.iastore, 1) := by decide +kernel
theorem d_X11_tellStuff_124 : decode M_X11_tellStuff.2.1 124 = .ok (.iinc 6 1, 3) := by decide +kernel
theorem d_X11_tellStuff_127 : decode M_X11_tellStuff.2.1 127 = .ok (.goto (-35), 3) := by decide +kernel
theorem d_X11_tellStuff_130 : decode M_X11_tellStuff.2.1 130 = .ok (.iinc 2 1, 3) := by decide +kernel
theorem d_X11_tellStuff_133 : decode M_X11_tellStuff.2.1 133 = .ok (.aload_n 0, 1) := by decide +kernel
theorem d_X11_tellStuff_134 : decode M_X11_tellStuff.2.1 134 = .ok (.bipush 16, 2) := by decide +kernel
theorem d_X11_tellStuff_136 : decode M_X11_tellStuff.2.1 136 = .ok (.invokevirtual 236, 3) := by decide +kernel
theorem d_X11_tellStuff_139 : decode M_X11_tellStuff.2.1 139 = .ok (.istore_n 3, 1) := by decide +kernel
theorem d_X11_tellStuff_140 : decode M_X11_tellStuff.2.1 140 = .ok (.iload_n 3, 1) := by decide +kernel
theorem d_X11_tellStuff_141 : decode M_X11_tellStuff.2.1 141 = .ok (.ifCond .eq 7, 3) := by decide +kernel
theorem d_X11_tellStuff_144 : decode M_X11_tellStuff.2.1 144 = .ok (.aload_n 0, 1) := by decide +kernel
theorem d_X11_tellStuff_145 : decode M_X11_tellStuff.2.1 145 = .ok (.invokevirtual 239, 3) := by decide +kernel
theorem d_X11_tellStuff_148 : decode M_X11_tellStuff.2.1 148 = .ok (.goto (-114), 3) := by decide +kernel
theorem d_X11_tellStuff_151 : decode M_X11_tellStuff.2.1 151 = .ok (.aload_n 0, 1) := by decide +kernel
theorem d_X11_tellStuff_152 : decode M_X11_tellStuff.2.1 152 = .ok (.getfield 55, 3) := by decide +kernel
theorem d_X11_tellStuff_155 : decode M_X11_tellStuff.2.1 155 = .ok (.iload_n 1, 1) := by decide +kernel
theorem d_X11_tellStuff_156 : decode M_X11_tellStuff.2.1 156 = .ok (.sipush 200, 3) := by decide +kernel
theorem d_X11_tellStuff_159 : decode M_X11_tellStuff.2.1 159 = .ok (.iastore, 1) := by decide +kernel
theorem d_X11_tellStuff_160 : decode M_X11_tellStuff.2.1 160 = .ok (.aload_n 0, 1) := by decide +kernel
theorem d_X11_tellStuff_161 : decode M_X11_tellStuff.2.1 161 = .ok (.bipush 25, 2) := by decide +kernel
theorem d_X11_tellStuff_163 : decode M_X11_tellStuff.2.1 163 = .ok (.invokevirtual 236, 3) := by decide +kernel
theorem d_X11_tellStuff_166 : decode M_X11_tellStuff.2.1 166 = .ok (.ifCond .eq 20, 3) := by decide +kernel
theorem d_X11_tellStuff_169 : decode M_X11_tellStuff.2.1 169 = .ok (.aload_n 0, 1) := by decide +kernel
theorem d_X11_tellStuff_170 : decode M_X11_tellStuff.2.1 170 = .ok (.invokevirtual 239, 3) := by decide +kernel
theorem d_X11_tellStuff_173 : decode M_X11_tellStuff.2.1 173 = .ok (.aload_n 0, 1) := by decide +kernel
theorem d_X11_tellStuff_174 : decode M_X11_tellStuff.2.1 174 = .ok (.getfield 55, 3) := by decide +kernel
theorem d_X11_tellStuff_177 : decode M_X11_tellStuff.2.1 177 = .ok (.iload_n 1, 1) := by decide +kernel
theorem d_X11_tellStuff_178 : decode M_X11_tellStuff.2.1 178 = .ok (.aload_n 0, 1) := by decide +kernel
theorem d_X11_tellStuff_179 : decode M_X11_tellStuff.2.1 179 = .ok (.sipush 1000, 3) := by decide +kernel
theorem d_X11_tellStuff_182 : decode M_X11_tellStuff.2.1 182 = .ok (.invokevirtual 296, 3) := by decide +kernel
theorem d_X11_tellStuff_185 : decode M_X11_tellStuff.2.1 185 = .ok (.iastore, 1) := by decide +kernel
theorem d_X11_tellStuff_186 : decode M_X11_tellStuff.2.1 186 = .ok (.aload_n 0, 1) := by decide +kernel
theorem d_X11_tellStuff_187 : decode M_X11_tellStuff.2.1 187 = .ok (.iconst 4, 1) := by decide +kernel
theorem d_X11_tellStuff_188 : decode M_X11_tellStuff.2.1 188 = .ok (.invokevirtual 286, 3) := by decide +kernel
theorem d_X11_tellStuff_191 : decode M_X11_tellStuff.2.1 191 = .ok (.aload_n 0, 1) := by decide +kernel
theorem d_X11_tellStuff_192 : decode M_X11_tellStuff.2.1 192 = .ok (.getfield 218, 3) := by decide +kernel
theorem d_X11_tellStuff_195 : decode M_X11_tellStuff.2.1 195 = .ok (.ifCond .ne 16, 3) := by decide +kernel
theorem d_X11_tellStuff_198 : decode M_X11_tellStuff.2.1 198 = .ok (.aload_n 0, 1) := by decide +kernel
theorem d_X11_tellStuff_199 : decode M_X11_tellStuff.2.1 199 = .ok (.getfield 46, 3) := by decide +kernel
theorem d_X11_tellStuff_202 : decode M_X11_tellStuff.2.1 202 = .ok (.aload_n 0, 1) := by decide +kernel
theorem d_X11_tellStuff_203 : decode M_X11_tellStuff.2.1 203 = .ok (.getfield 251, 3) := by decide +kernel
theorem d_X11_tellStuff_206 : decode M_X11_tellStuff.2.1 206 = .ok (.dup2, 1) := by decide +kernel
theorem d_X11_tellStuff_207 : decode M_X11_tellStuff.2.1 207 = .ok (.iaload, 1) := by decide +kernel
theorem d_X11_tellStuff_208 : decode M_X11_tellStuff.2.1 208 = .ok (.iconst 1, 1) := by decide +kernel
theorem d_X11_tellStuff_209 : decode M_X11_tellStuff.2.1 209 = .ok (.iadd, 1) := by decide +kernel
theorem d_X11_tellStuff_210 : decode M_X11_tellStuff.2.1 210 = .ok (.iastore, 1) := by decide +kernel
theorem d_X11_tellStuff_211 : decode M_X11_tellStuff.2.1 211 = .ok (.return_, 1) := by decide +kernel
theorem ce_X11_tellStuff : zw_CeV M_X11_tellStuff 0 := ⟨⟨⟨by decide +kernel, by decide +kernel, by decide +kernel⟩, (zw_mG (List.mem_of_getElem? (i := 1457) (by decide +kernel)) rfl), (zw_mG (List.mem_of_getElem? (i := 108) (by decide +kernel)) rfl), by decide, by decide +kernel⟩, (zw_mG (List.mem_of_getElem? (i := 1456) (by decide +kernel)) rfl), (zw_mG (List.mem_of_getElem? (i := 57) (by decide +kernel)) rfl)⟩
def s_X11_tellStuff_92 (v0 : Nat) (v1 : Int32) (v2 : Int32) (v4 : Int32) (v5 : Int32) (R : zR) (J : zJ) (s : Int32 × zI) : Option ((Int32 × zI) ⊕ (zI)) :=
  if 4 ≤ s.1 then some (.inr s.2) else zw_g (zw_gc v0 11) (zw_g (zw_gc (R v0 23) 13) (zw_g (zw_in ((4 * v1) + s.1) (zw_SH (R v0 23)).2) (zw_let (zw_u s.2 (R v0 23) (Int32.toNatClampNeg ((4 * v1) + s.1)) v4 : zI) fun I20 => (zw_g (zw_gc (R v0 24) 13) (zw_g (zw_in ((4 * v1) + s.1) (zw_SH (R v0 24)).2) (zw_let (zw_u I20 (R v0 24) (Int32.toNatClampNeg ((4 * v1) + s.1)) v5 : zI) fun I23 => (zw_let (s.1 + 1 : Int32) fun x24 => (some (.inl (x24, I23))))))))))
theorem s_X11_tellStuff_92_ok (X : zw_X) (P : Option Value → aS → Prop) (v0 : Nat) (v1 : Int32) (v2 : Int32) (v4 : Int32) (v5 : Int32) (R : zR) (J : zJ) (s : Int32 × zI) (o : (Int32 × zI) ⊕ (zI)) (hf : s_X11_tellStuff_92 v0 v1 v2 v4 v5 R J s = some o) (hk : (zw_se (fun t => zy_V X M_X11_tellStuff 4 P 92 [.ref v0, .int v1, .int v2, .null, .int v4, .int v5, .int t.1] [] (t.2, R, J)) (fun r => zy_V X M_X11_tellStuff 4 P 130 [.ref v0, .int v1, .int v2, .null, .null, .null, .null] [] (r, R, J)) o)) : zy_V X M_X11_tellStuff 4 P 92 [.ref v0, .int v1, .int v2, .null, .int v4, .int v5, .int s.1] [] (s.2, R, J) := by
  unfold s_X11_tellStuff_92 at hf
  refine zv_iload (pc := 92) d_X11_tellStuff_92 rfl ?_
  refine zv_iconst (pc := 94) d_X11_tellStuff_94 zc_i_4 ?_
  rcases zw_ifE hf with ⟨c16, hf⟩ | ⟨c16, hf⟩
  · refine zv_icmp_ge (pc := 95) (tg := 130) d_X11_tellStuff_95 (by decide) (fun _ => ?_) (fun q => absurd c16 q)
    cases hf
    exact zx_weak (zw_leS (zw_leS (zw_leS (zw_leN (zw_leN (zw_leN (zw_leN zw_leZ))))))) hk
  · refine zv_icmp_ge (pc := 95) (tg := 130) d_X11_tellStuff_95 (by decide) (fun q => absurd q c16) (fun _ => ?_)
    refine zv_aload_n (pc := 98) d_X11_tellStuff_98 rfl ?_
    obtain ⟨g17, hf⟩ := zw_gcE hf (by decide)
    obtain ⟨g18, hf⟩ := zw_gcE hf (by decide)
    refine zx_getR (pc := 99) d_X11_tellStuff_99 lk_CutStonesModel_49 (by decide) g17 g18 ?_
    refine zv_iconst (pc := 102) d_X11_tellStuff_102 zc_i_4 ?_
    refine zv_iload_n (pc := 103) d_X11_tellStuff_103 rfl ?_
    refine zv_imul (pc := 104) d_X11_tellStuff_104 ?_
    refine zv_iload (pc := 105) d_X11_tellStuff_105 rfl ?_
    refine zv_iadd (pc := 107) d_X11_tellStuff_107 ?_
    refine zv_iload (pc := 108) d_X11_tellStuff_108 rfl ?_
    obtain ⟨i19, hf⟩ := zw_inE hf
    obtain ⟨I20, eI20, hf⟩ := zw_letE hf
    refine zx_iast (pc := 110) (I2 := I20) d_X11_tellStuff_110 g18 i19 eI20 ?_
    refine zv_aload_n (pc := 111) d_X11_tellStuff_111 rfl ?_
    obtain ⟨g21, hf⟩ := zw_gcE hf (by decide)
    refine zx_getR (pc := 112) d_X11_tellStuff_112 lk_CutStonesModel_52 (by decide) g17 g21 ?_
    refine zv_iconst (pc := 115) d_X11_tellStuff_115 zc_i_4 ?_
    refine zv_iload_n (pc := 116) d_X11_tellStuff_116 rfl ?_
    refine zv_imul (pc := 117) d_X11_tellStuff_117 ?_
    refine zv_iload (pc := 118) d_X11_tellStuff_118 rfl ?_
    refine zv_iadd (pc := 120) d_X11_tellStuff_120 ?_
    refine zv_iload (pc := 121) d_X11_tellStuff_121 rfl ?_
    obtain ⟨i22, hf⟩ := zw_inE hf
    obtain ⟨I23, eI23, hf⟩ := zw_letE hf
    refine zx_iast (pc := 123) (I2 := I23) d_X11_tellStuff_123 g21 i22 eI23 ?_
    obtain ⟨x24, ex24, hf⟩ := zw_letE hf
    refine zx_iinc (pc := 124) (x2 := x24) (L2 := [.ref v0, .int v1, .int v2, .null, .int v4, .int v5, .int x24]) d_X11_tellStuff_124 (by decide) rfl zc_i_1 ex24 rfl ?_
    refine zv_goto (pc := 127) (tg := 92) d_X11_tellStuff_127 (by decide) ?_
    cases hf
    exact zx_weak (zw_leS (zw_leS (zw_leS (zw_leN (zw_leS (zw_leS (zw_leS zw_leZ))))))) hk
theorem s_X11_tellStuff_92_lp (X : zw_X) (P : Option Value → aS → Prop) (v0 : Nat) (v1 : Int32) (v2 : Int32) (v4 : Int32) (v5 : Int32) (R : zR) (J : zJ) (n : Nat) (s : Int32 × zI) (r : zI) (h : zw_it (s_X11_tellStuff_92 v0 v1 v2 v4 v5 R J) n s = some r) (hq : zy_V X M_X11_tellStuff 4 P 130 [.ref v0, .int v1, .int v2, .null, .null, .null, .null] [] (r, R, J)) : zy_V X M_X11_tellStuff 4 P 92 [.ref v0, .int v1, .int v2, .null, .int v4, .int v5, .int s.1] [] (s.2, R, J) :=
  zw_itE (A := (fun t : Int32 × zI => zy_V X M_X11_tellStuff 4 P 92 [.ref v0, .int v1, .int v2, .null, .int v4, .int v5, .int t.1] [] (t.2, R, J))) (Q := (fun r : zI => zy_V X M_X11_tellStuff 4 P 130 [.ref v0, .int v1, .int v2, .null, .null, .null, .null] [] (r, R, J))) (fun s o h1 h2 => s_X11_tellStuff_92_ok X P v0 v1 v2 v4 v5 R J s o h1 h2) n s r h hq
def j_X11_tellStuff_148_34 (v0 : Nat) (v1 : Int32) (v2 : Int32) (v3 : Int32) (I : zI) (R : zR) (J : zJ) : Option ((Int32 × Int32 × zI) ⊕ ((zI) ⊕ (zI))) :=
  some (.inl (v2, v3, I))
theorem j_X11_tellStuff_148_34_ok (X : zw_X) (P : Option Value → aS → Prop) (v0 : Nat) (v1 : Int32) (v2 : Int32) (v3 : Int32) (I : zI) (R : zR) (J : zJ) (o : (Int32 × Int32 × zI) ⊕ ((zI) ⊕ (zI))) (hf : j_X11_tellStuff_148_34 v0 v1 v2 v3 I R J = some o) (hk : (zw_se (fun t => zy_V X M_X11_tellStuff 4 P 34 [.ref v0, .int v1, .int t.1, .int t.2.1, .null, .null, .null] [] (t.2.2, R, J)) (fun r => (zw_se (fun r0 => zy_V X M_X11_tellStuff 4 P 151 [.ref v0, .int v1, .null, .null, .null, .null, .null] [] (r0, R, J)) (fun t0 => zy_V X M_X11_tellStuff 4 P 88 [.null, .null, .null, .null, .null, .null, .null] [] (t0, R, J)) r)) o)) : zy_V X M_X11_tellStuff 4 P 148 [.ref v0, .int v1, .int v2, .int v3, .null, .null, .null] [] (I, R, J) := by
  unfold j_X11_tellStuff_148_34 at hf
  refine zv_goto (pc := 148) (tg := 34) d_X11_tellStuff_148 (by decide) ?_
  cases hf
  exact zx_weak (zw_leS (zw_leS (zw_leS (zw_leS (zw_leN (zw_leN (zw_leN zw_leZ))))))) hk
def j_X11_tellStuff_63_34 (v0 : Nat) (v1 : Int32) (v2 : Int32) (I : zI) (R : zR) (J : zJ) : Option ((Int32 × Int32 × zI) ⊕ ((zI) ⊕ (zI))) :=
  zw_g (zw_gc v0 11) ((f_X11_number v0 1000 I R).bind fun q13 => ((f_X11_number v0 1000 q13.2 R).bind fun q14 => (if (q14.2 v0 13) ≤ 0 then (zw_it (s_X11_tellStuff_92 v0 v1 v2 q13.1 q14.1 R J) 1000000 (v2, q14.2)).bind fun q25 => (zw_let (v2 + 1 : Int32) fun x26 => ((f_X11_is v0 16 q25 R).bind fun q27 => (if q27 = 0 then j_X11_tellStuff_148_34 v0 v1 x26 q27 q25 R J else (f_X11_goesOn v0 q25 R).bind fun q29 => (j_X11_tellStuff_148_34 v0 v1 x26 q27 q29 R J)))) else some (.inr (.inr q14.2)))))
theorem j_X11_tellStuff_63_34_ok (X : zw_X) (P : Option Value → aS → Prop) (v0 : Nat) (v1 : Int32) (v2 : Int32) (I : zI) (R : zR) (J : zJ) (o : (Int32 × Int32 × zI) ⊕ ((zI) ⊕ (zI))) (hf : j_X11_tellStuff_63_34 v0 v1 v2 I R J = some o) (hk : (zw_se (fun t => zy_V X M_X11_tellStuff 4 P 34 [.ref v0, .int v1, .int t.1, .int t.2.1, .null, .null, .null] [] (t.2.2, R, J)) (fun r => (zw_se (fun r0 => zy_V X M_X11_tellStuff 4 P 151 [.ref v0, .int v1, .null, .null, .null, .null, .null] [] (r0, R, J)) (fun t0 => zy_V X M_X11_tellStuff 4 P 88 [.null, .null, .null, .null, .null, .null, .null] [] (t0, R, J)) r)) o)) : zy_V X M_X11_tellStuff 4 P 63 [.ref v0, .int v1, .int v2, .null, .null, .null, .null] [] (I, R, J) := by
  unfold j_X11_tellStuff_63_34 at hf
  refine zv_aload_n (pc := 63) d_X11_tellStuff_63 rfl ?_
  refine zv_sipush (pc := 64) d_X11_tellStuff_64 zc_s_1000 ?_
  obtain ⟨g12, hf⟩ := zw_gcE hf (by decide)
  obtain ⟨q13, hq13, hf⟩ := zw_bdE hf
  refine zx_callV (pc := 67) (As := [.int 1000]) (o := v0) (st := []) (d2 := 3) (M2 := M_X11_number) (P2 := (fun r S => r = (some (.int q13.1)) ∧ S = (q13.2, R, J))) d_X11_tellStuff_67 (zw_mG (List.mem_of_getElem? (i := 1474) (by decide +kernel)) rfl) ce_X11_number (zw_RvK g12 rfl rfl) (Nat.le_of_ble_eq_true rfl) rfl (Nat.le_of_ble_eq_true rfl) (by decide) (c_X11_number X v0 1000 I R J _ hq13 ⟨rfl, rfl⟩) ?_
  rintro _ _ ⟨rfl, rfl⟩
  show zy_V X M_X11_tellStuff 4 P (67 + 3) [.ref v0, .int v1, .int v2, .null, .null, .null, .null] [.int q13.1] (q13.2, R, J)
  refine zx_istore (pc := 70) (x2 := q13.1) (L2 := [.ref v0, .int v1, .int v2, .null, .int q13.1, .null, .null]) d_X11_tellStuff_70 (by decide) rfl rfl ?_
  refine zv_aload_n (pc := 72) d_X11_tellStuff_72 rfl ?_
  refine zv_sipush (pc := 73) d_X11_tellStuff_73 zc_s_1000 ?_
  obtain ⟨q14, hq14, hf⟩ := zw_bdE hf
  refine zx_callV (pc := 76) (As := [.int 1000]) (o := v0) (st := []) (d2 := 3) (M2 := M_X11_number) (P2 := (fun r S => r = (some (.int q14.1)) ∧ S = (q14.2, R, J))) d_X11_tellStuff_76 (zw_mG (List.mem_of_getElem? (i := 1474) (by decide +kernel)) rfl) ce_X11_number (zw_RvK g12 rfl rfl) (Nat.le_of_ble_eq_true rfl) rfl (Nat.le_of_ble_eq_true rfl) (by decide) (c_X11_number X v0 1000 q13.2 R J _ hq14 ⟨rfl, rfl⟩) ?_
  rintro _ _ ⟨rfl, rfl⟩
  show zy_V X M_X11_tellStuff 4 P (76 + 3) [.ref v0, .int v1, .int v2, .null, .int q13.1, .null, .null] [.int q14.1] (q14.2, R, J)
  refine zx_istore (pc := 79) (x2 := q14.1) (L2 := [.ref v0, .int v1, .int v2, .null, .int q13.1, .int q14.1, .null]) d_X11_tellStuff_79 (by decide) rfl rfl ?_
  refine zv_aload_n (pc := 81) d_X11_tellStuff_81 rfl ?_
  refine zx_getI (pc := 82) d_X11_tellStuff_82 lk_CutStonesModel_218 (by decide) g12 ?_
  rcases zw_ifE hf with ⟨c15, hf⟩ | ⟨c15, hf⟩
  · refine zv_if_le (pc := 85) (tg := 89) d_X11_tellStuff_85 (by decide) (fun _ => ?_) (fun q => absurd c15 q)
    refine zv_iload_n (pc := 89) d_X11_tellStuff_89 rfl ?_
    refine zx_istore (pc := 90) (x2 := v2) (L2 := [.ref v0, .int v1, .int v2, .null, .int q13.1, .int q14.1, .int v2]) d_X11_tellStuff_90 (by decide) rfl rfl ?_
    obtain ⟨q25, hq25, hf⟩ := zw_bdE hf
    refine zx_weak (L' := [.ref v0, .int v1, .int v2, .null, .int q13.1, .int q14.1, .int v2]) (zw_leS (zw_leS (zw_leS (zw_leN (zw_leS (zw_leS (zw_leS zw_leZ))))))) (s_X11_tellStuff_92_lp X P v0 v1 v2 q13.1 q14.1 R J _ _ _ hq25 ?_)
    show zy_V X M_X11_tellStuff 4 P 130 [.ref v0, .int v1, .int v2, .null, .null, .null, .null] [] (q25, R, J)
    obtain ⟨x26, ex26, hf⟩ := zw_letE hf
    refine zx_iinc (pc := 130) (x2 := x26) (L2 := [.ref v0, .int v1, .int x26, .null, .null, .null, .null]) d_X11_tellStuff_130 (by decide) rfl zc_i_1 ex26 rfl ?_
    refine zv_aload_n (pc := 133) d_X11_tellStuff_133 rfl ?_
    refine zv_bipush (pc := 134) d_X11_tellStuff_134 zc_b_16 ?_
    obtain ⟨q27, hq27, hf⟩ := zw_bdE hf
    refine zx_callV (pc := 136) (As := [.int 16]) (o := v0) (st := []) (d2 := 0) (M2 := M_X11_is) (P2 := (fun r S => r = (some (.int q27)) ∧ S = (q25, R, J))) d_X11_tellStuff_136 (zw_mG (List.mem_of_getElem? (i := 1442) (by decide +kernel)) rfl) ce_X11_is (zw_RvK g12 rfl rfl) (Nat.le_of_ble_eq_true rfl) rfl (Nat.le_of_ble_eq_true rfl) (by decide) (c_X11_is X v0 16 q25 R J _ hq27 ⟨rfl, rfl⟩) ?_
    rintro _ _ ⟨rfl, rfl⟩
    show zy_V X M_X11_tellStuff 4 P (136 + 3) [.ref v0, .int v1, .int x26, .null, .null, .null, .null] [.int q27] (q25, R, J)
    refine zx_istore_n (pc := 139) (x2 := q27) (L2 := [.ref v0, .int v1, .int x26, .int q27, .null, .null, .null]) d_X11_tellStuff_139 (by decide) rfl rfl ?_
    refine zv_iload_n (pc := 140) d_X11_tellStuff_140 rfl ?_
    rcases zw_ifE hf with ⟨c28, hf⟩ | ⟨c28, hf⟩
    · refine zv_if_eq (pc := 141) (tg := 148) d_X11_tellStuff_141 (by decide) (fun _ => ?_) (fun q => absurd c28 q)
      exact zx_weak (zw_leS (zw_leS (zw_leS (zw_leS (zw_leN (zw_leN (zw_leN zw_leZ))))))) (j_X11_tellStuff_148_34_ok X P v0 v1 x26 q27 q25 R J _ hf hk)
    · refine zv_if_eq (pc := 141) (tg := 148) d_X11_tellStuff_141 (by decide) (fun q => absurd q c28) (fun _ => ?_)
      refine zv_aload_n (pc := 144) d_X11_tellStuff_144 rfl ?_
      obtain ⟨q29, hq29, hf⟩ := zw_bdE hf
      refine zx_callV (pc := 145) (As := []) (o := v0) (st := []) (d2 := 1) (M2 := M_X11_goesOn) (P2 := (fun r S => r = none ∧ S = (q29, R, J))) d_X11_tellStuff_145 (zw_mG (List.mem_of_getElem? (i := 1458) (by decide +kernel)) rfl) ce_X11_goesOn (zw_RvK g12 rfl rfl) (Nat.le_of_ble_eq_true rfl) rfl (Nat.le_of_ble_eq_true rfl) (by decide) (c_X11_goesOn X v0 q25 R J _ hq29 ⟨rfl, rfl⟩) ?_
      rintro _ _ ⟨rfl, rfl⟩
      show zy_V X M_X11_tellStuff 4 P (145 + 3) [.ref v0, .int v1, .int x26, .int q27, .null, .null, .null] [] (q29, R, J)
      exact zx_weak (zw_leS (zw_leS (zw_leS (zw_leS (zw_leN (zw_leN (zw_leN zw_leZ))))))) (j_X11_tellStuff_148_34_ok X P v0 v1 x26 q27 q29 R J _ hf hk)
  · refine zv_if_le (pc := 85) (tg := 89) d_X11_tellStuff_85 (by decide) (fun q => absurd q c15) (fun _ => ?_)
    cases hf
    exact zx_weak (zw_leN (zw_leN (zw_leN (zw_leN (zw_leN (zw_leN (zw_leN zw_leZ))))))) hk
def s_X11_tellStuff_34 (v0 : Nat) (v1 : Int32) (R : zR) (J : zJ) (s : Int32 × Int32 × zI) : Option ((Int32 × Int32 × zI) ⊕ ((zI) ⊕ (zI))) :=
  if s.2.1 = 0 then some (.inr (.inl s.2.2)) else zw_g (zw_gc v0 11) (if ¬ (s.2.2 v0 13) = 0 then some (.inr (.inl s.2.2)) else if ¬ s.1 = 4 then j_X11_tellStuff_63_34 v0 v1 s.1 s.2.2 R J else (f_X11_is v0 2 s.2.2 R).bind fun q30 => (if q30 = 0 then j_X11_tellStuff_63_34 v0 v1 s.1 s.2.2 R J else (f_X11_fail v0 2 s.2.2 R).bind fun q32 => (j_X11_tellStuff_63_34 v0 v1 s.1 q32 R J)))
theorem s_X11_tellStuff_34_ok (X : zw_X) (P : Option Value → aS → Prop) (v0 : Nat) (v1 : Int32) (R : zR) (J : zJ) (s : Int32 × Int32 × zI) (o : (Int32 × Int32 × zI) ⊕ ((zI) ⊕ (zI))) (hf : s_X11_tellStuff_34 v0 v1 R J s = some o) (hk : (zw_se (fun t => zy_V X M_X11_tellStuff 4 P 34 [.ref v0, .int v1, .int t.1, .int t.2.1, .null, .null, .null] [] (t.2.2, R, J)) (fun r => (zw_se (fun r0 => zy_V X M_X11_tellStuff 4 P 151 [.ref v0, .int v1, .null, .null, .null, .null, .null] [] (r0, R, J)) (fun t0 => zy_V X M_X11_tellStuff 4 P 88 [.null, .null, .null, .null, .null, .null, .null] [] (t0, R, J)) r)) o)) : zy_V X M_X11_tellStuff 4 P 34 [.ref v0, .int v1, .int s.1, .int s.2.1, .null, .null, .null] [] (s.2.2, R, J) := by
  unfold s_X11_tellStuff_34 at hf
  refine zv_iload_n (pc := 34) d_X11_tellStuff_34 rfl ?_
  rcases zw_ifE hf with ⟨c8, hf⟩ | ⟨c8, hf⟩
  · refine zv_if_eq (pc := 35) (tg := 151) d_X11_tellStuff_35 (by decide) (fun _ => ?_) (fun q => absurd c8 q)
    cases hf
    exact zx_weak (zw_leS (zw_leS (zw_leN (zw_leN (zw_leN (zw_leN (zw_leN zw_leZ))))))) hk
  · refine zv_if_eq (pc := 35) (tg := 151) d_X11_tellStuff_35 (by decide) (fun q => absurd q c8) (fun _ => ?_)
    refine zv_aload_n (pc := 38) d_X11_tellStuff_38 rfl ?_
    obtain ⟨g9, hf⟩ := zw_gcE hf (by decide)
    refine zx_getI (pc := 39) d_X11_tellStuff_39 lk_CutStonesModel_218 (by decide) g9 ?_
    rcases zw_ifE hf with ⟨c10, hf⟩ | ⟨c10, hf⟩
    · refine zv_if_ne (pc := 42) (tg := 151) d_X11_tellStuff_42 (by decide) (fun _ => ?_) (fun q => absurd q c10)
      cases hf
      exact zx_weak (zw_leS (zw_leS (zw_leN (zw_leN (zw_leN (zw_leN (zw_leN zw_leZ))))))) hk
    · refine zv_if_ne (pc := 42) (tg := 151) d_X11_tellStuff_42 (by decide) (fun q => absurd q c10) (fun _ => ?_)
      refine zv_iload_n (pc := 45) d_X11_tellStuff_45 rfl ?_
      refine zv_iconst (pc := 46) d_X11_tellStuff_46 zc_i_4 ?_
      rcases zw_ifE hf with ⟨c11, hf⟩ | ⟨c11, hf⟩
      · refine zv_icmp_ne (pc := 47) (tg := 63) d_X11_tellStuff_47 (by decide) (fun _ => ?_) (fun q => absurd q c11)
        exact zx_weak (zw_leS (zw_leS (zw_leS (zw_leN (zw_leN (zw_leN (zw_leN zw_leZ))))))) (j_X11_tellStuff_63_34_ok X P v0 v1 s.1 s.2.2 R J _ hf hk)
      · refine zv_icmp_ne (pc := 47) (tg := 63) d_X11_tellStuff_47 (by decide) (fun q => absurd q c11) (fun _ => ?_)
        refine zv_aload_n (pc := 50) d_X11_tellStuff_50 rfl ?_
        refine zv_iconst (pc := 51) d_X11_tellStuff_51 zc_i_2 ?_
        obtain ⟨q30, hq30, hf⟩ := zw_bdE hf
        refine zx_callV (pc := 52) (As := [.int 2]) (o := v0) (st := []) (d2 := 0) (M2 := M_X11_is) (P2 := (fun r S => r = (some (.int q30)) ∧ S = (s.2.2, R, J))) d_X11_tellStuff_52 (zw_mG (List.mem_of_getElem? (i := 1442) (by decide +kernel)) rfl) ce_X11_is (zw_RvK g9 rfl rfl) (Nat.le_of_ble_eq_true rfl) rfl (Nat.le_of_ble_eq_true rfl) (by decide) (c_X11_is X v0 2 s.2.2 R J _ hq30 ⟨rfl, rfl⟩) ?_
        rintro _ _ ⟨rfl, rfl⟩
        show zy_V X M_X11_tellStuff 4 P (52 + 3) [.ref v0, .int v1, .int s.1, .int s.2.1, .null, .null, .null] [.int q30] (s.2.2, R, J)
        rcases zw_ifE hf with ⟨c31, hf⟩ | ⟨c31, hf⟩
        · refine zv_if_eq (pc := 55) (tg := 63) d_X11_tellStuff_55 (by decide) (fun _ => ?_) (fun q => absurd c31 q)
          exact zx_weak (zw_leS (zw_leS (zw_leS (zw_leN (zw_leN (zw_leN (zw_leN zw_leZ))))))) (j_X11_tellStuff_63_34_ok X P v0 v1 s.1 s.2.2 R J _ hf hk)
        · refine zv_if_eq (pc := 55) (tg := 63) d_X11_tellStuff_55 (by decide) (fun q => absurd q c31) (fun _ => ?_)
          refine zv_aload_n (pc := 58) d_X11_tellStuff_58 rfl ?_
          refine zv_iconst (pc := 59) d_X11_tellStuff_59 zc_i_2 ?_
          obtain ⟨q32, hq32, hf⟩ := zw_bdE hf
          refine zx_callV (pc := 60) (As := [.int 2]) (o := v0) (st := []) (d2 := 0) (M2 := M_X11_fail) (P2 := (fun r S => r = none ∧ S = (q32, R, J))) d_X11_tellStuff_60 (zw_mG (List.mem_of_getElem? (i := 1450) (by decide +kernel)) rfl) ce_X11_fail (zw_RvK g9 rfl rfl) (Nat.le_of_ble_eq_true rfl) rfl (Nat.le_of_ble_eq_true rfl) (by decide) (c_X11_fail X v0 2 s.2.2 R J _ hq32 ⟨rfl, rfl⟩) ?_
          rintro _ _ ⟨rfl, rfl⟩
          show zy_V X M_X11_tellStuff 4 P (60 + 3) [.ref v0, .int v1, .int s.1, .int s.2.1, .null, .null, .null] [] (q32, R, J)
          exact zx_weak (zw_leS (zw_leS (zw_leS (zw_leN (zw_leN (zw_leN (zw_leN zw_leZ))))))) (j_X11_tellStuff_63_34_ok X P v0 v1 s.1 q32 R J _ hf hk)
theorem s_X11_tellStuff_34_lp (X : zw_X) (P : Option Value → aS → Prop) (v0 : Nat) (v1 : Int32) (R : zR) (J : zJ) (n : Nat) (s : Int32 × Int32 × zI) (r : (zI) ⊕ (zI)) (h : zw_it (s_X11_tellStuff_34 v0 v1 R J) n s = some r) (hq : (zw_se (fun r0 => zy_V X M_X11_tellStuff 4 P 151 [.ref v0, .int v1, .null, .null, .null, .null, .null] [] (r0, R, J)) (fun t0 => zy_V X M_X11_tellStuff 4 P 88 [.null, .null, .null, .null, .null, .null, .null] [] (t0, R, J)) r)) : zy_V X M_X11_tellStuff 4 P 34 [.ref v0, .int v1, .int s.1, .int s.2.1, .null, .null, .null] [] (s.2.2, R, J) :=
  zw_itE (A := (fun t : Int32 × Int32 × zI => zy_V X M_X11_tellStuff 4 P 34 [.ref v0, .int v1, .int t.1, .int t.2.1, .null, .null, .null] [] (t.2.2, R, J))) (Q := (fun r : (zI) ⊕ (zI) => (zw_se (fun r0 => zy_V X M_X11_tellStuff 4 P 151 [.ref v0, .int v1, .null, .null, .null, .null, .null] [] (r0, R, J)) (fun t0 => zy_V X M_X11_tellStuff 4 P 88 [.null, .null, .null, .null, .null, .null, .null] [] (t0, R, J)) r))) (fun s o h1 h2 => s_X11_tellStuff_34_ok X P v0 v1 R J s o h1 h2) n s r h hq
def j_X11_tellStuff_186 (v0 : Nat) (I : zI) (R : zR) (J : zJ) : Option (zI × zJ) :=
  zw_g (zw_gc v0 11) ((f_X11_must v0 4 I R).bind fun q43 => (if ¬ (q43 v0 13) = 0 then some (q43, J) else zw_g (zw_gc (R v0 22) 13) (zw_g (zw_in (q43 v0 19) (zw_SH (R v0 22)).2) (zw_g (zw_in (q43 v0 19) (zw_SH (R v0 22)).2) (zw_let (zw_u q43 (R v0 22) (Int32.toNatClampNeg (q43 v0 19)) ((q43 (R v0 22) (Int32.toNatClampNeg (q43 v0 19))) + 1) : zI) fun I48 => (some (I48, J)))))))
theorem j_X11_tellStuff_186_ok (X : zw_X) (P : Option Value → aS → Prop) (v0 : Nat) (I : zI) (R : zR) (J : zJ) (o : zI × zJ) (hf : j_X11_tellStuff_186 v0 I R J = some o) (hk : P none (o.1, R, o.2)) : zy_V X M_X11_tellStuff 4 P 186 [.ref v0, .null, .null, .null, .null, .null, .null] [] (I, R, J) := by
  unfold j_X11_tellStuff_186 at hf
  refine zv_aload_n (pc := 186) d_X11_tellStuff_186 rfl ?_
  refine zv_iconst (pc := 187) d_X11_tellStuff_187 zc_i_4 ?_
  obtain ⟨g42, hf⟩ := zw_gcE hf (by decide)
  obtain ⟨q43, hq43, hf⟩ := zw_bdE hf
  refine zx_callV (pc := 188) (As := [.int 4]) (o := v0) (st := []) (d2 := 2) (M2 := M_X11_must) (P2 := (fun r S => r = none ∧ S = (q43, R, J))) d_X11_tellStuff_188 (zw_mG (List.mem_of_getElem? (i := 1466) (by decide +kernel)) rfl) ce_X11_must (zw_RvK g42 rfl rfl) (Nat.le_of_ble_eq_true rfl) rfl (Nat.le_of_ble_eq_true rfl) (by decide) (c_X11_must X v0 4 I R J _ hq43 ⟨rfl, rfl⟩) ?_
  rintro _ _ ⟨rfl, rfl⟩
  show zy_V X M_X11_tellStuff 4 P (188 + 3) [.ref v0, .null, .null, .null, .null, .null, .null] [] (q43, R, J)
  refine zv_aload_n (pc := 191) d_X11_tellStuff_191 rfl ?_
  refine zx_getI (pc := 192) d_X11_tellStuff_192 lk_CutStonesModel_218 (by decide) g42 ?_
  rcases zw_ifE hf with ⟨c44, hf⟩ | ⟨c44, hf⟩
  · refine zv_if_ne (pc := 195) (tg := 211) d_X11_tellStuff_195 (by decide) (fun _ => ?_) (fun q => absurd q c44)
    cases hf
    exact zx_vret (pc := 211) d_X11_tellStuff_211 rfl hk
  · refine zv_if_ne (pc := 195) (tg := 211) d_X11_tellStuff_195 (by decide) (fun q => absurd q c44) (fun _ => ?_)
    refine zv_aload_n (pc := 198) d_X11_tellStuff_198 rfl ?_
    obtain ⟨g45, hf⟩ := zw_gcE hf (by decide)
    refine zx_getR (pc := 199) d_X11_tellStuff_199 lk_CutStonesModel_46 (by decide) g42 g45 ?_
    refine zv_aload_n (pc := 202) d_X11_tellStuff_202 rfl ?_
    refine zx_getI (pc := 203) d_X11_tellStuff_203 lk_CutStonesModel_251 (by decide) g42 ?_
    refine zv_dup2 (pc := 206) d_X11_tellStuff_206 rfl rfl ?_
    obtain ⟨i46, hf⟩ := zw_inE hf
    refine zx_iald (pc := 207) d_X11_tellStuff_207 g45 i46 ?_
    refine zv_iconst (pc := 208) d_X11_tellStuff_208 zc_i_1 ?_
    refine zv_iadd (pc := 209) d_X11_tellStuff_209 ?_
    obtain ⟨i47, hf⟩ := zw_inE hf
    obtain ⟨I48, eI48, hf⟩ := zw_letE hf
    refine zx_iast (pc := 210) (I2 := I48) d_X11_tellStuff_210 g45 i47 eI48 ?_
    cases hf
    exact zx_vret (pc := 211) d_X11_tellStuff_211 rfl hk
def j_X11_tellStuff_151 (v0 : Nat) (v1 : Int32) (I : zI) (R : zR) (J : zJ) : Option (zI × zJ) :=
  zw_g (zw_gc v0 11) (zw_g (zw_gc (R v0 25) 13) (zw_g (zw_in v1 (zw_SH (R v0 25)).2) (zw_let (zw_u I (R v0 25) (Int32.toNatClampNeg v1) 200 : zI) fun I39 => ((f_X11_is v0 25 I39 R).bind fun q40 => (if q40 = 0 then j_X11_tellStuff_186 v0 I39 R J else (f_X11_goesOn v0 I39 R).bind fun q49 => ((f_X11_number v0 1000 q49 R).bind fun q50 => (zw_g (zw_in v1 (zw_SH (R v0 25)).2) (zw_let (zw_u q50.2 (R v0 25) (Int32.toNatClampNeg v1) q50.1 : zI) fun I52 => (j_X11_tellStuff_186 v0 I52 R J)))))))))
theorem j_X11_tellStuff_151_ok (X : zw_X) (P : Option Value → aS → Prop) (v0 : Nat) (v1 : Int32) (I : zI) (R : zR) (J : zJ) (o : zI × zJ) (hf : j_X11_tellStuff_151 v0 v1 I R J = some o) (hk : P none (o.1, R, o.2)) : zy_V X M_X11_tellStuff 4 P 151 [.ref v0, .int v1, .null, .null, .null, .null, .null] [] (I, R, J) := by
  unfold j_X11_tellStuff_151 at hf
  refine zv_aload_n (pc := 151) d_X11_tellStuff_151 rfl ?_
  obtain ⟨g36, hf⟩ := zw_gcE hf (by decide)
  obtain ⟨g37, hf⟩ := zw_gcE hf (by decide)
  refine zx_getR (pc := 152) d_X11_tellStuff_152 lk_CutStonesModel_55 (by decide) g36 g37 ?_
  refine zv_iload_n (pc := 155) d_X11_tellStuff_155 rfl ?_
  refine zv_sipush (pc := 156) d_X11_tellStuff_156 zc_s_200 ?_
  obtain ⟨i38, hf⟩ := zw_inE hf
  obtain ⟨I39, eI39, hf⟩ := zw_letE hf
  refine zx_iast (pc := 159) (I2 := I39) d_X11_tellStuff_159 g37 i38 eI39 ?_
  refine zv_aload_n (pc := 160) d_X11_tellStuff_160 rfl ?_
  refine zv_bipush (pc := 161) d_X11_tellStuff_161 zc_b_25 ?_
  obtain ⟨q40, hq40, hf⟩ := zw_bdE hf
  refine zx_callV (pc := 163) (As := [.int 25]) (o := v0) (st := []) (d2 := 0) (M2 := M_X11_is) (P2 := (fun r S => r = (some (.int q40)) ∧ S = (I39, R, J))) d_X11_tellStuff_163 (zw_mG (List.mem_of_getElem? (i := 1442) (by decide +kernel)) rfl) ce_X11_is (zw_RvK g36 rfl rfl) (Nat.le_of_ble_eq_true rfl) rfl (Nat.le_of_ble_eq_true rfl) (by decide) (c_X11_is X v0 25 I39 R J _ hq40 ⟨rfl, rfl⟩) ?_
  rintro _ _ ⟨rfl, rfl⟩
  show zy_V X M_X11_tellStuff 4 P (163 + 3) [.ref v0, .int v1, .null, .null, .null, .null, .null] [.int q40] (I39, R, J)
  rcases zw_ifE hf with ⟨c41, hf⟩ | ⟨c41, hf⟩
  · refine zv_if_eq (pc := 166) (tg := 186) d_X11_tellStuff_166 (by decide) (fun _ => ?_) (fun q => absurd c41 q)
    exact zx_weak (zw_leS (zw_leN (zw_leN (zw_leN (zw_leN (zw_leN (zw_leN zw_leZ))))))) (j_X11_tellStuff_186_ok X P v0 I39 R J _ hf hk)
  · refine zv_if_eq (pc := 166) (tg := 186) d_X11_tellStuff_166 (by decide) (fun q => absurd q c41) (fun _ => ?_)
    refine zv_aload_n (pc := 169) d_X11_tellStuff_169 rfl ?_
    obtain ⟨q49, hq49, hf⟩ := zw_bdE hf
    refine zx_callV (pc := 170) (As := []) (o := v0) (st := []) (d2 := 1) (M2 := M_X11_goesOn) (P2 := (fun r S => r = none ∧ S = (q49, R, J))) d_X11_tellStuff_170 (zw_mG (List.mem_of_getElem? (i := 1458) (by decide +kernel)) rfl) ce_X11_goesOn (zw_RvK g36 rfl rfl) (Nat.le_of_ble_eq_true rfl) rfl (Nat.le_of_ble_eq_true rfl) (by decide) (c_X11_goesOn X v0 I39 R J _ hq49 ⟨rfl, rfl⟩) ?_
    rintro _ _ ⟨rfl, rfl⟩
    show zy_V X M_X11_tellStuff 4 P (170 + 3) [.ref v0, .int v1, .null, .null, .null, .null, .null] [] (q49, R, J)
    refine zv_aload_n (pc := 173) d_X11_tellStuff_173 rfl ?_
    refine zx_getR (pc := 174) d_X11_tellStuff_174 lk_CutStonesModel_55 (by decide) g36 g37 ?_
    refine zv_iload_n (pc := 177) d_X11_tellStuff_177 rfl ?_
    refine zv_aload_n (pc := 178) d_X11_tellStuff_178 rfl ?_
    refine zv_sipush (pc := 179) d_X11_tellStuff_179 zc_s_1000 ?_
    obtain ⟨q50, hq50, hf⟩ := zw_bdE hf
    refine zx_callV (pc := 182) (As := [.int 1000]) (o := v0) (st := [.int v1, .ref (R v0 25)]) (d2 := 3) (M2 := M_X11_number) (P2 := (fun r S => r = (some (.int q50.1)) ∧ S = (q50.2, R, J))) d_X11_tellStuff_182 (zw_mG (List.mem_of_getElem? (i := 1474) (by decide +kernel)) rfl) ce_X11_number (zw_RvK g36 rfl rfl) (Nat.le_of_ble_eq_true rfl) rfl (Nat.le_of_ble_eq_true rfl) (by decide) (c_X11_number X v0 1000 q49 R J _ hq50 ⟨rfl, rfl⟩) ?_
    rintro _ _ ⟨rfl, rfl⟩
    show zy_V X M_X11_tellStuff 4 P (182 + 3) [.ref v0, .int v1, .null, .null, .null, .null, .null] [.int q50.1, .int v1, .ref (R v0 25)] (q50.2, R, J)
    obtain ⟨i51, hf⟩ := zw_inE hf
    obtain ⟨I52, eI52, hf⟩ := zw_letE hf
    refine zx_iast (pc := 185) (I2 := I52) d_X11_tellStuff_185 g37 i51 eI52 ?_
    exact zx_weak (zw_leS (zw_leN (zw_leN (zw_leN (zw_leN (zw_leN (zw_leN zw_leZ))))))) (j_X11_tellStuff_186_ok X P v0 I52 R J _ hf hk)
def f_X11_tellStuff (v0 : Nat) (I : zI) (R : zR) (J : zJ) : Option (zI × zJ) :=
  zw_g (zw_gc v0 11) (zw_g (zw_gc (R v0 22) 13) (zw_g (zw_in (I v0 19) (zw_SH (R v0 22)).2) (zw_let (((4 * (I v0 19)) + (I (R v0 22) (Int32.toNatClampNeg (I v0 19)))) : Int32) fun x4 => ((f_X11_goesOn v0 I R).bind fun q5 => ((f_X11_named v0 q5 R J).bind fun q6 => ((f_X11_must v0 5 q6.1 R).bind fun q7 => ((zw_it (s_X11_tellStuff_34 v0 x4 R q6.2) 1000000 (0, 1, q7)).bind fun q33 => (match q33 with | .inl a34 => (j_X11_tellStuff_151 v0 x4 a34 R q6.2) | .inr a35 => (some (a35, q6.2))))))))))
theorem c_X11_tellStuff (X : zw_X) (v0 : Nat) (I : zI) (R : zR) (J : zJ) {P : Option Value → aS → Prop} (o : zI × zJ) (hf : f_X11_tellStuff v0 I R J = some o) (hk : P none (o.1, R, o.2)) : zw_C X M_X11_tellStuff 4 0 0 199 [.ref v0] (I, R, J) P := by
  show zy_V X M_X11_tellStuff 4 P 0 [.ref v0, .null, .null, .null, .null, .null, .null] [] (I, R, J)
  unfold f_X11_tellStuff at hf
  refine zv_iconst (pc := 0) d_X11_tellStuff_0 zc_i_4 ?_
  refine zv_aload_n (pc := 1) d_X11_tellStuff_1 rfl ?_
  obtain ⟨g1, hf⟩ := zw_gcE hf (by decide)
  refine zx_getI (pc := 2) d_X11_tellStuff_2 lk_CutStonesModel_251 (by decide) g1 ?_
  refine zv_imul (pc := 5) d_X11_tellStuff_5 ?_
  refine zv_aload_n (pc := 6) d_X11_tellStuff_6 rfl ?_
  obtain ⟨g2, hf⟩ := zw_gcE hf (by decide)
  refine zx_getR (pc := 7) d_X11_tellStuff_7 lk_CutStonesModel_46 (by decide) g1 g2 ?_
  refine zv_aload_n (pc := 10) d_X11_tellStuff_10 rfl ?_
  refine zx_getI (pc := 11) d_X11_tellStuff_11 lk_CutStonesModel_251 (by decide) g1 ?_
  obtain ⟨i3, hf⟩ := zw_inE hf
  refine zx_iald (pc := 14) d_X11_tellStuff_14 g2 i3 ?_
  refine zv_iadd (pc := 15) d_X11_tellStuff_15 ?_
  obtain ⟨x4, ex4, hf⟩ := zw_letE hf
  refine zx_istore_n (pc := 16) (x2 := x4) (L2 := [.ref v0, .int x4, .null, .null, .null, .null, .null]) d_X11_tellStuff_16 (by decide) ex4 rfl ?_
  refine zv_aload_n (pc := 17) d_X11_tellStuff_17 rfl ?_
  obtain ⟨q5, hq5, hf⟩ := zw_bdE hf
  refine zx_callV (pc := 18) (As := []) (o := v0) (st := []) (d2 := 1) (M2 := M_X11_goesOn) (P2 := (fun r S => r = none ∧ S = (q5, R, J))) d_X11_tellStuff_18 (zw_mG (List.mem_of_getElem? (i := 1458) (by decide +kernel)) rfl) ce_X11_goesOn (zw_RvK g1 rfl rfl) (Nat.le_of_ble_eq_true rfl) rfl (Nat.le_of_ble_eq_true rfl) (by decide) (c_X11_goesOn X v0 I R J _ hq5 ⟨rfl, rfl⟩) ?_
  rintro _ _ ⟨rfl, rfl⟩
  show zy_V X M_X11_tellStuff 4 P (18 + 3) [.ref v0, .int x4, .null, .null, .null, .null, .null] [] (q5, R, J)
  refine zv_aload_n (pc := 21) d_X11_tellStuff_21 rfl ?_
  obtain ⟨q6, hq6, hf⟩ := zw_bdE hf
  refine zx_callV (pc := 22) (As := []) (o := v0) (st := []) (d2 := 3) (M2 := M_X11_named) (P2 := (fun r S => r = none ∧ S = (q6.1, R, q6.2))) d_X11_tellStuff_22 (zw_mG (List.mem_of_getElem? (i := 1462) (by decide +kernel)) rfl) ce_X11_named (zw_RvK g1 rfl rfl) (Nat.le_of_ble_eq_true rfl) rfl (Nat.le_of_ble_eq_true rfl) (by decide) (c_X11_named X v0 q5 R J _ hq6 ⟨rfl, rfl⟩) ?_
  rintro _ _ ⟨rfl, rfl⟩
  show zy_V X M_X11_tellStuff 4 P (22 + 3) [.ref v0, .int x4, .null, .null, .null, .null, .null] [] (q6.1, R, q6.2)
  refine zv_aload_n (pc := 25) d_X11_tellStuff_25 rfl ?_
  refine zv_iconst (pc := 26) d_X11_tellStuff_26 zc_i_5 ?_
  obtain ⟨q7, hq7, hf⟩ := zw_bdE hf
  refine zx_callV (pc := 27) (As := [.int 5]) (o := v0) (st := []) (d2 := 2) (M2 := M_X11_must) (P2 := (fun r S => r = none ∧ S = (q7, R, q6.2))) d_X11_tellStuff_27 (zw_mG (List.mem_of_getElem? (i := 1466) (by decide +kernel)) rfl) ce_X11_must (zw_RvK g1 rfl rfl) (Nat.le_of_ble_eq_true rfl) rfl (Nat.le_of_ble_eq_true rfl) (by decide) (c_X11_must X v0 5 q6.1 R q6.2 _ hq7 ⟨rfl, rfl⟩) ?_
  rintro _ _ ⟨rfl, rfl⟩
  show zy_V X M_X11_tellStuff 4 P (27 + 3) [.ref v0, .int x4, .null, .null, .null, .null, .null] [] (q7, R, q6.2)
  refine zv_iconst (pc := 30) d_X11_tellStuff_30 zc_i_0 ?_
  refine zx_istore_n (pc := 31) (x2 := 0) (L2 := [.ref v0, .int x4, .int 0, .null, .null, .null, .null]) d_X11_tellStuff_31 (by decide) rfl rfl ?_
  refine zv_iconst (pc := 32) d_X11_tellStuff_32 zc_i_1 ?_
  refine zx_istore_n (pc := 33) (x2 := 1) (L2 := [.ref v0, .int x4, .int 0, .int 1, .null, .null, .null]) d_X11_tellStuff_33 (by decide) rfl rfl ?_
  obtain ⟨q33, hq33, hf⟩ := zw_bdE hf
  refine zx_weak (L' := [.ref v0, .int x4, .int 0, .int 1, .null, .null, .null]) (zw_leS (zw_leS (zw_leS (zw_leS (zw_leN (zw_leN (zw_leN zw_leZ))))))) (s_X11_tellStuff_34_lp X P v0 x4 R q6.2 _ _ _ hq33 ?_)
  rcases q33 with a34 | a35
  ·
    show zy_V X M_X11_tellStuff 4 P 151 [.ref v0, .int x4, .null, .null, .null, .null, .null] [] (a34, R, q6.2)
    exact zx_weak (zw_leS (zw_leS (zw_leN (zw_leN (zw_leN (zw_leN (zw_leN zw_leZ))))))) (j_X11_tellStuff_151_ok X P v0 x4 a34 R q6.2 _ hf hk)
  ·
    show zy_V X M_X11_tellStuff 4 P 88 [.null, .null, .null, .null, .null, .null, .null] [] (a35, R, q6.2)
    cases hf
    exact zx_vret (pc := 88) d_X11_tellStuff_88 rfl hk
abbrev M_X1_gradeBy : zw_M := (⟨"CutStones$House", "gradeBy", "(LCutStones$Shine;LCutStones$Reckoner;)I"⟩, prog_3_method_10_code, 4, (Option.some Jvm.ClassFile.FieldType.int))
theorem d_X1_gradeBy_0 : decode M_X1_gradeBy.2.1 0 = .ok (.iconst 0, 1) := by decide +kernel
theorem d_X1_gradeBy_1 : decode M_X1_gradeBy.2.1 1 = .ok (.istore_n 3, 1) := by decide +kernel
theorem d_X1_gradeBy_2 : decode M_X1_gradeBy.2.1 2 = .ok (.iload_n 3, 1) := by decide +kernel
theorem d_X1_gradeBy_3 : decode M_X1_gradeBy.2.1 3 = .ok (.aload_n 0, 1) := by decide +kernel
theorem d_X1_gradeBy_4 : decode M_X1_gradeBy.2.1 4 = .ok (.getfield 42, 3) := by decide +kernel
theorem d_X1_gradeBy_7 : decode M_X1_gradeBy.2.1 7 = .ok (.if_icmp .ge 26, 3) := by decide +kernel
theorem d_X1_gradeBy_10 : decode M_X1_gradeBy.2.1 10 = .ok (.aload_n 2, 1) := by decide +kernel
theorem d_X1_gradeBy_11 : decode M_X1_gradeBy.2.1 11 = .ok (.aload_n 0, 1) := by decide +kernel
theorem d_X1_gradeBy_12 : decode M_X1_gradeBy.2.1 12 = .ok (.aload_n 0, 1) := by decide +kernel
theorem d_X1_gradeBy_13 : decode M_X1_gradeBy.2.1 13 = .ok (.getfield 38, 3) := by decide +kernel
theorem d_X1_gradeBy_16 : decode M_X1_gradeBy.2.1 16 = .ok (.iload_n 3, 1) := by decide +kernel
theorem d_X1_gradeBy_17 : decode M_X1_gradeBy.2.1 17 = .ok (.aaload, 1) := by decide +kernel
theorem d_X1_gradeBy_18 : decode M_X1_gradeBy.2.1 18 = .ok (.aload_n 1, 1) := by decide +kernel
theorem d_X1_gradeBy_19 : decode M_X1_gradeBy.2.1 19 = .ok (.invokevirtual 77, 3) := by decide +kernel
theorem d_X1_gradeBy_22 : decode M_X1_gradeBy.2.1 22 = .ok (.ifCond .eq 5, 3) := by decide +kernel
theorem d_X1_gradeBy_25 : decode M_X1_gradeBy.2.1 25 = .ok (.iload_n 3, 1) := by decide +kernel
theorem d_X1_gradeBy_26 : decode M_X1_gradeBy.2.1 26 = .ok (.ireturn, 1) := by decide +kernel
theorem d_X1_gradeBy_27 : decode M_X1_gradeBy.2.1 27 = .ok (.iinc 3 1, 3) := by decide +kernel
theorem d_X1_gradeBy_30 : decode M_X1_gradeBy.2.1 30 = .ok (.goto (-28), 3) := by decide +kernel
theorem d_X1_gradeBy_33 : decode M_X1_gradeBy.2.1 33 = .ok (.bipush (-2), 2) := by decide +kernel
theorem d_X1_gradeBy_35 : decode M_X1_gradeBy.2.1 35 = .ok (.ireturn, 1) := by decide +kernel
theorem ce_X1_gradeBy : zw_CeV M_X1_gradeBy 2 := ⟨⟨⟨by decide +kernel, by decide +kernel, by decide +kernel⟩, (zw_mG (List.mem_of_getElem? (i := 981) (by decide +kernel)) rfl), (zw_mG (List.mem_of_getElem? (i := 99) (by decide +kernel)) rfl), by decide, by decide +kernel⟩, (zw_mG (List.mem_of_getElem? (i := 979) (by decide +kernel)) rfl), (zw_mG (List.mem_of_getElem? (i := 980) (by decide +kernel)) rfl)⟩
def s_X1_gradeBy_2 (v0 : Nat) (v1 : Nat) (v2 : Nat) (R : zR) (s : Int32 × zI) : Option ((Int32 × zI) ⊕ ((zI) ⊕ (Int32 × zI))) :=
  zw_g (zw_gc v0 1) (if (s.2 v0 7) ≤ s.1 then some (.inr (.inl s.2)) else zw_g (zw_gc (R v0 6) 17) (zw_g (zw_in s.1 (zw_SH (R v0 6)).2) (zw_g (zw_gc (R (R v0 6) (Int32.toNatClampNeg s.1)) 5) (zw_g (zw_gc v2 4) ((f_X4_holds v2 v0 (R (R v0 6) (Int32.toNatClampNeg s.1)) v1 s.2 R).bind fun q7 => (if q7.1 = 0 then zw_let (s.1 + 1 : Int32) fun x9 => (some (.inl (x9, q7.2))) else some (.inr (.inr (s.1, q7.2)))))))))
theorem s_X1_gradeBy_2_ok (X : zw_X) (P : Option Value → aS → Prop) (v0 : Nat) (v1 : Nat) (v2 : Nat) (R : zR) (J : zJ) (s : Int32 × zI) (o : (Int32 × zI) ⊕ ((zI) ⊕ (Int32 × zI))) (hf : s_X1_gradeBy_2 v0 v1 v2 R s = some o) (hk : (zw_se (fun t => zy_V X M_X1_gradeBy 4 P 2 [.ref v0, .ref v1, .ref v2, .int t.1] [] (t.2, R, J)) (fun r => (zw_se (fun r0 => zy_V X M_X1_gradeBy 4 P 33 [.null, .null, .null, .null] [] (r0, R, J)) (fun t0 => zy_V X M_X1_gradeBy 4 P 25 [.null, .null, .null, .int t0.1] [] (t0.2, R, J)) r)) o)) : zy_V X M_X1_gradeBy 4 P 2 [.ref v0, .ref v1, .ref v2, .int s.1] [] (s.2, R, J) := by
  unfold s_X1_gradeBy_2 at hf
  refine zv_iload_n (pc := 2) d_X1_gradeBy_2 rfl ?_
  refine zv_aload_n (pc := 3) d_X1_gradeBy_3 rfl ?_
  obtain ⟨g1, hf⟩ := zw_gcE hf (by decide)
  refine zx_getI (pc := 4) d_X1_gradeBy_4 lk_CutStones_House_42 (by decide) g1 ?_
  rcases zw_ifE hf with ⟨c2, hf⟩ | ⟨c2, hf⟩
  · refine zv_icmp_ge (pc := 7) (tg := 33) d_X1_gradeBy_7 (by decide) (fun _ => ?_) (fun q => absurd c2 q)
    cases hf
    exact zx_weak (zw_leN (zw_leN (zw_leN (zw_leN zw_leZ)))) hk
  · refine zv_icmp_ge (pc := 7) (tg := 33) d_X1_gradeBy_7 (by decide) (fun q => absurd q c2) (fun _ => ?_)
    refine zv_aload_n (pc := 10) d_X1_gradeBy_10 rfl ?_
    refine zv_aload_n (pc := 11) d_X1_gradeBy_11 rfl ?_
    refine zv_aload_n (pc := 12) d_X1_gradeBy_12 rfl ?_
    obtain ⟨g3, hf⟩ := zw_gcE hf (by decide)
    refine zx_getR (pc := 13) d_X1_gradeBy_13 lk_CutStones_House_38 (by decide) g1 g3 ?_
    refine zv_iload_n (pc := 16) d_X1_gradeBy_16 rfl ?_
    obtain ⟨i4, hf⟩ := zw_inE hf
    obtain ⟨g5, hf⟩ := zw_gcE hf (by decide)
    refine zx_aald (pc := 17) d_X1_gradeBy_17 g3 (by decide) i4 g5 ?_
    refine zv_aload_n (pc := 18) d_X1_gradeBy_18 rfl ?_
    obtain ⟨g6, hf⟩ := zw_gcE hf (by decide)
    obtain ⟨q7, hq7, hf⟩ := zw_bdE hf
    refine zx_callV (pc := 19) (As := [.ref v0, .ref (R (R v0 6) (Int32.toNatClampNeg s.1)), .ref v1]) (o := v2) (st := []) (d2 := 3) (M2 := M_X4_holds) (P2 := (fun r S => r = (some (.int q7.1)) ∧ S = (q7.2, R, J))) d_X1_gradeBy_19 (zw_mG (List.mem_of_getElem? (i := 982) (by decide +kernel)) rfl) ce_X4_holds (zw_RvK g6 rfl rfl) (Nat.le_of_ble_eq_true rfl) rfl (Nat.le_of_ble_eq_true rfl) (by decide) (c_X4_holds X v2 v0 (R (R v0 6) (Int32.toNatClampNeg s.1)) v1 s.2 R J _ hq7 ⟨rfl, rfl⟩) ?_
    rintro _ _ ⟨rfl, rfl⟩
    show zy_V X M_X1_gradeBy 4 P (19 + 3) [.ref v0, .ref v1, .ref v2, .int s.1] [.int q7.1] (q7.2, R, J)
    rcases zw_ifE hf with ⟨c8, hf⟩ | ⟨c8, hf⟩
    · refine zv_if_eq (pc := 22) (tg := 27) d_X1_gradeBy_22 (by decide) (fun _ => ?_) (fun q => absurd c8 q)
      obtain ⟨x9, ex9, hf⟩ := zw_letE hf
      refine zx_iinc (pc := 27) (x2 := x9) (L2 := [.ref v0, .ref v1, .ref v2, .int x9]) d_X1_gradeBy_27 (by decide) rfl zc_i_1 ex9 rfl ?_
      refine zv_goto (pc := 30) (tg := 2) d_X1_gradeBy_30 (by decide) ?_
      cases hf
      exact zx_weak (zw_leS (zw_leS (zw_leS (zw_leS zw_leZ)))) hk
    · refine zv_if_eq (pc := 22) (tg := 27) d_X1_gradeBy_22 (by decide) (fun q => absurd q c8) (fun _ => ?_)
      cases hf
      exact zx_weak (zw_leN (zw_leN (zw_leN (zw_leS zw_leZ)))) hk
theorem s_X1_gradeBy_2_lp (X : zw_X) (P : Option Value → aS → Prop) (v0 : Nat) (v1 : Nat) (v2 : Nat) (R : zR) (J : zJ) (n : Nat) (s : Int32 × zI) (r : (zI) ⊕ (Int32 × zI)) (h : zw_it (s_X1_gradeBy_2 v0 v1 v2 R) n s = some r) (hq : (zw_se (fun r0 => zy_V X M_X1_gradeBy 4 P 33 [.null, .null, .null, .null] [] (r0, R, J)) (fun t0 => zy_V X M_X1_gradeBy 4 P 25 [.null, .null, .null, .int t0.1] [] (t0.2, R, J)) r)) : zy_V X M_X1_gradeBy 4 P 2 [.ref v0, .ref v1, .ref v2, .int s.1] [] (s.2, R, J) :=
  zw_itE (A := (fun t : Int32 × zI => zy_V X M_X1_gradeBy 4 P 2 [.ref v0, .ref v1, .ref v2, .int t.1] [] (t.2, R, J))) (Q := (fun r : (zI) ⊕ (Int32 × zI) => (zw_se (fun r0 => zy_V X M_X1_gradeBy 4 P 33 [.null, .null, .null, .null] [] (r0, R, J)) (fun t0 => zy_V X M_X1_gradeBy 4 P 25 [.null, .null, .null, .int t0.1] [] (t0.2, R, J)) r))) (fun s o h1 h2 => s_X1_gradeBy_2_ok X P v0 v1 v2 R J s o h1 h2) n s r h hq
def f_X1_gradeBy (v0 : Nat) (v1 : Nat) (v2 : Nat) (I : zI) (R : zR) : Option (Int32 × zI) :=
  (zw_it (s_X1_gradeBy_2 v0 v1 v2 R) 1000000 (0, I)).bind fun q10 => (match q10 with | .inl a11 => (some ((-2), a11)) | .inr a12 => (some (a12.1, a12.2)))
theorem c_X1_gradeBy (X : zw_X) (v0 : Nat) (v1 : Nat) (v2 : Nat) (I : zI) (R : zR) (J : zJ) {P : Option Value → aS → Prop} (o : Int32 × zI) (hf : f_X1_gradeBy v0 v1 v2 I R = some o) (hk : P (some (.int o.1)) (o.2, R, J)) : zw_C X M_X1_gradeBy 4 0 0 199 [.ref v0, .ref v1, .ref v2] (I, R, J) P := by
  show zy_V X M_X1_gradeBy 4 P 0 [.ref v0, .ref v1, .ref v2, .null] [] (I, R, J)
  unfold f_X1_gradeBy at hf
  refine zv_iconst (pc := 0) d_X1_gradeBy_0 zc_i_0 ?_
  refine zx_istore_n (pc := 1) (x2 := 0) (L2 := [.ref v0, .ref v1, .ref v2, .int 0]) d_X1_gradeBy_1 (by decide) rfl rfl ?_
  obtain ⟨q10, hq10, hf⟩ := zw_bdE hf
  refine zx_weak (L' := [.ref v0, .ref v1, .ref v2, .int 0]) (zw_leS (zw_leS (zw_leS (zw_leS zw_leZ)))) (s_X1_gradeBy_2_lp X P v0 v1 v2 R J _ _ _ hq10 ?_)
  rcases q10 with a11 | a12
  ·
    show zy_V X M_X1_gradeBy 4 P 33 [.null, .null, .null, .null] [] (a11, R, J)
    refine zv_bipush (pc := 33) d_X1_gradeBy_33 zc_b_m2 ?_
    cases hf
    exact zx_iret (pc := 35) d_X1_gradeBy_35 rfl hk
  ·
    show zy_V X M_X1_gradeBy 4 P 25 [.null, .null, .null, .int a12.1] [] (a12.2, R, J)
    refine zv_iload_n (pc := 25) d_X1_gradeBy_25 rfl ?_
    cases hf
    exact zx_iret (pc := 26) d_X1_gradeBy_26 rfl hk
abbrev M_X1_priceBy : zw_M := (⟨"CutStones$House", "priceBy", "(LCutStones$Shine;LCutStones$Reckoner;)I"⟩, prog_3_method_11_code, 5, (Option.some Jvm.ClassFile.FieldType.int))
theorem d_X1_priceBy_0 : decode M_X1_priceBy.2.1 0 = .ok (.iconst 0, 1) := by decide +kernel
theorem d_X1_priceBy_1 : decode M_X1_priceBy.2.1 1 = .ok (.istore_n 3, 1) := by decide +kernel
theorem d_X1_priceBy_2 : decode M_X1_priceBy.2.1 2 = .ok (.iload_n 3, 1) := by decide +kernel
theorem d_X1_priceBy_3 : decode M_X1_priceBy.2.1 3 = .ok (.aload_n 0, 1) := by decide +kernel
theorem d_X1_priceBy_4 : decode M_X1_priceBy.2.1 4 = .ok (.getfield 48, 3) := by decide +kernel
theorem d_X1_priceBy_7 : decode M_X1_priceBy.2.1 7 = .ok (.if_icmp .ge 50, 3) := by decide +kernel
theorem d_X1_priceBy_10 : decode M_X1_priceBy.2.1 10 = .ok (.aload_n 2, 1) := by decide +kernel
theorem d_X1_priceBy_11 : decode M_X1_priceBy.2.1 11 = .ok (.aload_n 0, 1) := by decide +kernel
theorem d_X1_priceBy_12 : decode M_X1_priceBy.2.1 12 = .ok (.aload_n 0, 1) := by decide +kernel
theorem d_X1_priceBy_13 : decode M_X1_priceBy.2.1 13 = .ok (.getfield 45, 3) := by decide +kernel
theorem d_X1_priceBy_16 : decode M_X1_priceBy.2.1 16 = .ok (.iload_n 3, 1) := by decide +kernel
theorem d_X1_priceBy_17 : decode M_X1_priceBy.2.1 17 = .ok (.aaload, 1) := by decide +kernel
theorem d_X1_priceBy_18 : decode M_X1_priceBy.2.1 18 = .ok (.aload_n 1, 1) := by decide +kernel
theorem d_X1_priceBy_19 : decode M_X1_priceBy.2.1 19 = .ok (.invokevirtual 77, 3) := by decide +kernel
theorem d_X1_priceBy_22 : decode M_X1_priceBy.2.1 22 = .ok (.ifCond .eq 29, 3) := by decide +kernel
theorem d_X1_priceBy_25 : decode M_X1_priceBy.2.1 25 = .ok (.aload_n 2, 1) := by decide +kernel
theorem d_X1_priceBy_26 : decode M_X1_priceBy.2.1 26 = .ok (.aload_n 0, 1) := by decide +kernel
theorem d_X1_priceBy_27 : decode M_X1_priceBy.2.1 27 = .ok (.aload_n 0, 1) := by decide +kernel
theorem d_X1_priceBy_28 : decode M_X1_priceBy.2.1 28 = .ok (.getfield 45, 3) := by decide +kernel
theorem d_X1_priceBy_31 : decode M_X1_priceBy.2.1 31 = .ok (.iload_n 3, 1) := by decide +kernel
theorem d_X1_priceBy_32 : decode M_X1_priceBy.2.1 32 = .ok (.aaload, 1) := by decide +kernel
theorem d_X1_priceBy_33 : decode M_X1_priceBy.2.1 33 = .ok (.aload_n 1, 1) := by decide +kernel
theorem d_X1_priceBy_34 : decode M_X1_priceBy.2.1 34 = .ok (.invokevirtual 83, 3) := by decide +kernel
theorem d_X1_priceBy_37 : decode M_X1_priceBy.2.1 37 = .ok (.istore 4, 2) := by decide +kernel
theorem d_X1_priceBy_39 : decode M_X1_priceBy.2.1 39 = .ok (.iconst 0, 1) := by decide +kernel
theorem d_X1_priceBy_40 : decode M_X1_priceBy.2.1 40 = .ok (.iload 4, 2) := by decide +kernel
theorem d_X1_priceBy_42 : decode M_X1_priceBy.2.1 42 = .ok (.ldc 87, 2) := by decide +kernel
theorem d_X1_priceBy_44 : decode M_X1_priceBy.2.1 44 = .ok (.invokestatic 88, 3) := by decide +kernel
theorem d_X1_priceBy_47 : decode M_X1_priceBy.2.1 47 = .ok (.invokestatic 94, 3) := by decide +kernel
theorem d_X1_priceBy_50 : decode M_X1_priceBy.2.1 50 = .ok (.ireturn, 1) := by decide +kernel
theorem d_X1_priceBy_51 : decode M_X1_priceBy.2.1 51 = .ok (.iinc 3 1, 3) := by decide +kernel
theorem d_X1_priceBy_54 : decode M_X1_priceBy.2.1 54 = .ok (.goto (-52), 3) := by decide +kernel
theorem d_X1_priceBy_57 : decode M_X1_priceBy.2.1 57 = .ok (.iconst 0, 1) := by decide +kernel
theorem d_X1_priceBy_58 : decode M_X1_priceBy.2.1 58 = .ok (.ireturn, 1) := by decide +kernel
theorem ce_X1_priceBy : zw_CeV M_X1_priceBy 2 := ⟨⟨⟨by decide +kernel, by decide +kernel, by decide +kernel⟩, (zw_mG (List.mem_of_getElem? (i := 1022) (by decide +kernel)) rfl), (zw_mG (List.mem_of_getElem? (i := 99) (by decide +kernel)) rfl), by decide, by decide +kernel⟩, (zw_mG (List.mem_of_getElem? (i := 1020) (by decide +kernel)) rfl), (zw_mG (List.mem_of_getElem? (i := 1021) (by decide +kernel)) rfl)⟩
def s_X1_priceBy_2 (v0 : Nat) (v1 : Nat) (v2 : Nat) (R : zR) (s : Int32 × zI) : Option ((Int32 × zI) ⊕ ((zI) ⊕ (Int32 × zI))) :=
  zw_g (zw_gc v0 1) (if (s.2 v0 9) ≤ s.1 then some (.inr (.inl s.2)) else zw_g (zw_gc (R v0 8) 17) (zw_g (zw_in s.1 (zw_SH (R v0 8)).2) (zw_g (zw_gc (R (R v0 8) (Int32.toNatClampNeg s.1)) 5) (zw_g (zw_gc v2 4) ((f_X4_holds v2 v0 (R (R v0 8) (Int32.toNatClampNeg s.1)) v1 s.2 R).bind fun q7 => (if q7.1 = 0 then zw_let (s.1 + 1 : Int32) fun x9 => (some (.inl (x9, q7.2))) else some (.inr (.inr (s.1, q7.2)))))))))
theorem s_X1_priceBy_2_ok (X : zw_X) (P : Option Value → aS → Prop) (v0 : Nat) (v1 : Nat) (v2 : Nat) (R : zR) (J : zJ) (s : Int32 × zI) (o : (Int32 × zI) ⊕ ((zI) ⊕ (Int32 × zI))) (hf : s_X1_priceBy_2 v0 v1 v2 R s = some o) (hk : (zw_se (fun t => zy_V X M_X1_priceBy 4 P 2 [.ref v0, .ref v1, .ref v2, .int t.1, .null] [] (t.2, R, J)) (fun r => (zw_se (fun r0 => zy_V X M_X1_priceBy 4 P 57 [.null, .null, .null, .null, .null] [] (r0, R, J)) (fun t0 => zy_V X M_X1_priceBy 4 P 25 [.ref v0, .ref v1, .ref v2, .int t0.1, .null] [] (t0.2, R, J)) r)) o)) : zy_V X M_X1_priceBy 4 P 2 [.ref v0, .ref v1, .ref v2, .int s.1, .null] [] (s.2, R, J) := by
  unfold s_X1_priceBy_2 at hf
  refine zv_iload_n (pc := 2) d_X1_priceBy_2 rfl ?_
  refine zv_aload_n (pc := 3) d_X1_priceBy_3 rfl ?_
  obtain ⟨g1, hf⟩ := zw_gcE hf (by decide)
  refine zx_getI (pc := 4) d_X1_priceBy_4 lk_CutStones_House_48 (by decide) g1 ?_
  rcases zw_ifE hf with ⟨c2, hf⟩ | ⟨c2, hf⟩
  · refine zv_icmp_ge (pc := 7) (tg := 57) d_X1_priceBy_7 (by decide) (fun _ => ?_) (fun q => absurd c2 q)
    cases hf
    exact zx_weak (zw_leN (zw_leN (zw_leN (zw_leN (zw_leN zw_leZ))))) hk
  · refine zv_icmp_ge (pc := 7) (tg := 57) d_X1_priceBy_7 (by decide) (fun q => absurd q c2) (fun _ => ?_)
    refine zv_aload_n (pc := 10) d_X1_priceBy_10 rfl ?_
    refine zv_aload_n (pc := 11) d_X1_priceBy_11 rfl ?_
    refine zv_aload_n (pc := 12) d_X1_priceBy_12 rfl ?_
    obtain ⟨g3, hf⟩ := zw_gcE hf (by decide)
    refine zx_getR (pc := 13) d_X1_priceBy_13 lk_CutStones_House_45 (by decide) g1 g3 ?_
    refine zv_iload_n (pc := 16) d_X1_priceBy_16 rfl ?_
    obtain ⟨i4, hf⟩ := zw_inE hf
    obtain ⟨g5, hf⟩ := zw_gcE hf (by decide)
    refine zx_aald (pc := 17) d_X1_priceBy_17 g3 (by decide) i4 g5 ?_
    refine zv_aload_n (pc := 18) d_X1_priceBy_18 rfl ?_
    obtain ⟨g6, hf⟩ := zw_gcE hf (by decide)
    obtain ⟨q7, hq7, hf⟩ := zw_bdE hf
    refine zx_callV (pc := 19) (As := [.ref v0, .ref (R (R v0 8) (Int32.toNatClampNeg s.1)), .ref v1]) (o := v2) (st := []) (d2 := 3) (M2 := M_X4_holds) (P2 := (fun r S => r = (some (.int q7.1)) ∧ S = (q7.2, R, J))) d_X1_priceBy_19 (zw_mG (List.mem_of_getElem? (i := 982) (by decide +kernel)) rfl) ce_X4_holds (zw_RvK g6 rfl rfl) (Nat.le_of_ble_eq_true rfl) rfl (Nat.le_of_ble_eq_true rfl) (by decide) (c_X4_holds X v2 v0 (R (R v0 8) (Int32.toNatClampNeg s.1)) v1 s.2 R J _ hq7 ⟨rfl, rfl⟩) ?_
    rintro _ _ ⟨rfl, rfl⟩
    show zy_V X M_X1_priceBy 4 P (19 + 3) [.ref v0, .ref v1, .ref v2, .int s.1, .null] [.int q7.1] (q7.2, R, J)
    rcases zw_ifE hf with ⟨c8, hf⟩ | ⟨c8, hf⟩
    · refine zv_if_eq (pc := 22) (tg := 51) d_X1_priceBy_22 (by decide) (fun _ => ?_) (fun q => absurd c8 q)
      obtain ⟨x9, ex9, hf⟩ := zw_letE hf
      refine zx_iinc (pc := 51) (x2 := x9) (L2 := [.ref v0, .ref v1, .ref v2, .int x9, .null]) d_X1_priceBy_51 (by decide) rfl zc_i_1 ex9 rfl ?_
      refine zv_goto (pc := 54) (tg := 2) d_X1_priceBy_54 (by decide) ?_
      cases hf
      exact zx_weak (zw_leS (zw_leS (zw_leS (zw_leS (zw_leN zw_leZ))))) hk
    · refine zv_if_eq (pc := 22) (tg := 51) d_X1_priceBy_22 (by decide) (fun q => absurd q c8) (fun _ => ?_)
      cases hf
      exact zx_weak (zw_leS (zw_leS (zw_leS (zw_leS (zw_leN zw_leZ))))) hk
theorem s_X1_priceBy_2_lp (X : zw_X) (P : Option Value → aS → Prop) (v0 : Nat) (v1 : Nat) (v2 : Nat) (R : zR) (J : zJ) (n : Nat) (s : Int32 × zI) (r : (zI) ⊕ (Int32 × zI)) (h : zw_it (s_X1_priceBy_2 v0 v1 v2 R) n s = some r) (hq : (zw_se (fun r0 => zy_V X M_X1_priceBy 4 P 57 [.null, .null, .null, .null, .null] [] (r0, R, J)) (fun t0 => zy_V X M_X1_priceBy 4 P 25 [.ref v0, .ref v1, .ref v2, .int t0.1, .null] [] (t0.2, R, J)) r)) : zy_V X M_X1_priceBy 4 P 2 [.ref v0, .ref v1, .ref v2, .int s.1, .null] [] (s.2, R, J) :=
  zw_itE (A := (fun t : Int32 × zI => zy_V X M_X1_priceBy 4 P 2 [.ref v0, .ref v1, .ref v2, .int t.1, .null] [] (t.2, R, J))) (Q := (fun r : (zI) ⊕ (Int32 × zI) => (zw_se (fun r0 => zy_V X M_X1_priceBy 4 P 57 [.null, .null, .null, .null, .null] [] (r0, R, J)) (fun t0 => zy_V X M_X1_priceBy 4 P 25 [.ref v0, .ref v1, .ref v2, .int t0.1, .null] [] (t0.2, R, J)) r))) (fun s o h1 h2 => s_X1_priceBy_2_ok X P v0 v1 v2 R J s o h1 h2) n s r h hq
def f_X1_priceBy (v0 : Nat) (v1 : Nat) (v2 : Nat) (I : zI) (R : zR) : Option (Int32 × zI) :=
  (zw_it (s_X1_priceBy_2 v0 v1 v2 R) 1000000 (0, I)).bind fun q10 => (match q10 with | .inl a11 => (some (0, a11)) | .inr a12 => (zw_g (zw_gc v0 1) (zw_g (zw_gc (R v0 8) 17) (zw_g (zw_in a12.1 (zw_SH (R v0 8)).2) (zw_g (zw_gc (R (R v0 8) (Int32.toNatClampNeg a12.1)) 5) (zw_g (zw_gc v2 4) ((f_X4_worth v2 v0 (R (R v0 8) (Int32.toNatClampNeg a12.1)) v1 a12.2 R).bind fun q18 => (zw_let ((if 1000000 < q18.1 then 1000000 else q18.1) : Int32) fun x19 => (zw_let ((if 0 < x19 then x19 else 0) : Int32) fun x20 => (some (x20, q18.2)))))))))))
theorem c_X1_priceBy (X : zw_X) (v0 : Nat) (v1 : Nat) (v2 : Nat) (I : zI) (R : zR) (J : zJ) {P : Option Value → aS → Prop} (o : Int32 × zI) (hf : f_X1_priceBy v0 v1 v2 I R = some o) (hk : P (some (.int o.1)) (o.2, R, J)) : zw_C X M_X1_priceBy 4 0 0 199 [.ref v0, .ref v1, .ref v2] (I, R, J) P := by
  show zy_V X M_X1_priceBy 4 P 0 [.ref v0, .ref v1, .ref v2, .null, .null] [] (I, R, J)
  unfold f_X1_priceBy at hf
  refine zv_iconst (pc := 0) d_X1_priceBy_0 zc_i_0 ?_
  refine zx_istore_n (pc := 1) (x2 := 0) (L2 := [.ref v0, .ref v1, .ref v2, .int 0, .null]) d_X1_priceBy_1 (by decide) rfl rfl ?_
  obtain ⟨q10, hq10, hf⟩ := zw_bdE hf
  refine zx_weak (L' := [.ref v0, .ref v1, .ref v2, .int 0, .null]) (zw_leS (zw_leS (zw_leS (zw_leS (zw_leN zw_leZ))))) (s_X1_priceBy_2_lp X P v0 v1 v2 R J _ _ _ hq10 ?_)
  rcases q10 with a11 | a12
  ·
    show zy_V X M_X1_priceBy 4 P 57 [.null, .null, .null, .null, .null] [] (a11, R, J)
    refine zv_iconst (pc := 57) d_X1_priceBy_57 zc_i_0 ?_
    cases hf
    exact zx_iret (pc := 58) d_X1_priceBy_58 rfl hk
  ·
    show zy_V X M_X1_priceBy 4 P 25 [.ref v0, .ref v1, .ref v2, .int a12.1, .null] [] (a12.2, R, J)
    refine zv_aload_n (pc := 25) d_X1_priceBy_25 rfl ?_
    refine zv_aload_n (pc := 26) d_X1_priceBy_26 rfl ?_
    refine zv_aload_n (pc := 27) d_X1_priceBy_27 rfl ?_
    obtain ⟨g13, hf⟩ := zw_gcE hf (by decide)
    obtain ⟨g14, hf⟩ := zw_gcE hf (by decide)
    refine zx_getR (pc := 28) d_X1_priceBy_28 lk_CutStones_House_45 (by decide) g13 g14 ?_
    refine zv_iload_n (pc := 31) d_X1_priceBy_31 rfl ?_
    obtain ⟨i15, hf⟩ := zw_inE hf
    obtain ⟨g16, hf⟩ := zw_gcE hf (by decide)
    refine zx_aald (pc := 32) d_X1_priceBy_32 g14 (by decide) i15 g16 ?_
    refine zv_aload_n (pc := 33) d_X1_priceBy_33 rfl ?_
    obtain ⟨g17, hf⟩ := zw_gcE hf (by decide)
    obtain ⟨q18, hq18, hf⟩ := zw_bdE hf
    refine zx_callV (pc := 34) (As := [.ref v0, .ref (R (R v0 8) (Int32.toNatClampNeg a12.1)), .ref v1]) (o := v2) (st := []) (d2 := 3) (M2 := M_X4_worth) (P2 := (fun r S => r = (some (.int q18.1)) ∧ S = (q18.2, R, J))) d_X1_priceBy_34 (zw_mG (List.mem_of_getElem? (i := 1023) (by decide +kernel)) rfl) ce_X4_worth (zw_RvK g17 rfl rfl) (Nat.le_of_ble_eq_true rfl) rfl (Nat.le_of_ble_eq_true rfl) (by decide) (c_X4_worth X v2 v0 (R (R v0 8) (Int32.toNatClampNeg a12.1)) v1 a12.2 R J _ hq18 ⟨rfl, rfl⟩) ?_
    rintro _ _ ⟨rfl, rfl⟩
    show zy_V X M_X1_priceBy 4 P (34 + 3) [.ref v0, .ref v1, .ref v2, .int a12.1, .null] [.int q18.1] (q18.2, R, J)
    refine zx_istore (pc := 37) (x2 := q18.1) (L2 := [.ref v0, .ref v1, .ref v2, .int a12.1, .int q18.1]) d_X1_priceBy_37 (by decide) rfl rfl ?_
    refine zv_iconst (pc := 39) d_X1_priceBy_39 zc_i_0 ?_
    refine zv_iload (pc := 40) d_X1_priceBy_40 rfl ?_
    refine zv_ldc (pc := 42) (v := 1000000) d_X1_priceBy_42 (zw_mG (List.mem_of_getElem? (i := 1027) (by decide +kernel)) rfl) ?_
    refine zv_min (pc := 44) d_X1_priceBy_44 (zw_mG (List.mem_of_getElem? (i := 1028) (by decide +kernel)) rfl) (by decide) (Nat.le_of_ble_eq_true rfl) ⟨Nat.le_refl _, Nat.le_refl _⟩ ?_
    obtain ⟨x19, ex19, hf⟩ := zw_letE hf
    rw [← ex19]
    refine zv_max (pc := 47) d_X1_priceBy_47 (zw_mG (List.mem_of_getElem? (i := 1029) (by decide +kernel)) rfl) (by decide) (Nat.le_of_ble_eq_true rfl) ⟨Nat.le_refl _, Nat.le_refl _⟩ ?_
    obtain ⟨x20, ex20, hf⟩ := zw_letE hf
    rw [← ex20]
    cases hf
    exact zx_iret (pc := 50) d_X1_priceBy_50 rfl hk
abbrev M_J0_indexOf_7cf53 : zw_M := (⟨"java/lang/String", "indexOf", "(II)I"⟩, prog_17_method_80_code, 3, (Option.some Jvm.ClassFile.FieldType.int))
theorem d_J0_indexOf_7cf53_0 : decode M_J0_indexOf_7cf53.2.1 0 = .ok (.aload_n 0, 1) := by decide +kernel
theorem d_J0_indexOf_7cf53_1 : decode M_J0_indexOf_7cf53.2.1 1 = .ok (.invokevirtual 492, 3) := by decide +kernel
theorem d_J0_indexOf_7cf53_4 : decode M_J0_indexOf_7cf53.2.1 4 = .ok (.ifCond .eq 19, 3) := by decide +kernel
theorem d_J0_indexOf_7cf53_7 : decode M_J0_indexOf_7cf53.2.1 7 = .ok (.aload_n 0, 1) := by decide +kernel
theorem d_J0_indexOf_7cf53_8 : decode M_J0_indexOf_7cf53.2.1 8 = .ok (.getfield 9, 3) := by decide +kernel
theorem d_J0_indexOf_7cf53_11 : decode M_J0_indexOf_7cf53.2.1 11 = .ok (.iload_n 1, 1) := by decide +kernel
theorem d_J0_indexOf_7cf53_12 : decode M_J0_indexOf_7cf53.2.1 12 = .ok (.iload_n 2, 1) := by decide +kernel
theorem d_J0_indexOf_7cf53_13 : decode M_J0_indexOf_7cf53.2.1 13 = .ok (.aload_n 0, 1) := by decide +kernel
theorem d_J0_indexOf_7cf53_14 : decode M_J0_indexOf_7cf53.2.1 14 = .ok (.invokevirtual 505, 3) := by decide +kernel
theorem d_J0_indexOf_7cf53_17 : decode M_J0_indexOf_7cf53.2.1 17 = .ok (.invokestatic 637, 3) := by decide +kernel
theorem d_J0_indexOf_7cf53_20 : decode M_J0_indexOf_7cf53.2.1 20 = .ok (.goto 16, 3) := by decide +kernel
theorem d_J0_indexOf_7cf53_23 : decode M_J0_indexOf_7cf53.2.1 23 = .ok (.aload_n 0, 1) := by decide +kernel
theorem d_J0_indexOf_7cf53_24 : decode M_J0_indexOf_7cf53.2.1 24 = .ok (.getfield 9, 3) := by decide +kernel
theorem d_J0_indexOf_7cf53_27 : decode M_J0_indexOf_7cf53.2.1 27 = .ok (.iload_n 1, 1) := by decide +kernel
theorem d_J0_indexOf_7cf53_28 : decode M_J0_indexOf_7cf53.2.1 28 = .ok (.iload_n 2, 1) := by decide +kernel
theorem d_J0_indexOf_7cf53_29 : decode M_J0_indexOf_7cf53.2.1 29 = .ok (.aload_n 0, 1) := by decide +kernel
theorem d_J0_indexOf_7cf53_30 : decode M_J0_indexOf_7cf53.2.1 30 = .ok (.invokevirtual 505, 3) := by decide +kernel
theorem d_J0_indexOf_7cf53_33 : decode M_J0_indexOf_7cf53.2.1 33 = .ok (.invokestatic 640, 3) := by decide +kernel
theorem d_J0_indexOf_7cf53_36 : decode M_J0_indexOf_7cf53.2.1 36 = .ok (.ireturn, 1) := by decide +kernel
theorem ce_J0_indexOf_7cf53 : zw_CeV M_J0_indexOf_7cf53 2 := ⟨⟨⟨by decide +kernel, by decide +kernel, by decide +kernel⟩, (zw_mG (List.mem_of_getElem? (i := 636) (by decide +kernel)) rfl), (zw_mG (List.mem_of_getElem? (i := 109) (by decide +kernel)) rfl), by decide, by decide +kernel⟩, (zw_mG (List.mem_of_getElem? (i := 634) (by decide +kernel)) rfl), (zw_mG (List.mem_of_getElem? (i := 635) (by decide +kernel)) rfl)⟩
def f_J0_indexOf_7cf53 (v0 : Nat) (v1 : Int32) (v2 : Int32)  : Option (Int32) :=
  zw_g (decide (v0 < 3)) ((f_J0_isLatin1_aae02 v0).bind fun q2 => (if q2 = 0 then (f_J0_length_8abf5 v0).bind fun q4 => (none) else (f_J0_length_8abf5 v0).bind fun q5 => ((f_J1_indexOf_4cfef v0 v1 v2 q5).bind fun q6 => (some q6))))
theorem c_J0_indexOf_7cf53 (X : zw_X) (v0 : Nat) (v1 : Int32) (v2 : Int32) (I : zI) (R : zR) (J : zJ) {P : Option Value → aS → Prop} (o : Int32) (hf : f_J0_indexOf_7cf53 v0 v1 v2  = some o) (hk : P (some (.int o)) (I, R, J)) : zw_C X M_J0_indexOf_7cf53 5 0 0 199 [.ref (1006 + v0), .int v1, .int v2] (I, R, J) P := by
  show zy_V X M_J0_indexOf_7cf53 5 P 0 [.ref (1006 + v0), .int v1, .int v2] [] (I, R, J)
  unfold f_J0_indexOf_7cf53 at hf
  refine zv_aload_n (pc := 0) d_J0_indexOf_7cf53_0 rfl ?_
  obtain ⟨g1, hf⟩ := zw_gE hf
  have g1 := of_decide_eq_true g1
  obtain ⟨q2, hq2, hf⟩ := zw_bdE hf
  refine zx_callV (pc := 1) (As := []) (o := (1006 + v0)) (st := []) (d2 := 0) (M2 := M_J0_isLatin1_aae02) (P2 := (fun r S => r = (some (.int q2)) ∧ S = (I, R, J))) d_J0_indexOf_7cf53_1 (zw_mG (List.mem_of_getElem? (i := 582) (by decide +kernel)) rfl) ce_J0_isLatin1_aae02 (Or.inr ⟨rfl, v0, g1, rfl⟩) (Nat.le_of_ble_eq_true rfl) rfl (Nat.le_of_ble_eq_true rfl) (by decide) (c_J0_isLatin1_aae02 X v0 I R J _ hq2 ⟨rfl, rfl⟩) ?_
  rintro _ _ ⟨rfl, rfl⟩
  show zy_V X M_J0_indexOf_7cf53 5 P (1 + 3) [.ref (1006 + v0), .int v1, .int v2] [.int q2] (I, R, J)
  rcases zw_ifE hf with ⟨c3, hf⟩ | ⟨c3, hf⟩
  · refine zv_if_eq (pc := 4) (tg := 23) d_J0_indexOf_7cf53_4 (by decide) (fun _ => ?_) (fun q => absurd c3 q)
    refine zv_aload_n (pc := 23) d_J0_indexOf_7cf53_23 rfl ?_
    refine zv_sval (pc := 24) d_J0_indexOf_7cf53_24 g1 (zw_mG (List.mem_of_getElem? (i := 1729) (by decide +kernel)) rfl) ?_
    refine zv_iload_n (pc := 27) d_J0_indexOf_7cf53_27 rfl ?_
    refine zv_iload_n (pc := 28) d_J0_indexOf_7cf53_28 rfl ?_
    refine zv_aload_n (pc := 29) d_J0_indexOf_7cf53_29 rfl ?_
    obtain ⟨q4, hq4, hf⟩ := zw_bdE hf
    refine zx_callV (pc := 30) (As := []) (o := (1006 + v0)) (st := [.int v2, .int v1, .ref (1009 + v0)]) (d2 := 1) (M2 := M_J0_length_8abf5) (P2 := (fun r S => r = (some (.int q4)) ∧ S = (I, R, J))) d_J0_indexOf_7cf53_30 (zw_mG (List.mem_of_getElem? (i := 637) (by decide +kernel)) rfl) ce_J0_length_8abf5 (Or.inr ⟨rfl, v0, g1, rfl⟩) (Nat.le_of_ble_eq_true rfl) rfl (Nat.le_of_ble_eq_true rfl) (by decide) (c_J0_length_8abf5 X v0 I R J _ hq4 ⟨rfl, rfl⟩) ?_
    rintro _ _ ⟨rfl, rfl⟩
    show zy_V X M_J0_indexOf_7cf53 5 P (30 + 3) [.ref (1006 + v0), .int v1, .int v2] [.int q4, .int v2, .int v1, .ref (1009 + v0)] (I, R, J)
    cases hf
  · refine zv_if_eq (pc := 4) (tg := 23) d_J0_indexOf_7cf53_4 (by decide) (fun q => absurd q c3) (fun _ => ?_)
    refine zv_aload_n (pc := 7) d_J0_indexOf_7cf53_7 rfl ?_
    refine zv_sval (pc := 8) d_J0_indexOf_7cf53_8 g1 (zw_mG (List.mem_of_getElem? (i := 1729) (by decide +kernel)) rfl) ?_
    refine zv_iload_n (pc := 11) d_J0_indexOf_7cf53_11 rfl ?_
    refine zv_iload_n (pc := 12) d_J0_indexOf_7cf53_12 rfl ?_
    refine zv_aload_n (pc := 13) d_J0_indexOf_7cf53_13 rfl ?_
    obtain ⟨q5, hq5, hf⟩ := zw_bdE hf
    refine zx_callV (pc := 14) (As := []) (o := (1006 + v0)) (st := [.int v2, .int v1, .ref (1009 + v0)]) (d2 := 1) (M2 := M_J0_length_8abf5) (P2 := (fun r S => r = (some (.int q5)) ∧ S = (I, R, J))) d_J0_indexOf_7cf53_14 (zw_mG (List.mem_of_getElem? (i := 637) (by decide +kernel)) rfl) ce_J0_length_8abf5 (Or.inr ⟨rfl, v0, g1, rfl⟩) (Nat.le_of_ble_eq_true rfl) rfl (Nat.le_of_ble_eq_true rfl) (by decide) (c_J0_length_8abf5 X v0 I R J _ hq5 ⟨rfl, rfl⟩) ?_
    rintro _ _ ⟨rfl, rfl⟩
    show zy_V X M_J0_indexOf_7cf53 5 P (14 + 3) [.ref (1006 + v0), .int v1, .int v2] [.int q5, .int v2, .int v1, .ref (1009 + v0)] (I, R, J)
    obtain ⟨q6, hq6, hf⟩ := zw_bdE hf
    refine zx_callS (pc := 17) (As := [.ref (1009 + v0), .int v1, .int v2, .int q5]) (st := []) (d2 := 1) (M2 := M_J1_indexOf_4cfef) (P2 := (fun r S => r = (some (.int q6)) ∧ S = (I, R, J))) d_J0_indexOf_7cf53_17 (zw_mG (List.mem_of_getElem? (i := 638) (by decide +kernel)) rfl) ce_J1_indexOf_4cfef (Nat.le_of_ble_eq_true rfl) rfl (Nat.le_of_ble_eq_true rfl) (by decide) (c_J1_indexOf_4cfef X v0 v1 v2 q5 I R J _ hq6 ⟨rfl, rfl⟩) ?_
    rintro _ _ ⟨rfl, rfl⟩
    show zy_V X M_J0_indexOf_7cf53 5 P (17 + 3) [.ref (1006 + v0), .int v1, .int v2] [.int q6] (I, R, J)
    refine zv_goto (pc := 20) (tg := 36) d_J0_indexOf_7cf53_20 (by decide) ?_
    cases hf
    exact zx_iret (pc := 36) d_J0_indexOf_7cf53_36 rfl hk
abbrev M_X10_barringTest : zw_M := (⟨"CutStones", "barringTest", "(II)I"⟩, prog_1_method_45_code, 5, (Option.some Jvm.ClassFile.FieldType.int))
theorem d_X10_barringTest_0 : decode M_X10_barringTest.2.1 0 = .ok (.iconst 0, 1) := by decide +kernel
theorem d_X10_barringTest_1 : decode M_X10_barringTest.2.1 1 = .ok (.istore_n 3, 1) := by decide +kernel
theorem d_X10_barringTest_2 : decode M_X10_barringTest.2.1 2 = .ok (.iload_n 3, 1) := by decide +kernel
theorem d_X10_barringTest_3 : decode M_X10_barringTest.2.1 3 = .ok (.iload_n 2, 1) := by decide +kernel
theorem d_X10_barringTest_4 : decode M_X10_barringTest.2.1 4 = .ok (.if_icmp .ge 80, 3) := by decide +kernel
theorem d_X10_barringTest_7 : decode M_X10_barringTest.2.1 7 = .ok (.aload_n 0, 1) := by decide +kernel
theorem d_X10_barringTest_8 : decode M_X10_barringTest.2.1 8 = .ok (.getfield 71, 3) := by decide +kernel
theorem d_X10_barringTest_11 : decode M_X10_barringTest.2.1 11 = .ok (.iload_n 3, 1) := by decide +kernel
theorem d_X10_barringTest_12 : decode M_X10_barringTest.2.1 12 = .ok (.iload_n 2, 1) := by decide +kernel
theorem d_X10_barringTest_13 : decode M_X10_barringTest.2.1 13 = .ok (.invokevirtual 297, 3) := by decide +kernel
theorem d_X10_barringTest_16 : decode M_X10_barringTest.2.1 16 = .ok (.ifCond .eq 62, 3) := by decide +kernel
theorem d_X10_barringTest_19 : decode M_X10_barringTest.2.1 19 = .ok (.aload_n 0, 1) := by decide +kernel
theorem d_X10_barringTest_20 : decode M_X10_barringTest.2.1 20 = .ok (.aload_n 0, 1) := by decide +kernel
theorem d_X10_barringTest_21 : decode M_X10_barringTest.2.1 21 = .ok (.getfield 71, 3) := by decide +kernel
theorem d_X10_barringTest_24 : decode M_X10_barringTest.2.1 24 = .ok (.getfield 300, 3) := by decide +kernel
theorem d_X10_barringTest_27 : decode M_X10_barringTest.2.1 27 = .ok (.iload_n 3, 1) := by decide +kernel
theorem d_X10_barringTest_28 : decode M_X10_barringTest.2.1 28 = .ok (.iaload, 1) := by decide +kernel
theorem d_X10_barringTest_29 : decode M_X10_barringTest.2.1 29 = .ok (.iload_n 1, 1) := by decide +kernel
theorem d_X10_barringTest_30 : decode M_X10_barringTest.2.1 30 = .ok (.aload_n 0, 1) := by decide +kernel
theorem d_X10_barringTest_31 : decode M_X10_barringTest.2.1 31 = .ok (.getfield 71, 3) := by decide +kernel
theorem d_X10_barringTest_34 : decode M_X10_barringTest.2.1 34 = .ok (.getfield 302, 3) := by decide +kernel
theorem d_X10_barringTest_37 : decode M_X10_barringTest.2.1 37 = .ok (.iload_n 3, 1) := by decide +kernel
theorem d_X10_barringTest_38 : decode M_X10_barringTest.2.1 38 = .ok (.iaload, 1) := by decide +kernel
theorem d_X10_barringTest_39 : decode M_X10_barringTest.2.1 39 = .ok (.invokevirtual 244, 3) := by decide +kernel
theorem d_X10_barringTest_42 : decode M_X10_barringTest.2.1 42 = .ok (.istore 4, 2) := by decide +kernel
theorem d_X10_barringTest_44 : decode M_X10_barringTest.2.1 44 = .ok (.aload_n 0, 1) := by decide +kernel
theorem d_X10_barringTest_45 : decode M_X10_barringTest.2.1 45 = .ok (.getfield 71, 3) := by decide +kernel
theorem d_X10_barringTest_48 : decode M_X10_barringTest.2.1 48 = .ok (.getfield 305, 3) := by decide +kernel
theorem d_X10_barringTest_51 : decode M_X10_barringTest.2.1 51 = .ok (.iload_n 3, 1) := by decide +kernel
theorem d_X10_barringTest_52 : decode M_X10_barringTest.2.1 52 = .ok (.iaload, 1) := by decide +kernel
theorem d_X10_barringTest_53 : decode M_X10_barringTest.2.1 53 = .ok (.iload 4, 2) := by decide +kernel
theorem d_X10_barringTest_55 : decode M_X10_barringTest.2.1 55 = .ok (.isub, 1) := by decide +kernel
theorem d_X10_barringTest_56 : decode M_X10_barringTest.2.1 56 = .ok (.invokestatic 308, 3) := by decide +kernel
theorem d_X10_barringTest_59 : decode M_X10_barringTest.2.1 59 = .ok (.aload_n 0, 1) := by decide +kernel
theorem d_X10_barringTest_60 : decode M_X10_barringTest.2.1 60 = .ok (.getfield 71, 3) := by decide +kernel
theorem d_X10_barringTest_63 : decode M_X10_barringTest.2.1 63 = .ok (.getfield 305, 3) := by decide +kernel
theorem d_X10_barringTest_66 : decode M_X10_barringTest.2.1 66 = .ok (.iload_n 3, 1) := by decide +kernel
theorem d_X10_barringTest_67 : decode M_X10_barringTest.2.1 67 = .ok (.iaload, 1) := by decide +kernel
theorem d_X10_barringTest_68 : decode M_X10_barringTest.2.1 68 = .ok (.bipush 20, 2) := by decide +kernel
theorem d_X10_barringTest_70 : decode M_X10_barringTest.2.1 70 = .ok (.idiv, 1) := by decide +kernel
theorem d_X10_barringTest_71 : decode M_X10_barringTest.2.1 71 = .ok (.iconst 5, 1) := by decide +kernel
theorem d_X10_barringTest_72 : decode M_X10_barringTest.2.1 72 = .ok (.iadd, 1) := by decide +kernel
theorem d_X10_barringTest_73 : decode M_X10_barringTest.2.1 73 = .ok (.if_icmp .le 5, 3) := by decide +kernel
theorem d_X10_barringTest_76 : decode M_X10_barringTest.2.1 76 = .ok (.iload_n 3, 1) := by decide +kernel
theorem d_X10_barringTest_77 : decode M_X10_barringTest.2.1 77 = .ok (.ireturn, 1) := by decide +kernel
theorem d_X10_barringTest_78 : decode M_X10_barringTest.2.1 78 = .ok (.iinc 3 1, 3) := by decide +kernel
theorem d_X10_barringTest_81 : decode M_X10_barringTest.2.1 81 = .ok (.goto (-79), 3) := by decide +kernel
theorem d_X10_barringTest_84 : decode M_X10_barringTest.2.1 84 = .ok (.bipush (-2), 2) := by decide +kernel
theorem d_X10_barringTest_86 : decode M_X10_barringTest.2.1 86 = .ok (.ireturn, 1) := by decide +kernel
theorem ce_X10_barringTest : zw_CeV M_X10_barringTest 2 := ⟨⟨⟨by decide +kernel, by decide +kernel, by decide +kernel⟩, (zw_mG (List.mem_of_getElem? (i := 1109) (by decide +kernel)) rfl), (zw_mG (List.mem_of_getElem? (i := 96) (by decide +kernel)) rfl), by decide, by decide +kernel⟩, (zw_mG (List.mem_of_getElem? (i := 1108) (by decide +kernel)) rfl), (zw_mG (List.mem_of_getElem? (i := 45) (by decide +kernel)) rfl)⟩
def j_X10_barringTest_78_2 (v0 : Nat) (v1 : Int32) (v2 : Int32) (v3 : Int32) (I : zI) (R : zR) : Option ((Int32 × zI) ⊕ ((zI) ⊕ (Int32 × zI))) :=
  zw_let (v3 + 1 : Int32) fun x6 => (some (.inl (x6, I)))
theorem j_X10_barringTest_78_2_ok (X : zw_X) (P : Option Value → aS → Prop) (v0 : Nat) (v1 : Int32) (v2 : Int32) (v3 : Int32) (I : zI) (R : zR) (J : zJ) (o : (Int32 × zI) ⊕ ((zI) ⊕ (Int32 × zI))) (hf : j_X10_barringTest_78_2 v0 v1 v2 v3 I R = some o) (hk : (zw_se (fun t => zy_V X M_X10_barringTest 5 P 2 [.ref v0, .int v1, .int v2, .int t.1, .null] [] (t.2, R, J)) (fun r => (zw_se (fun r0 => zy_V X M_X10_barringTest 5 P 84 [.null, .null, .null, .null, .null] [] (r0, R, J)) (fun t0 => zy_V X M_X10_barringTest 5 P 76 [.null, .null, .null, .int t0.1, .null] [] (t0.2, R, J)) r)) o)) : zy_V X M_X10_barringTest 5 P 78 [.ref v0, .int v1, .int v2, .int v3, .null] [] (I, R, J) := by
  unfold j_X10_barringTest_78_2 at hf
  obtain ⟨x6, ex6, hf⟩ := zw_letE hf
  refine zx_iinc (pc := 78) (x2 := x6) (L2 := [.ref v0, .int v1, .int v2, .int x6, .null]) d_X10_barringTest_78 (by decide) rfl zc_i_1 ex6 rfl ?_
  refine zv_goto (pc := 81) (tg := 2) d_X10_barringTest_81 (by decide) ?_
  cases hf
  exact zx_weak (zw_leS (zw_leS (zw_leS (zw_leS (zw_leN zw_leZ))))) hk
def s_X10_barringTest_2 (v0 : Nat) (v1 : Int32) (v2 : Int32) (R : zR) (s : Int32 × zI) : Option ((Int32 × zI) ⊕ ((zI) ⊕ (Int32 × zI))) :=
  if v2 ≤ s.1 then some (.inr (.inl s.2)) else zw_g (zw_gc v0 10) (zw_g (zw_gc (R v0 11) 9) ((f_X9_stands (R v0 11) s.1 v2 s.2 R).bind fun q4 => (if q4 = 0 then j_X10_barringTest_78_2 v0 v1 v2 s.1 s.2 R else zw_g (zw_gc (R (R v0 11) 1) 13) (zw_g (zw_in s.1 (zw_SH (R (R v0 11) 1)).2) (zw_g (zw_gc (R (R v0 11) 2) 13) (zw_g (zw_in s.1 (zw_SH (R (R v0 11) 2)).2) ((f_X10_brightOf v0 (s.2 (R (R v0 11) 1) (Int32.toNatClampNeg s.1)) v1 (s.2 (R (R v0 11) 2) (Int32.toNatClampNeg s.1)) s.2 R).bind fun q11 => (zw_g (zw_gc (R (R v0 11) 3) 13) (zw_g (zw_in s.1 (zw_SH (R (R v0 11) 3)).2) (zw_let ((if 0 ≤ ((q11.2 (R (R v0 11) 3) (Int32.toNatClampNeg s.1)) - q11.1) then ((q11.2 (R (R v0 11) 3) (Int32.toNatClampNeg s.1)) - q11.1) else 0 - ((q11.2 (R (R v0 11) 3) (Int32.toNatClampNeg s.1)) - q11.1)) : Int32) fun x14 => (zw_g (zw_in s.1 (zw_SH (R (R v0 11) 3)).2) (if x14 ≤ (((q11.2 (R (R v0 11) 3) (Int32.toNatClampNeg s.1)) / 20) + 5) then j_X10_barringTest_78_2 v0 v1 v2 s.1 q11.2 R else some (.inr (.inr (s.1, q11.2)))))))))))))))
theorem s_X10_barringTest_2_ok (X : zw_X) (P : Option Value → aS → Prop) (v0 : Nat) (v1 : Int32) (v2 : Int32) (R : zR) (J : zJ) (s : Int32 × zI) (o : (Int32 × zI) ⊕ ((zI) ⊕ (Int32 × zI))) (hf : s_X10_barringTest_2 v0 v1 v2 R s = some o) (hk : (zw_se (fun t => zy_V X M_X10_barringTest 5 P 2 [.ref v0, .int v1, .int v2, .int t.1, .null] [] (t.2, R, J)) (fun r => (zw_se (fun r0 => zy_V X M_X10_barringTest 5 P 84 [.null, .null, .null, .null, .null] [] (r0, R, J)) (fun t0 => zy_V X M_X10_barringTest 5 P 76 [.null, .null, .null, .int t0.1, .null] [] (t0.2, R, J)) r)) o)) : zy_V X M_X10_barringTest 5 P 2 [.ref v0, .int v1, .int v2, .int s.1, .null] [] (s.2, R, J) := by
  unfold s_X10_barringTest_2 at hf
  refine zv_iload_n (pc := 2) d_X10_barringTest_2 rfl ?_
  refine zv_iload_n (pc := 3) d_X10_barringTest_3 rfl ?_
  rcases zw_ifE hf with ⟨c1, hf⟩ | ⟨c1, hf⟩
  · refine zv_icmp_ge (pc := 4) (tg := 84) d_X10_barringTest_4 (by decide) (fun _ => ?_) (fun q => absurd c1 q)
    cases hf
    exact zx_weak (zw_leN (zw_leN (zw_leN (zw_leN (zw_leN zw_leZ))))) hk
  · refine zv_icmp_ge (pc := 4) (tg := 84) d_X10_barringTest_4 (by decide) (fun q => absurd q c1) (fun _ => ?_)
    refine zv_aload_n (pc := 7) d_X10_barringTest_7 rfl ?_
    obtain ⟨g2, hf⟩ := zw_gcE hf (by decide)
    obtain ⟨g3, hf⟩ := zw_gcE hf (by decide)
    refine zx_getR (pc := 8) d_X10_barringTest_8 lk_CutStones_71 (by decide) g2 g3 ?_
    refine zv_iload_n (pc := 11) d_X10_barringTest_11 rfl ?_
    refine zv_iload_n (pc := 12) d_X10_barringTest_12 rfl ?_
    obtain ⟨q4, hq4, hf⟩ := zw_bdE hf
    refine zx_callV (pc := 13) (As := [.int s.1, .int v2]) (o := (R v0 11)) (st := []) (d2 := 0) (M2 := M_X9_stands) (P2 := (fun r S => r = (some (.int q4)) ∧ S = (s.2, R, J))) d_X10_barringTest_13 (zw_mG (List.mem_of_getElem? (i := 1110) (by decide +kernel)) rfl) ce_X9_stands (zw_RvK g3 rfl rfl) (Nat.le_of_ble_eq_true rfl) rfl (Nat.le_of_ble_eq_true rfl) (by decide) (c_X9_stands X (R v0 11) s.1 v2 s.2 R J _ hq4 ⟨rfl, rfl⟩) ?_
    rintro _ _ ⟨rfl, rfl⟩
    show zy_V X M_X10_barringTest 5 P (13 + 3) [.ref v0, .int v1, .int v2, .int s.1, .null] [.int q4] (s.2, R, J)
    rcases zw_ifE hf with ⟨c5, hf⟩ | ⟨c5, hf⟩
    · refine zv_if_eq (pc := 16) (tg := 78) d_X10_barringTest_16 (by decide) (fun _ => ?_) (fun q => absurd c5 q)
      exact zx_weak (zw_leS (zw_leS (zw_leS (zw_leS (zw_leN zw_leZ))))) (j_X10_barringTest_78_2_ok X P v0 v1 v2 s.1 s.2 R J _ hf hk)
    · refine zv_if_eq (pc := 16) (tg := 78) d_X10_barringTest_16 (by decide) (fun q => absurd q c5) (fun _ => ?_)
      refine zv_aload_n (pc := 19) d_X10_barringTest_19 rfl ?_
      refine zv_aload_n (pc := 20) d_X10_barringTest_20 rfl ?_
      refine zx_getR (pc := 21) d_X10_barringTest_21 lk_CutStones_71 (by decide) g2 g3 ?_
      obtain ⟨g7, hf⟩ := zw_gcE hf (by decide)
      refine zx_getR (pc := 24) d_X10_barringTest_24 lk_CutStones_300 (by decide) g3 g7 ?_
      refine zv_iload_n (pc := 27) d_X10_barringTest_27 rfl ?_
      obtain ⟨i8, hf⟩ := zw_inE hf
      refine zx_iald (pc := 28) d_X10_barringTest_28 g7 i8 ?_
      refine zv_iload_n (pc := 29) d_X10_barringTest_29 rfl ?_
      refine zv_aload_n (pc := 30) d_X10_barringTest_30 rfl ?_
      refine zx_getR (pc := 31) d_X10_barringTest_31 lk_CutStones_71 (by decide) g2 g3 ?_
      obtain ⟨g9, hf⟩ := zw_gcE hf (by decide)
      refine zx_getR (pc := 34) d_X10_barringTest_34 lk_CutStones_302 (by decide) g3 g9 ?_
      refine zv_iload_n (pc := 37) d_X10_barringTest_37 rfl ?_
      obtain ⟨i10, hf⟩ := zw_inE hf
      refine zx_iald (pc := 38) d_X10_barringTest_38 g9 i10 ?_
      obtain ⟨q11, hq11, hf⟩ := zw_bdE hf
      refine zx_callV (pc := 39) (As := [.int (s.2 (R (R v0 11) 1) (Int32.toNatClampNeg s.1)), .int v1, .int (s.2 (R (R v0 11) 2) (Int32.toNatClampNeg s.1))]) (o := v0) (st := []) (d2 := 4) (M2 := M_X10_brightOf) (P2 := (fun r S => r = (some (.int q11.1)) ∧ S = (q11.2, R, J))) d_X10_barringTest_39 (zw_mG (List.mem_of_getElem? (i := 1094) (by decide +kernel)) rfl) ce_X10_brightOf (zw_RvK g2 rfl rfl) (Nat.le_of_ble_eq_true rfl) rfl (Nat.le_of_ble_eq_true rfl) (by decide) (c_X10_brightOf X v0 (s.2 (R (R v0 11) 1) (Int32.toNatClampNeg s.1)) v1 (s.2 (R (R v0 11) 2) (Int32.toNatClampNeg s.1)) s.2 R J _ hq11 ⟨rfl, rfl⟩) ?_
      rintro _ _ ⟨rfl, rfl⟩
      show zy_V X M_X10_barringTest 5 P (39 + 3) [.ref v0, .int v1, .int v2, .int s.1, .null] [.int q11.1] (q11.2, R, J)
      refine zx_istore (pc := 42) (x2 := q11.1) (L2 := [.ref v0, .int v1, .int v2, .int s.1, .int q11.1]) d_X10_barringTest_42 (by decide) rfl rfl ?_
      refine zv_aload_n (pc := 44) d_X10_barringTest_44 rfl ?_
      refine zx_getR (pc := 45) d_X10_barringTest_45 lk_CutStones_71 (by decide) g2 g3 ?_
      obtain ⟨g12, hf⟩ := zw_gcE hf (by decide)
      refine zx_getR (pc := 48) d_X10_barringTest_48 lk_CutStones_305 (by decide) g3 g12 ?_
      refine zv_iload_n (pc := 51) d_X10_barringTest_51 rfl ?_
      obtain ⟨i13, hf⟩ := zw_inE hf
      refine zx_iald (pc := 52) d_X10_barringTest_52 g12 i13 ?_
      refine zv_iload (pc := 53) d_X10_barringTest_53 rfl ?_
      refine zv_isub (pc := 55) d_X10_barringTest_55 ?_
      refine zv_abs (pc := 56) d_X10_barringTest_56 (zw_mG (List.mem_of_getElem? (i := 1114) (by decide +kernel)) rfl) (by decide) (Nat.le_of_ble_eq_true rfl) ⟨Nat.le_refl _, Nat.le_refl _⟩ ?_
      obtain ⟨x14, ex14, hf⟩ := zw_letE hf
      rw [← ex14]
      refine zv_aload_n (pc := 59) d_X10_barringTest_59 rfl ?_
      refine zx_getR (pc := 60) d_X10_barringTest_60 lk_CutStones_71 (by decide) g2 g3 ?_
      refine zx_getR (pc := 63) d_X10_barringTest_63 lk_CutStones_305 (by decide) g3 g12 ?_
      refine zv_iload_n (pc := 66) d_X10_barringTest_66 rfl ?_
      obtain ⟨i15, hf⟩ := zw_inE hf
      refine zx_iald (pc := 67) d_X10_barringTest_67 g12 i15 ?_
      refine zv_bipush (pc := 68) d_X10_barringTest_68 zc_b_20 ?_
      refine zv_idiv (pc := 70) d_X10_barringTest_70 (by decide +kernel) ?_
      refine zv_iconst (pc := 71) d_X10_barringTest_71 zc_i_5 ?_
      refine zv_iadd (pc := 72) d_X10_barringTest_72 ?_
      rcases zw_ifE hf with ⟨c16, hf⟩ | ⟨c16, hf⟩
      · refine zv_icmp_le (pc := 73) (tg := 78) d_X10_barringTest_73 (by decide) (fun _ => ?_) (fun q => absurd c16 q)
        exact zx_weak (zw_leS (zw_leS (zw_leS (zw_leS (zw_leN zw_leZ))))) (j_X10_barringTest_78_2_ok X P v0 v1 v2 s.1 q11.2 R J _ hf hk)
      · refine zv_icmp_le (pc := 73) (tg := 78) d_X10_barringTest_73 (by decide) (fun q => absurd q c16) (fun _ => ?_)
        cases hf
        exact zx_weak (zw_leN (zw_leN (zw_leN (zw_leS (zw_leN zw_leZ))))) hk
theorem s_X10_barringTest_2_lp (X : zw_X) (P : Option Value → aS → Prop) (v0 : Nat) (v1 : Int32) (v2 : Int32) (R : zR) (J : zJ) (n : Nat) (s : Int32 × zI) (r : (zI) ⊕ (Int32 × zI)) (h : zw_it (s_X10_barringTest_2 v0 v1 v2 R) n s = some r) (hq : (zw_se (fun r0 => zy_V X M_X10_barringTest 5 P 84 [.null, .null, .null, .null, .null] [] (r0, R, J)) (fun t0 => zy_V X M_X10_barringTest 5 P 76 [.null, .null, .null, .int t0.1, .null] [] (t0.2, R, J)) r)) : zy_V X M_X10_barringTest 5 P 2 [.ref v0, .int v1, .int v2, .int s.1, .null] [] (s.2, R, J) :=
  zw_itE (A := (fun t : Int32 × zI => zy_V X M_X10_barringTest 5 P 2 [.ref v0, .int v1, .int v2, .int t.1, .null] [] (t.2, R, J))) (Q := (fun r : (zI) ⊕ (Int32 × zI) => (zw_se (fun r0 => zy_V X M_X10_barringTest 5 P 84 [.null, .null, .null, .null, .null] [] (r0, R, J)) (fun t0 => zy_V X M_X10_barringTest 5 P 76 [.null, .null, .null, .int t0.1, .null] [] (t0.2, R, J)) r))) (fun s o h1 h2 => s_X10_barringTest_2_ok X P v0 v1 v2 R J s o h1 h2) n s r h hq
def f_X10_barringTest (v0 : Nat) (v1 : Int32) (v2 : Int32) (I : zI) (R : zR) : Option (Int32 × zI) :=
  (zw_it (s_X10_barringTest_2 v0 v1 v2 R) 1000000 (0, I)).bind fun q17 => (match q17 with | .inl a18 => (some ((-2), a18)) | .inr a19 => (some (a19.1, a19.2)))
theorem c_X10_barringTest (X : zw_X) (v0 : Nat) (v1 : Int32) (v2 : Int32) (I : zI) (R : zR) (J : zJ) {P : Option Value → aS → Prop} (o : Int32 × zI) (hf : f_X10_barringTest v0 v1 v2 I R = some o) (hk : P (some (.int o.1)) (o.2, R, J)) : zw_C X M_X10_barringTest 5 0 0 199 [.ref v0, .int v1, .int v2] (I, R, J) P := by
  show zy_V X M_X10_barringTest 5 P 0 [.ref v0, .int v1, .int v2, .null, .null] [] (I, R, J)
  unfold f_X10_barringTest at hf
  refine zv_iconst (pc := 0) d_X10_barringTest_0 zc_i_0 ?_
  refine zx_istore_n (pc := 1) (x2 := 0) (L2 := [.ref v0, .int v1, .int v2, .int 0, .null]) d_X10_barringTest_1 (by decide) rfl rfl ?_
  obtain ⟨q17, hq17, hf⟩ := zw_bdE hf
  refine zx_weak (L' := [.ref v0, .int v1, .int v2, .int 0, .null]) (zw_leS (zw_leS (zw_leS (zw_leS (zw_leN zw_leZ))))) (s_X10_barringTest_2_lp X P v0 v1 v2 R J _ _ _ hq17 ?_)
  rcases q17 with a18 | a19
  ·
    show zy_V X M_X10_barringTest 5 P 84 [.null, .null, .null, .null, .null] [] (a18, R, J)
    refine zv_bipush (pc := 84) d_X10_barringTest_84 zc_b_m2 ?_
    cases hf
    exact zx_iret (pc := 86) d_X10_barringTest_86 rfl hk
  ·
    show zy_V X M_X10_barringTest 5 P 76 [.null, .null, .null, .int a19.1, .null] [] (a19.2, R, J)
    refine zv_iload_n (pc := 76) d_X10_barringTest_76 rfl ?_
    cases hf
    exact zx_iret (pc := 77) d_X10_barringTest_77 rfl hk
abbrev M_X10_bright : zw_M := (⟨"CutStones", "bright", "(III)I"⟩, prog_1_method_24_code, 4, (Option.some Jvm.ClassFile.FieldType.int))
theorem d_X10_bright_0 : decode M_X10_bright.2.1 0 = .ok (.aload_n 0, 1) := by decide +kernel
theorem d_X10_bright_1 : decode M_X10_bright.2.1 1 = .ok (.iload_n 1, 1) := by decide +kernel
theorem d_X10_bright_2 : decode M_X10_bright.2.1 2 = .ok (.invokevirtual 137, 3) := by decide +kernel
theorem d_X10_bright_5 : decode M_X10_bright.2.1 5 = .ok (.ifCond .eq 28, 3) := by decide +kernel
theorem d_X10_bright_8 : decode M_X10_bright.2.1 8 = .ok (.aload_n 0, 1) := by decide +kernel
theorem d_X10_bright_9 : decode M_X10_bright.2.1 9 = .ok (.iload_n 2, 1) := by decide +kernel
theorem d_X10_bright_10 : decode M_X10_bright.2.1 10 = .ok (.invokevirtual 149, 3) := by decide +kernel
theorem d_X10_bright_13 : decode M_X10_bright.2.1 13 = .ok (.ifCond .eq 20, 3) := by decide +kernel
theorem d_X10_bright_16 : decode M_X10_bright.2.1 16 = .ok (.iload_n 3, 1) := by decide +kernel
theorem d_X10_bright_17 : decode M_X10_bright.2.1 17 = .ok (.invokestatic 152, 3) := by decide +kernel
theorem d_X10_bright_20 : decode M_X10_bright.2.1 20 = .ok (.ifCond .eq 13, 3) := by decide +kernel
theorem d_X10_bright_23 : decode M_X10_bright.2.1 23 = .ok (.aload_n 0, 1) := by decide +kernel
theorem d_X10_bright_24 : decode M_X10_bright.2.1 24 = .ok (.iload_n 1, 1) := by decide +kernel
theorem d_X10_bright_25 : decode M_X10_bright.2.1 25 = .ok (.iload_n 2, 1) := by decide +kernel
theorem d_X10_bright_26 : decode M_X10_bright.2.1 26 = .ok (.iload_n 3, 1) := by decide +kernel
theorem d_X10_bright_27 : decode M_X10_bright.2.1 27 = .ok (.invokevirtual 244, 3) := by decide +kernel
theorem d_X10_bright_30 : decode M_X10_bright.2.1 30 = .ok (.goto 4, 3) := by decide +kernel
theorem d_X10_bright_33 : decode M_X10_bright.2.1 33 = .ok (.iconst (-1), 1) := by decide +kernel
theorem d_X10_bright_34 : decode M_X10_bright.2.1 34 = .ok (.ireturn, 1) := by decide +kernel
theorem ce_X10_bright : zw_CeV M_X10_bright 3 := ⟨⟨⟨by decide +kernel, by decide +kernel, by decide +kernel⟩, (zw_mG (List.mem_of_getElem? (i := 1093) (by decide +kernel)) rfl), (zw_mG (List.mem_of_getElem? (i := 96) (by decide +kernel)) rfl), by decide, by decide +kernel⟩, (zw_mG (List.mem_of_getElem? (i := 1091) (by decide +kernel)) rfl), (zw_mG (List.mem_of_getElem? (i := 1092) (by decide +kernel)) rfl)⟩
def f_X10_bright (v0 : Nat) (v1 : Int32) (v2 : Int32) (v3 : Int32) (I : zI) (R : zR) : Option (Int32 × zI) :=
  zw_g (zw_gc v0 10) ((f_X10_isCut v0 v1 I R).bind fun q2 => (if q2 = 0 then some ((-1), I) else (f_X10_isStuff v0 v2 I R).bind fun q4 => (if q4 = 0 then some ((-1), I) else (f_X10_isColour v3).bind fun q6 => (if q6 = 0 then some ((-1), I) else (f_X10_brightOf v0 v1 v2 v3 I R).bind fun q8 => (some (q8.1, q8.2))))))
theorem c_X10_bright (X : zw_X) (v0 : Nat) (v1 : Int32) (v2 : Int32) (v3 : Int32) (I : zI) (R : zR) (J : zJ) {P : Option Value → aS → Prop} (o : Int32 × zI) (hf : f_X10_bright v0 v1 v2 v3 I R = some o) (hk : P (some (.int o.1)) (o.2, R, J)) : zw_C X M_X10_bright 5 0 0 199 [.ref v0, .int v1, .int v2, .int v3] (I, R, J) P := by
  show zy_V X M_X10_bright 5 P 0 [.ref v0, .int v1, .int v2, .int v3] [] (I, R, J)
  unfold f_X10_bright at hf
  refine zv_aload_n (pc := 0) d_X10_bright_0 rfl ?_
  refine zv_iload_n (pc := 1) d_X10_bright_1 rfl ?_
  obtain ⟨g1, hf⟩ := zw_gcE hf (by decide)
  obtain ⟨q2, hq2, hf⟩ := zw_bdE hf
  refine zx_callV (pc := 2) (As := [.int v1]) (o := v0) (st := []) (d2 := 0) (M2 := M_X10_isCut) (P2 := (fun r S => r = (some (.int q2)) ∧ S = (I, R, J))) d_X10_bright_2 (zw_mG (List.mem_of_getElem? (i := 849) (by decide +kernel)) rfl) ce_X10_isCut (zw_RvK g1 rfl rfl) (Nat.le_of_ble_eq_true rfl) rfl (Nat.le_of_ble_eq_true rfl) (by decide) (c_X10_isCut X v0 v1 I R J _ hq2 ⟨rfl, rfl⟩) ?_
  rintro _ _ ⟨rfl, rfl⟩
  show zy_V X M_X10_bright 5 P (2 + 3) [.ref v0, .int v1, .int v2, .int v3] [.int q2] (I, R, J)
  rcases zw_ifE hf with ⟨c3, hf⟩ | ⟨c3, hf⟩
  · refine zv_if_eq (pc := 5) (tg := 33) d_X10_bright_5 (by decide) (fun _ => ?_) (fun q => absurd c3 q)
    refine zv_iconst (pc := 33) d_X10_bright_33 zc_i_m1 ?_
    cases hf
    exact zx_iret (pc := 34) d_X10_bright_34 rfl hk
  · refine zv_if_eq (pc := 5) (tg := 33) d_X10_bright_5 (by decide) (fun q => absurd q c3) (fun _ => ?_)
    refine zv_aload_n (pc := 8) d_X10_bright_8 rfl ?_
    refine zv_iload_n (pc := 9) d_X10_bright_9 rfl ?_
    obtain ⟨q4, hq4, hf⟩ := zw_bdE hf
    refine zx_callV (pc := 10) (As := [.int v2]) (o := v0) (st := []) (d2 := 0) (M2 := M_X10_isStuff) (P2 := (fun r S => r = (some (.int q4)) ∧ S = (I, R, J))) d_X10_bright_10 (zw_mG (List.mem_of_getElem? (i := 880) (by decide +kernel)) rfl) ce_X10_isStuff (zw_RvK g1 rfl rfl) (Nat.le_of_ble_eq_true rfl) rfl (Nat.le_of_ble_eq_true rfl) (by decide) (c_X10_isStuff X v0 v2 I R J _ hq4 ⟨rfl, rfl⟩) ?_
    rintro _ _ ⟨rfl, rfl⟩
    show zy_V X M_X10_bright 5 P (10 + 3) [.ref v0, .int v1, .int v2, .int v3] [.int q4] (I, R, J)
    rcases zw_ifE hf with ⟨c5, hf⟩ | ⟨c5, hf⟩
    · refine zv_if_eq (pc := 13) (tg := 33) d_X10_bright_13 (by decide) (fun _ => ?_) (fun q => absurd c5 q)
      refine zv_iconst (pc := 33) d_X10_bright_33 zc_i_m1 ?_
      cases hf
      exact zx_iret (pc := 34) d_X10_bright_34 rfl hk
    · refine zv_if_eq (pc := 13) (tg := 33) d_X10_bright_13 (by decide) (fun q => absurd q c5) (fun _ => ?_)
      refine zv_iload_n (pc := 16) d_X10_bright_16 rfl ?_
      obtain ⟨q6, hq6, hf⟩ := zw_bdE hf
      refine zx_callS (pc := 17) (As := [.int v3]) (st := []) (d2 := 0) (M2 := M_X10_isColour) (P2 := (fun r S => r = (some (.int q6)) ∧ S = (I, R, J))) d_X10_bright_17 (zw_mG (List.mem_of_getElem? (i := 884) (by decide +kernel)) rfl) ce_X10_isColour (Nat.le_of_ble_eq_true rfl) rfl (Nat.le_of_ble_eq_true rfl) (by decide) (c_X10_isColour X v3 I R J _ hq6 ⟨rfl, rfl⟩) ?_
      rintro _ _ ⟨rfl, rfl⟩
      show zy_V X M_X10_bright 5 P (17 + 3) [.ref v0, .int v1, .int v2, .int v3] [.int q6] (I, R, J)
      rcases zw_ifE hf with ⟨c7, hf⟩ | ⟨c7, hf⟩
      · refine zv_if_eq (pc := 20) (tg := 33) d_X10_bright_20 (by decide) (fun _ => ?_) (fun q => absurd c7 q)
        refine zv_iconst (pc := 33) d_X10_bright_33 zc_i_m1 ?_
        cases hf
        exact zx_iret (pc := 34) d_X10_bright_34 rfl hk
      · refine zv_if_eq (pc := 20) (tg := 33) d_X10_bright_20 (by decide) (fun q => absurd q c7) (fun _ => ?_)
        refine zv_aload_n (pc := 23) d_X10_bright_23 rfl ?_
        refine zv_iload_n (pc := 24) d_X10_bright_24 rfl ?_
        refine zv_iload_n (pc := 25) d_X10_bright_25 rfl ?_
        refine zv_iload_n (pc := 26) d_X10_bright_26 rfl ?_
        obtain ⟨q8, hq8, hf⟩ := zw_bdE hf
        refine zx_callV (pc := 27) (As := [.int v1, .int v2, .int v3]) (o := v0) (st := []) (d2 := 4) (M2 := M_X10_brightOf) (P2 := (fun r S => r = (some (.int q8.1)) ∧ S = (q8.2, R, J))) d_X10_bright_27 (zw_mG (List.mem_of_getElem? (i := 1094) (by decide +kernel)) rfl) ce_X10_brightOf (zw_RvK g1 rfl rfl) (Nat.le_of_ble_eq_true rfl) rfl (Nat.le_of_ble_eq_true rfl) (by decide) (c_X10_brightOf X v0 v1 v2 v3 I R J _ hq8 ⟨rfl, rfl⟩) ?_
        rintro _ _ ⟨rfl, rfl⟩
        show zy_V X M_X10_bright 5 P (27 + 3) [.ref v0, .int v1, .int v2, .int v3] [.int q8.1] (q8.2, R, J)
        refine zv_goto (pc := 30) (tg := 34) d_X10_bright_30 (by decide) ?_
        cases hf
        exact zx_iret (pc := 34) d_X10_bright_34 rfl hk
abbrev M_X10_findPrices : zw_M := (⟨"CutStones", "findPrices", "(II)V"⟩, prog_1_method_40_code, 4, (Option.none : Option Jvm.ClassFile.FieldType))
theorem d_X10_findPrices_0 : decode M_X10_findPrices.2.1 0 = .ok (.iconst 0, 1) := by decide +kernel
theorem d_X10_findPrices_1 : decode M_X10_findPrices.2.1 1 = .ok (.istore_n 3, 1) := by decide +kernel
theorem d_X10_findPrices_2 : decode M_X10_findPrices.2.1 2 = .ok (.iload_n 3, 1) := by decide +kernel
theorem d_X10_findPrices_3 : decode M_X10_findPrices.2.1 3 = .ok (.aload_n 0, 1) := by decide +kernel
theorem d_X10_findPrices_4 : decode M_X10_findPrices.2.1 4 = .ok (.getfield 26, 3) := by decide +kernel
theorem d_X10_findPrices_7 : decode M_X10_findPrices.2.1 7 = .ok (.getfield 261, 3) := by decide +kernel
theorem d_X10_findPrices_10 : decode M_X10_findPrices.2.1 10 = .ok (.if_icmp .ge 64, 3) := by decide +kernel
theorem d_X10_findPrices_13 : decode M_X10_findPrices.2.1 13 = .ok (.iload_n 1, 1) := by decide +kernel
theorem d_X10_findPrices_14 : decode M_X10_findPrices.2.1 14 = .ok (.iload_n 3, 1) := by decide +kernel
theorem d_X10_findPrices_15 : decode M_X10_findPrices.2.1 15 = .ok (.invokestatic 288, 3) := by decide +kernel
theorem d_X10_findPrices_18 : decode M_X10_findPrices.2.1 18 = .ok (.ifCond .eq 50, 3) := by decide +kernel
theorem d_X10_findPrices_21 : decode M_X10_findPrices.2.1 21 = .ok (.aload_n 0, 1) := by decide +kernel
theorem d_X10_findPrices_22 : decode M_X10_findPrices.2.1 22 = .ok (.getfield 51, 3) := by decide +kernel
theorem d_X10_findPrices_25 : decode M_X10_findPrices.2.1 25 = .ok (.aload_n 0, 1) := by decide +kernel
theorem d_X10_findPrices_26 : decode M_X10_findPrices.2.1 26 = .ok (.getfield 26, 3) := by decide +kernel
theorem d_X10_findPrices_29 : decode M_X10_findPrices.2.1 29 = .ok (.getfield 141, 3) := by decide +kernel
theorem d_X10_findPrices_32 : decode M_X10_findPrices.2.1 32 = .ok (.iload_n 3, 1) := by decide +kernel
theorem d_X10_findPrices_33 : decode M_X10_findPrices.2.1 33 = .ok (.aaload, 1) := by decide +kernel
theorem d_X10_findPrices_34 : decode M_X10_findPrices.2.1 34 = .ok (.aload_n 0, 1) := by decide +kernel
theorem d_X10_findPrices_35 : decode M_X10_findPrices.2.1 35 = .ok (.getfield 26, 3) := by decide +kernel
theorem d_X10_findPrices_38 : decode M_X10_findPrices.2.1 38 = .ok (.getfield 159, 3) := by decide +kernel
theorem d_X10_findPrices_41 : decode M_X10_findPrices.2.1 41 = .ok (.iload_n 2, 1) := by decide +kernel
theorem d_X10_findPrices_42 : decode M_X10_findPrices.2.1 42 = .ok (.aaload, 1) := by decide +kernel
theorem d_X10_findPrices_43 : decode M_X10_findPrices.2.1 43 = .ok (.iconst 0, 1) := by decide +kernel
theorem d_X10_findPrices_44 : decode M_X10_findPrices.2.1 44 = .ok (.invokevirtual 187, 3) := by decide +kernel
theorem d_X10_findPrices_47 : decode M_X10_findPrices.2.1 47 = .ok (.aload_n 0, 1) := by decide +kernel
theorem d_X10_findPrices_48 : decode M_X10_findPrices.2.1 48 = .ok (.getfield 61, 3) := by decide +kernel
theorem d_X10_findPrices_51 : decode M_X10_findPrices.2.1 51 = .ok (.iload_n 3, 1) := by decide +kernel
theorem d_X10_findPrices_52 : decode M_X10_findPrices.2.1 52 = .ok (.aload_n 0, 1) := by decide +kernel
theorem d_X10_findPrices_53 : decode M_X10_findPrices.2.1 53 = .ok (.getfield 26, 3) := by decide +kernel
theorem d_X10_findPrices_56 : decode M_X10_findPrices.2.1 56 = .ok (.aload_n 0, 1) := by decide +kernel
theorem d_X10_findPrices_57 : decode M_X10_findPrices.2.1 57 = .ok (.getfield 51, 3) := by decide +kernel
theorem d_X10_findPrices_60 : decode M_X10_findPrices.2.1 60 = .ok (.aload_n 0, 1) := by decide +kernel
theorem d_X10_findPrices_61 : decode M_X10_findPrices.2.1 61 = .ok (.getfield 57, 3) := by decide +kernel
theorem d_X10_findPrices_64 : decode M_X10_findPrices.2.1 64 = .ok (.invokevirtual 205, 3) := by decide +kernel
theorem d_X10_findPrices_67 : decode M_X10_findPrices.2.1 67 = .ok (.iastore, 1) := by decide +kernel
theorem d_X10_findPrices_68 : decode M_X10_findPrices.2.1 68 = .ok (.iinc 3 1, 3) := by decide +kernel
theorem d_X10_findPrices_71 : decode M_X10_findPrices.2.1 71 = .ok (.goto (-69), 3) := by decide +kernel
theorem d_X10_findPrices_74 : decode M_X10_findPrices.2.1 74 = .ok (.return_, 1) := by decide +kernel
theorem ce_X10_findPrices : zw_CeV M_X10_findPrices 2 := ⟨⟨⟨by decide +kernel, by decide +kernel, by decide +kernel⟩, (zw_mG (List.mem_of_getElem? (i := 1053) (by decide +kernel)) rfl), (zw_mG (List.mem_of_getElem? (i := 96) (by decide +kernel)) rfl), by decide, by decide +kernel⟩, (zw_mG (List.mem_of_getElem? (i := 1052) (by decide +kernel)) rfl), (zw_mG (List.mem_of_getElem? (i := 41) (by decide +kernel)) rfl)⟩
def j_X10_findPrices_68_2 (v0 : Nat) (v1 : Int32) (v2 : Int32) (v3 : Int32) (I : zI) (R : zR) : Option ((Int32 × zI) ⊕ (zI)) :=
  zw_let (v3 + 1 : Int32) fun x6 => (some (.inl (x6, I)))
theorem j_X10_findPrices_68_2_ok (X : zw_X) (P : Option Value → aS → Prop) (v0 : Nat) (v1 : Int32) (v2 : Int32) (v3 : Int32) (I : zI) (R : zR) (J : zJ) (o : (Int32 × zI) ⊕ (zI)) (hf : j_X10_findPrices_68_2 v0 v1 v2 v3 I R = some o) (hk : (zw_se (fun t => zy_V X M_X10_findPrices 5 P 2 [.ref v0, .int v1, .int v2, .int t.1] [] (t.2, R, J)) (fun r => zy_V X M_X10_findPrices 5 P 74 [.null, .null, .null, .null] [] (r, R, J)) o)) : zy_V X M_X10_findPrices 5 P 68 [.ref v0, .int v1, .int v2, .int v3] [] (I, R, J) := by
  unfold j_X10_findPrices_68_2 at hf
  obtain ⟨x6, ex6, hf⟩ := zw_letE hf
  refine zx_iinc (pc := 68) (x2 := x6) (L2 := [.ref v0, .int v1, .int v2, .int x6]) d_X10_findPrices_68 (by decide) rfl zc_i_1 ex6 rfl ?_
  refine zv_goto (pc := 71) (tg := 2) d_X10_findPrices_71 (by decide) ?_
  cases hf
  exact zx_weak (zw_leS (zw_leS (zw_leS (zw_leS zw_leZ)))) hk
def s_X10_findPrices_2 (v0 : Nat) (v1 : Int32) (v2 : Int32) (R : zR) (s : Int32 × zI) : Option ((Int32 × zI) ⊕ (zI)) :=
  zw_g (zw_gc v0 10) (zw_g (zw_gc (R v0 2) 1) (if (s.2 (R v0 2) 3) ≤ s.1 then some (.inr s.2) else (f_X10_isTold v1 s.1).bind fun q4 => (if q4 = 0 then j_X10_findPrices_68_2 v0 v1 v2 s.1 s.2 R else zw_g (zw_gc (R v0 7) 6) (zw_g (zw_gc (R (R v0 2) 2) 16) (zw_g (zw_in s.1 (zw_SH (R (R v0 2) 2)).2) (zw_g (zw_gc (R (R (R v0 2) 2) (Int32.toNatClampNeg s.1)) 0) (zw_g (zw_gc (R (R v0 2) 0) 18) (zw_g (zw_in v2 (zw_SH (R (R v0 2) 0)).2) (zw_g (zw_gc (R (R (R v0 2) 0) (Int32.toNatClampNeg v2)) 7) ((f_X6_lightUp (R v0 7) (R (R (R v0 2) 2) (Int32.toNatClampNeg s.1)) (R (R (R v0 2) 0) (Int32.toNatClampNeg v2)) 0 s.2 R).bind fun q14 => (zw_g (zw_gc (R v0 9) 13) (zw_g (zw_gc (R v0 8) 4) ((f_X1_priceBy (R v0 2) (R v0 7) (R v0 8) q14 R).bind fun q17 => (zw_g (zw_in s.1 (zw_SH (R v0 9)).2) (zw_let (zw_u q17.2 (R v0 9) (Int32.toNatClampNeg s.1) q17.1 : zI) fun I19 => (j_X10_findPrices_68_2 v0 v1 v2 s.1 I19 R))))))))))))))))
theorem s_X10_findPrices_2_ok (X : zw_X) (P : Option Value → aS → Prop) (v0 : Nat) (v1 : Int32) (v2 : Int32) (R : zR) (J : zJ) (s : Int32 × zI) (o : (Int32 × zI) ⊕ (zI)) (hf : s_X10_findPrices_2 v0 v1 v2 R s = some o) (hk : (zw_se (fun t => zy_V X M_X10_findPrices 5 P 2 [.ref v0, .int v1, .int v2, .int t.1] [] (t.2, R, J)) (fun r => zy_V X M_X10_findPrices 5 P 74 [.null, .null, .null, .null] [] (r, R, J)) o)) : zy_V X M_X10_findPrices 5 P 2 [.ref v0, .int v1, .int v2, .int s.1] [] (s.2, R, J) := by
  unfold s_X10_findPrices_2 at hf
  refine zv_iload_n (pc := 2) d_X10_findPrices_2 rfl ?_
  refine zv_aload_n (pc := 3) d_X10_findPrices_3 rfl ?_
  obtain ⟨g1, hf⟩ := zw_gcE hf (by decide)
  obtain ⟨g2, hf⟩ := zw_gcE hf (by decide)
  refine zx_getR (pc := 4) d_X10_findPrices_4 lk_CutStones_26 (by decide) g1 g2 ?_
  refine zx_getI (pc := 7) d_X10_findPrices_7 lk_CutStones_261 (by decide) g2 ?_
  rcases zw_ifE hf with ⟨c3, hf⟩ | ⟨c3, hf⟩
  · refine zv_icmp_ge (pc := 10) (tg := 74) d_X10_findPrices_10 (by decide) (fun _ => ?_) (fun q => absurd c3 q)
    cases hf
    exact zx_weak (zw_leN (zw_leN (zw_leN (zw_leN zw_leZ)))) hk
  · refine zv_icmp_ge (pc := 10) (tg := 74) d_X10_findPrices_10 (by decide) (fun q => absurd q c3) (fun _ => ?_)
    refine zv_iload_n (pc := 13) d_X10_findPrices_13 rfl ?_
    refine zv_iload_n (pc := 14) d_X10_findPrices_14 rfl ?_
    obtain ⟨q4, hq4, hf⟩ := zw_bdE hf
    refine zx_callS (pc := 15) (As := [.int v1, .int s.1]) (st := []) (d2 := 0) (M2 := M_X10_isTold) (P2 := (fun r S => r = (some (.int q4)) ∧ S = (s.2, R, J))) d_X10_findPrices_15 (zw_mG (List.mem_of_getElem? (i := 1054) (by decide +kernel)) rfl) ce_X10_isTold (Nat.le_of_ble_eq_true rfl) rfl (Nat.le_of_ble_eq_true rfl) (by decide) (c_X10_isTold X v1 s.1 s.2 R J _ hq4 ⟨rfl, rfl⟩) ?_
    rintro _ _ ⟨rfl, rfl⟩
    show zy_V X M_X10_findPrices 5 P (15 + 3) [.ref v0, .int v1, .int v2, .int s.1] [.int q4] (s.2, R, J)
    rcases zw_ifE hf with ⟨c5, hf⟩ | ⟨c5, hf⟩
    · refine zv_if_eq (pc := 18) (tg := 68) d_X10_findPrices_18 (by decide) (fun _ => ?_) (fun q => absurd c5 q)
      exact zx_weak (zw_leS (zw_leS (zw_leS (zw_leS zw_leZ)))) (j_X10_findPrices_68_2_ok X P v0 v1 v2 s.1 s.2 R J _ hf hk)
    · refine zv_if_eq (pc := 18) (tg := 68) d_X10_findPrices_18 (by decide) (fun q => absurd q c5) (fun _ => ?_)
      refine zv_aload_n (pc := 21) d_X10_findPrices_21 rfl ?_
      obtain ⟨g7, hf⟩ := zw_gcE hf (by decide)
      refine zx_getR (pc := 22) d_X10_findPrices_22 lk_CutStones_51 (by decide) g1 g7 ?_
      refine zv_aload_n (pc := 25) d_X10_findPrices_25 rfl ?_
      refine zx_getR (pc := 26) d_X10_findPrices_26 lk_CutStones_26 (by decide) g1 g2 ?_
      obtain ⟨g8, hf⟩ := zw_gcE hf (by decide)
      refine zx_getR (pc := 29) d_X10_findPrices_29 lk_CutStones_141 (by decide) g2 g8 ?_
      refine zv_iload_n (pc := 32) d_X10_findPrices_32 rfl ?_
      obtain ⟨i9, hf⟩ := zw_inE hf
      obtain ⟨g10, hf⟩ := zw_gcE hf (by decide)
      refine zx_aald (pc := 33) d_X10_findPrices_33 g8 (by decide) i9 g10 ?_
      refine zv_aload_n (pc := 34) d_X10_findPrices_34 rfl ?_
      refine zx_getR (pc := 35) d_X10_findPrices_35 lk_CutStones_26 (by decide) g1 g2 ?_
      obtain ⟨g11, hf⟩ := zw_gcE hf (by decide)
      refine zx_getR (pc := 38) d_X10_findPrices_38 lk_CutStones_159 (by decide) g2 g11 ?_
      refine zv_iload_n (pc := 41) d_X10_findPrices_41 rfl ?_
      obtain ⟨i12, hf⟩ := zw_inE hf
      obtain ⟨g13, hf⟩ := zw_gcE hf (by decide)
      refine zx_aald (pc := 42) d_X10_findPrices_42 g11 (by decide) i12 g13 ?_
      refine zv_iconst (pc := 43) d_X10_findPrices_43 zc_i_0 ?_
      obtain ⟨q14, hq14, hf⟩ := zw_bdE hf
      refine zx_callV (pc := 44) (As := [.ref (R (R (R v0 2) 2) (Int32.toNatClampNeg s.1)), .ref (R (R (R v0 2) 0) (Int32.toNatClampNeg v2)), .int 0]) (o := (R v0 7)) (st := []) (d2 := 3) (M2 := M_X6_lightUp) (P2 := (fun r S => r = none ∧ S = (q14, R, J))) d_X10_findPrices_44 (zw_mG (List.mem_of_getElem? (i := 941) (by decide +kernel)) rfl) ce_X6_lightUp (zw_RvK g7 rfl rfl) (Nat.le_of_ble_eq_true rfl) rfl (Nat.le_of_ble_eq_true rfl) (by decide) (c_X6_lightUp X (R v0 7) (R (R (R v0 2) 2) (Int32.toNatClampNeg s.1)) (R (R (R v0 2) 0) (Int32.toNatClampNeg v2)) 0 s.2 R J _ hq14 ⟨rfl, rfl⟩) ?_
      rintro _ _ ⟨rfl, rfl⟩
      show zy_V X M_X10_findPrices 5 P (44 + 3) [.ref v0, .int v1, .int v2, .int s.1] [] (q14, R, J)
      refine zv_aload_n (pc := 47) d_X10_findPrices_47 rfl ?_
      obtain ⟨g15, hf⟩ := zw_gcE hf (by decide)
      refine zx_getR (pc := 48) d_X10_findPrices_48 lk_CutStones_61 (by decide) g1 g15 ?_
      refine zv_iload_n (pc := 51) d_X10_findPrices_51 rfl ?_
      refine zv_aload_n (pc := 52) d_X10_findPrices_52 rfl ?_
      refine zx_getR (pc := 53) d_X10_findPrices_53 lk_CutStones_26 (by decide) g1 g2 ?_
      refine zv_aload_n (pc := 56) d_X10_findPrices_56 rfl ?_
      refine zx_getR (pc := 57) d_X10_findPrices_57 lk_CutStones_51 (by decide) g1 g7 ?_
      refine zv_aload_n (pc := 60) d_X10_findPrices_60 rfl ?_
      obtain ⟨g16, hf⟩ := zw_gcE hf (by decide)
      refine zx_getR (pc := 61) d_X10_findPrices_61 lk_CutStones_57 (by decide) g1 g16 ?_
      obtain ⟨q17, hq17, hf⟩ := zw_bdE hf
      refine zx_callV (pc := 64) (As := [.ref (R v0 7), .ref (R v0 8)]) (o := (R v0 2)) (st := [.int s.1, .ref (R v0 9)]) (d2 := 4) (M2 := M_X1_priceBy) (P2 := (fun r S => r = (some (.int q17.1)) ∧ S = (q17.2, R, J))) d_X10_findPrices_64 (zw_mG (List.mem_of_getElem? (i := 1019) (by decide +kernel)) rfl) ce_X1_priceBy (zw_RvK g2 rfl rfl) (Nat.le_of_ble_eq_true rfl) rfl (Nat.le_of_ble_eq_true rfl) (by decide) (c_X1_priceBy X (R v0 2) (R v0 7) (R v0 8) q14 R J _ hq17 ⟨rfl, rfl⟩) ?_
      rintro _ _ ⟨rfl, rfl⟩
      show zy_V X M_X10_findPrices 5 P (64 + 3) [.ref v0, .int v1, .int v2, .int s.1] [.int q17.1, .int s.1, .ref (R v0 9)] (q17.2, R, J)
      obtain ⟨i18, hf⟩ := zw_inE hf
      obtain ⟨I19, eI19, hf⟩ := zw_letE hf
      refine zx_iast (pc := 67) (I2 := I19) d_X10_findPrices_67 g15 i18 eI19 ?_
      exact zx_weak (zw_leS (zw_leS (zw_leS (zw_leS zw_leZ)))) (j_X10_findPrices_68_2_ok X P v0 v1 v2 s.1 I19 R J _ hf hk)
theorem s_X10_findPrices_2_lp (X : zw_X) (P : Option Value → aS → Prop) (v0 : Nat) (v1 : Int32) (v2 : Int32) (R : zR) (J : zJ) (n : Nat) (s : Int32 × zI) (r : zI) (h : zw_it (s_X10_findPrices_2 v0 v1 v2 R) n s = some r) (hq : zy_V X M_X10_findPrices 5 P 74 [.null, .null, .null, .null] [] (r, R, J)) : zy_V X M_X10_findPrices 5 P 2 [.ref v0, .int v1, .int v2, .int s.1] [] (s.2, R, J) :=
  zw_itE (A := (fun t : Int32 × zI => zy_V X M_X10_findPrices 5 P 2 [.ref v0, .int v1, .int v2, .int t.1] [] (t.2, R, J))) (Q := (fun r : zI => zy_V X M_X10_findPrices 5 P 74 [.null, .null, .null, .null] [] (r, R, J))) (fun s o h1 h2 => s_X10_findPrices_2_ok X P v0 v1 v2 R J s o h1 h2) n s r h hq
def f_X10_findPrices (v0 : Nat) (v1 : Int32) (v2 : Int32) (I : zI) (R : zR) : Option (zI) :=
  (zw_it (s_X10_findPrices_2 v0 v1 v2 R) 1000000 (0, I)).bind fun q20 => (some q20)
theorem c_X10_findPrices (X : zw_X) (v0 : Nat) (v1 : Int32) (v2 : Int32) (I : zI) (R : zR) (J : zJ) {P : Option Value → aS → Prop} (o : zI) (hf : f_X10_findPrices v0 v1 v2 I R = some o) (hk : P none (o, R, J)) : zw_C X M_X10_findPrices 5 0 0 199 [.ref v0, .int v1, .int v2] (I, R, J) P := by
  show zy_V X M_X10_findPrices 5 P 0 [.ref v0, .int v1, .int v2, .null] [] (I, R, J)
  unfold f_X10_findPrices at hf
  refine zv_iconst (pc := 0) d_X10_findPrices_0 zc_i_0 ?_
  refine zx_istore_n (pc := 1) (x2 := 0) (L2 := [.ref v0, .int v1, .int v2, .int 0]) d_X10_findPrices_1 (by decide) rfl rfl ?_
  obtain ⟨q20, hq20, hf⟩ := zw_bdE hf
  refine zx_weak (L' := [.ref v0, .int v1, .int v2, .int 0]) (zw_leS (zw_leS (zw_leS (zw_leS zw_leZ)))) (s_X10_findPrices_2_lp X P v0 v1 v2 R J _ _ _ hq20 ?_)
  show zy_V X M_X10_findPrices 5 P 74 [.null, .null, .null, .null] [] (q20, R, J)
  cases hf
  exact zx_vret (pc := 74) d_X10_findPrices_74 rfl hk
