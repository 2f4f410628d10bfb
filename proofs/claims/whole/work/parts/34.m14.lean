abbrev M_X4_reckon : zw_M := (⟨"CutStones$Reckoner", "reckon", "(LCutStones$House;IILCutStones$Shine;)I"⟩, prog_6_method_4_code, 9, (Option.some Jvm.ClassFile.FieldType.int))
theorem d_X4_reckon_0 : decode M_X4_reckon.2.1 0 = .ok (.aload_n 0, 1) := by decide +kernel
theorem d_X4_reckon_1 : decode M_X4_reckon.2.1 1 = .ok (.iconst 0, 1) := by decide +kernel
theorem d_X4_reckon_2 : decode M_X4_reckon.2.1 2 = .ok (.putfield 15, 3) := by decide +kernel
theorem d_X4_reckon_5 : decode M_X4_reckon.2.1 5 = .ok (.aload_n 0, 1) := by decide +kernel
theorem d_X4_reckon_6 : decode M_X4_reckon.2.1 6 = .ok (.iconst 0, 1) := by decide +kernel
theorem d_X4_reckon_7 : decode M_X4_reckon.2.1 7 = .ok (.putfield 19, 3) := by decide +kernel
theorem d_X4_reckon_10 : decode M_X4_reckon.2.1 10 = .ok (.iconst 0, 1) := by decide +kernel
theorem d_X4_reckon_11 : decode M_X4_reckon.2.1 11 = .ok (.iload_n 2, 1) := by decide +kernel
theorem d_X4_reckon_12 : decode M_X4_reckon.2.1 12 = .ok (.invokestatic 38, 3) := by decide +kernel
theorem d_X4_reckon_15 : decode M_X4_reckon.2.1 15 = .ok (.istore 5, 2) := by decide +kernel
theorem d_X4_reckon_17 : decode M_X4_reckon.2.1 17 = .ok (.iload 5, 2) := by decide +kernel
theorem d_X4_reckon_19 : decode M_X4_reckon.2.1 19 = .ok (.iload_n 3, 1) := by decide +kernel
theorem d_X4_reckon_20 : decode M_X4_reckon.2.1 20 = .ok (.if_icmp .ge 117, 3) := by decide +kernel
theorem d_X4_reckon_23 : decode M_X4_reckon.2.1 23 = .ok (.iload 5, 2) := by decide +kernel
theorem d_X4_reckon_25 : decode M_X4_reckon.2.1 25 = .ok (.aload_n 1, 1) := by decide +kernel
theorem d_X4_reckon_26 : decode M_X4_reckon.2.1 26 = .ok (.getfield 44, 3) := by decide +kernel
theorem d_X4_reckon_29 : decode M_X4_reckon.2.1 29 = .ok (.if_icmp .ge 108, 3) := by decide +kernel
theorem d_X4_reckon_32 : decode M_X4_reckon.2.1 32 = .ok (.aload_n 1, 1) := by decide +kernel
theorem d_X4_reckon_33 : decode M_X4_reckon.2.1 33 = .ok (.getfield 49, 3) := by decide +kernel
theorem d_X4_reckon_36 : decode M_X4_reckon.2.1 36 = .ok (.iload 5, 2) := by decide +kernel
theorem d_X4_reckon_38 : decode M_X4_reckon.2.1 38 = .ok (.iaload, 1) := by decide +kernel
theorem d_X4_reckon_39 : decode M_X4_reckon.2.1 39 = .ok (.istore 6, 2) := by decide +kernel
theorem d_X4_reckon_41 : decode M_X4_reckon.2.1 41 = .ok (.iload 6, 2) := by decide +kernel
theorem d_X4_reckon_43 : decode M_X4_reckon.2.1 43 = .ok (.iconst 3, 1) := by decide +kernel
theorem d_X4_reckon_44 : decode M_X4_reckon.2.1 44 = .ok (.if_icmp .ne 17, 3) := by decide +kernel
theorem d_X4_reckon_47 : decode M_X4_reckon.2.1 47 = .ok (.aload_n 0, 1) := by decide +kernel
theorem d_X4_reckon_48 : decode M_X4_reckon.2.1 48 = .ok (.aload_n 1, 1) := by decide +kernel
theorem d_X4_reckon_49 : decode M_X4_reckon.2.1 49 = .ok (.getfield 52, 3) := by decide +kernel
theorem d_X4_reckon_52 : decode M_X4_reckon.2.1 52 = .ok (.iload 5, 2) := by decide +kernel
theorem d_X4_reckon_54 : decode M_X4_reckon.2.1 54 = .ok (.iaload, 1) := by decide +kernel
theorem d_X4_reckon_55 : decode M_X4_reckon.2.1 55 = .ok (.invokevirtual 55, 3) := by decide +kernel
theorem d_X4_reckon_58 : decode M_X4_reckon.2.1 58 = .ok (.goto 73, 3) := by decide +kernel
theorem d_X4_reckon_61 : decode M_X4_reckon.2.1 61 = .ok (.iload 6, 2) := by decide +kernel
theorem d_X4_reckon_63 : decode M_X4_reckon.2.1 63 = .ok (.bipush 28, 2) := by decide +kernel
theorem d_X4_reckon_65 : decode M_X4_reckon.2.1 65 = .ok (.if_icmp .lt 20, 3) := by decide +kernel
theorem d_X4_reckon_68 : decode M_X4_reckon.2.1 68 = .ok (.aload_n 0, 1) := by decide +kernel
theorem d_X4_reckon_69 : decode M_X4_reckon.2.1 69 = .ok (.aload 4, 2) := by decide +kernel
theorem d_X4_reckon_71 : decode M_X4_reckon.2.1 71 = .ok (.iload 6, 2) := by decide +kernel
theorem d_X4_reckon_73 : decode M_X4_reckon.2.1 73 = .ok (.bipush 28, 2) := by decide +kernel
theorem d_X4_reckon_75 : decode M_X4_reckon.2.1 75 = .ok (.isub, 1) := by decide +kernel
theorem d_X4_reckon_76 : decode M_X4_reckon.2.1 76 = .ok (.invokevirtual 59, 3) := by decide +kernel
theorem d_X4_reckon_79 : decode M_X4_reckon.2.1 79 = .ok (.invokevirtual 55, 3) := by decide +kernel
theorem d_X4_reckon_82 : decode M_X4_reckon.2.1 82 = .ok (.goto 49, 3) := by decide +kernel
theorem d_X4_reckon_85 : decode M_X4_reckon.2.1 85 = .ok (.iload 6, 2) := by decide +kernel
theorem d_X4_reckon_87 : decode M_X4_reckon.2.1 87 = .ok (.bipush 27, 2) := by decide +kernel
theorem d_X4_reckon_89 : decode M_X4_reckon.2.1 89 = .ok (.if_icmp .ne 16, 3) := by decide +kernel
theorem d_X4_reckon_92 : decode M_X4_reckon.2.1 92 = .ok (.aload_n 0, 1) := by decide +kernel
theorem d_X4_reckon_93 : decode M_X4_reckon.2.1 93 = .ok (.iconst 1, 1) := by decide +kernel
theorem d_X4_reckon_94 : decode M_X4_reckon.2.1 94 = .ok (.aload_n 0, 1) := by decide +kernel
theorem d_X4_reckon_95 : decode M_X4_reckon.2.1 95 = .ok (.invokevirtual 65, 3) := by decide +kernel
theorem d_X4_reckon_98 : decode M_X4_reckon.2.1 98 = .ok (.isub, 1) := by decide +kernel
theorem d_X4_reckon_99 : decode M_X4_reckon.2.1 99 = .ok (.invokevirtual 55, 3) := by decide +kernel
theorem d_X4_reckon_102 : decode M_X4_reckon.2.1 102 = .ok (.goto 29, 3) := by decide +kernel
theorem d_X4_reckon_105 : decode M_X4_reckon.2.1 105 = .ok (.aload_n 0, 1) := by decide +kernel
theorem d_X4_reckon_106 : decode M_X4_reckon.2.1 106 = .ok (.invokevirtual 65, 3) := by decide +kernel
theorem d_X4_reckon_109 : decode M_X4_reckon.2.1 109 = .ok (.istore 7, 2) := by decide +kernel
theorem d_X4_reckon_111 : decode M_X4_reckon.2.1 111 = .ok (.aload_n 0, 1) := by decide +kernel
theorem d_X4_reckon_112 : decode M_X4_reckon.2.1 112 = .ok (.invokevirtual 65, 3) := by decide +kernel
theorem d_X4_reckon_115 : decode M_X4_reckon.2.1 115 = .ok (.istore 8, 2) := by decide +kernel
theorem d_X4_reckon_117 : decode M_X4_reckon.2.1 117 = .ok (.aload_n 0, 1) := by decide +kernel
theorem d_X4_reckon_118 : decode M_X4_reckon.2.1 118 = .ok (.aload_n 0, 1) := by decide +kernel
theorem d_X4_reckon_119 : decode M_X4_reckon.2.1 119 = .ok (.iload 6, 2) := by decide +kernel
theorem d_X4_reckon_121 : decode M_X4_reckon.2.1 121 = .ok (.iload 8, 2) := by decide +kernel
theorem d_X4_reckon_123 : decode M_X4_reckon.2.1 123 = .ok (.iload 7, 2) := by decide +kernel
theorem d_X4_reckon_125 : decode M_X4_reckon.2.1 125 = .ok (.invokevirtual 69, 3) := by decide +kernel
theorem d_X4_reckon_128 : decode M_X4_reckon.2.1 128 = .ok (.invokevirtual 55, 3) := by decide +kernel
theorem d_X4_reckon_131 : decode M_X4_reckon.2.1 131 = .ok (.iinc 5 1, 3) := by decide +kernel
theorem d_X4_reckon_134 : decode M_X4_reckon.2.1 134 = .ok (.goto (-117), 3) := by decide +kernel
theorem d_X4_reckon_137 : decode M_X4_reckon.2.1 137 = .ok (.aload_n 0, 1) := by decide +kernel
theorem d_X4_reckon_138 : decode M_X4_reckon.2.1 138 = .ok (.invokevirtual 65, 3) := by decide +kernel
theorem d_X4_reckon_141 : decode M_X4_reckon.2.1 141 = .ok (.ireturn, 1) := by decide +kernel
theorem ce_X4_reckon : zw_CeV M_X4_reckon 4 := ⟨⟨⟨by decide +kernel, by decide +kernel, by decide +kernel⟩, (zw_mG (List.mem_of_getElem? (i := 989) (by decide +kernel)) rfl), (zw_mG (List.mem_of_getElem? (i := 105) (by decide +kernel)) rfl), by decide, by decide +kernel⟩, (zw_mG (List.mem_of_getElem? (i := 988) (by decide +kernel)) rfl), (zw_mG (List.mem_of_getElem? (i := 34) (by decide +kernel)) rfl)⟩
def j_X4_reckon_131_17 (v0 : Nat) (v1 : Nat) (v3 : Int32) (v4 : Nat) (v5 : Int32) (I : zI) (R : zR) : Option ((Int32 × zI) ⊕ (zI)) :=
  zw_let (v5 + 1 : Int32) fun x19 => (some (.inl (x19, I)))
theorem j_X4_reckon_131_17_ok (X : zw_X) (P : Option Value → aS → Prop) (v0 : Nat) (v1 : Nat) (v3 : Int32) (v4 : Nat) (v5 : Int32) (I : zI) (R : zR) (J : zJ) (o : (Int32 × zI) ⊕ (zI)) (hf : j_X4_reckon_131_17 v0 v1 v3 v4 v5 I R = some o) (hk : (zw_se (fun t => zy_V X M_X4_reckon 2 P 17 [.ref v0, .ref v1, .null, .int v3, .ref v4, .int t.1, .null, .null, .null] [] (t.2, R, J)) (fun r => zy_V X M_X4_reckon 2 P 137 [.ref v0, .null, .null, .null, .null, .null, .null, .null, .null] [] (r, R, J)) o)) : zy_V X M_X4_reckon 2 P 131 [.ref v0, .ref v1, .null, .int v3, .ref v4, .int v5, .null, .null, .null] [] (I, R, J) := by
  unfold j_X4_reckon_131_17 at hf
  obtain ⟨x19, ex19, hf⟩ := zw_letE hf
  refine zx_iinc (pc := 131) (x2 := x19) (L2 := [.ref v0, .ref v1, .null, .int v3, .ref v4, .int x19, .null, .null, .null]) d_X4_reckon_131 (by decide) rfl zc_i_1 ex19 rfl ?_
  refine zv_goto (pc := 134) (tg := 17) d_X4_reckon_134 (by decide) ?_
  cases hf
  exact zx_weak (zw_leS (zw_leS (zw_leN (zw_leS (zw_leS (zw_leS (zw_leN (zw_leN (zw_leN zw_leZ))))))))) hk
def s_X4_reckon_17 (v0 : Nat) (v1 : Nat) (v3 : Int32) (v4 : Nat) (R : zR) (s : Int32 × zI) : Option ((Int32 × zI) ⊕ (zI)) :=
  if v3 ≤ s.1 then some (.inr s.2) else zw_g (zw_gc v1 1) (if (s.2 v1 14) ≤ s.1 then some (.inr s.2) else zw_g (zw_gc (R v1 12) 13) (zw_g (zw_in s.1 (zw_SH (R v1 12)).2) (zw_let ((s.2 (R v1 12) (Int32.toNatClampNeg s.1)) : Int32) fun x10 => (if ¬ x10 = 3 then if x10 < 28 then if ¬ x10 = 27 then zw_g (zw_gc v0 4) ((f_X4_pop v0 s.2 R).bind fun q15 => ((f_X4_pop v0 q15.2 R).bind fun q16 => ((f_X4_joined v0 x10 q16.1 q15.1 q16.2).bind fun q17 => ((f_X4_push v0 q17.1 q17.2 R).bind fun q18 => (j_X4_reckon_131_17 v0 v1 v3 v4 s.1 q18 R))))) else zw_g (zw_gc v0 4) ((f_X4_pop v0 s.2 R).bind fun q21 => ((f_X4_push v0 (1 - q21.1) q21.2 R).bind fun q22 => (j_X4_reckon_131_17 v0 v1 v3 v4 s.1 q22 R))) else zw_g (zw_gc v4 6) ((f_X6_valueOf v4 (x10 - 28) s.2 R).bind fun q24 => (zw_g (zw_gc v0 4) ((f_X4_push v0 q24 s.2 R).bind fun q26 => (j_X4_reckon_131_17 v0 v1 v3 v4 s.1 q26 R)))) else zw_g (zw_gc (R v1 13) 13) (zw_g (zw_in s.1 (zw_SH (R v1 13)).2) (zw_g (zw_gc v0 4) ((f_X4_push v0 (s.2 (R v1 13) (Int32.toNatClampNeg s.1)) s.2 R).bind fun q30 => (j_X4_reckon_131_17 v0 v1 v3 v4 s.1 q30 R))))))))
theorem s_X4_reckon_17_ok (X : zw_X) (P : Option Value → aS → Prop) (v0 : Nat) (v1 : Nat) (v3 : Int32) (v4 : Nat) (R : zR) (J : zJ) (s : Int32 × zI) (o : (Int32 × zI) ⊕ (zI)) (hf : s_X4_reckon_17 v0 v1 v3 v4 R s = some o) (hk : (zw_se (fun t => zy_V X M_X4_reckon 2 P 17 [.ref v0, .ref v1, .null, .int v3, .ref v4, .int t.1, .null, .null, .null] [] (t.2, R, J)) (fun r => zy_V X M_X4_reckon 2 P 137 [.ref v0, .null, .null, .null, .null, .null, .null, .null, .null] [] (r, R, J)) o)) : zy_V X M_X4_reckon 2 P 17 [.ref v0, .ref v1, .null, .int v3, .ref v4, .int s.1, .null, .null, .null] [] (s.2, R, J) := by
  unfold s_X4_reckon_17 at hf
  refine zv_iload (pc := 17) d_X4_reckon_17 rfl ?_
  refine zv_iload_n (pc := 19) d_X4_reckon_19 rfl ?_
  rcases zw_ifE hf with ⟨c5, hf⟩ | ⟨c5, hf⟩
  · refine zv_icmp_ge (pc := 20) (tg := 137) d_X4_reckon_20 (by decide) (fun _ => ?_) (fun q => absurd c5 q)
    cases hf
    exact zx_weak (zw_leS (zw_leN (zw_leN (zw_leN (zw_leN (zw_leN (zw_leN (zw_leN (zw_leN zw_leZ))))))))) hk
  · refine zv_icmp_ge (pc := 20) (tg := 137) d_X4_reckon_20 (by decide) (fun q => absurd q c5) (fun _ => ?_)
    refine zv_iload (pc := 23) d_X4_reckon_23 rfl ?_
    refine zv_aload_n (pc := 25) d_X4_reckon_25 rfl ?_
    obtain ⟨g6, hf⟩ := zw_gcE hf (by decide)
    refine zx_getI (pc := 26) d_X4_reckon_26 lk_CutStones_Reckoner_44 (by decide) g6 ?_
    rcases zw_ifE hf with ⟨c7, hf⟩ | ⟨c7, hf⟩
    · refine zv_icmp_ge (pc := 29) (tg := 137) d_X4_reckon_29 (by decide) (fun _ => ?_) (fun q => absurd c7 q)
      cases hf
      exact zx_weak (zw_leS (zw_leN (zw_leN (zw_leN (zw_leN (zw_leN (zw_leN (zw_leN (zw_leN zw_leZ))))))))) hk
    · refine zv_icmp_ge (pc := 29) (tg := 137) d_X4_reckon_29 (by decide) (fun q => absurd q c7) (fun _ => ?_)
      refine zv_aload_n (pc := 32) d_X4_reckon_32 rfl ?_
      obtain ⟨g8, hf⟩ := zw_gcE hf (by decide)
      refine zx_getR (pc := 33) d_X4_reckon_33 lk_CutStones_Reckoner_49 (by decide) g6 g8 ?_
      refine zv_iload (pc := 36) d_X4_reckon_36 rfl ?_
      obtain ⟨i9, hf⟩ := zw_inE hf
      refine zx_iald (pc := 38) d_X4_reckon_38 g8 i9 ?_
      obtain ⟨x10, ex10, hf⟩ := zw_letE hf
      refine zx_istore (pc := 39) (x2 := x10) (L2 := [.ref v0, .ref v1, .null, .int v3, .ref v4, .int s.1, .int x10, .null, .null]) d_X4_reckon_39 (by decide) ex10 rfl ?_
      refine zv_iload (pc := 41) d_X4_reckon_41 rfl ?_
      refine zv_iconst (pc := 43) d_X4_reckon_43 zc_i_3 ?_
      rcases zw_ifE hf with ⟨c11, hf⟩ | ⟨c11, hf⟩
      · refine zv_icmp_ne (pc := 44) (tg := 61) d_X4_reckon_44 (by decide) (fun _ => ?_) (fun q => absurd q c11)
        refine zv_iload (pc := 61) d_X4_reckon_61 rfl ?_
        refine zv_bipush (pc := 63) d_X4_reckon_63 zc_b_28 ?_
        rcases zw_ifE hf with ⟨c12, hf⟩ | ⟨c12, hf⟩
        · refine zv_icmp_lt (pc := 65) (tg := 85) d_X4_reckon_65 (by decide) (fun _ => ?_) (fun q => absurd c12 q)
          refine zv_iload (pc := 85) d_X4_reckon_85 rfl ?_
          refine zv_bipush (pc := 87) d_X4_reckon_87 zc_b_27 ?_
          rcases zw_ifE hf with ⟨c13, hf⟩ | ⟨c13, hf⟩
          · refine zv_icmp_ne (pc := 89) (tg := 105) d_X4_reckon_89 (by decide) (fun _ => ?_) (fun q => absurd q c13)
            refine zv_aload_n (pc := 105) d_X4_reckon_105 rfl ?_
            obtain ⟨g14, hf⟩ := zw_gcE hf (by decide)
            obtain ⟨q15, hq15, hf⟩ := zw_bdE hf
            refine zx_callV (pc := 106) (As := []) (o := v0) (st := []) (d2 := 0) (M2 := M_X4_pop) (P2 := (fun r S => r = (some (.int q15.1)) ∧ S = (q15.2, R, J))) d_X4_reckon_106 (zw_mG (List.mem_of_getElem? (i := 999) (by decide +kernel)) rfl) ce_X4_pop (zw_RvK g14 rfl rfl) (Nat.le_of_ble_eq_true rfl) rfl (Nat.le_of_ble_eq_true rfl) (by decide) (c_X4_pop X v0 s.2 R J _ hq15 ⟨rfl, rfl⟩) ?_
            rintro _ _ ⟨rfl, rfl⟩
            show zy_V X M_X4_reckon 2 P (106 + 3) [.ref v0, .ref v1, .null, .int v3, .ref v4, .int s.1, .int x10, .null, .null] [.int q15.1] (q15.2, R, J)
            refine zx_istore (pc := 109) (x2 := q15.1) (L2 := [.ref v0, .ref v1, .null, .int v3, .ref v4, .int s.1, .int x10, .int q15.1, .null]) d_X4_reckon_109 (by decide) rfl rfl ?_
            refine zv_aload_n (pc := 111) d_X4_reckon_111 rfl ?_
            obtain ⟨q16, hq16, hf⟩ := zw_bdE hf
            refine zx_callV (pc := 112) (As := []) (o := v0) (st := []) (d2 := 0) (M2 := M_X4_pop) (P2 := (fun r S => r = (some (.int q16.1)) ∧ S = (q16.2, R, J))) d_X4_reckon_112 (zw_mG (List.mem_of_getElem? (i := 999) (by decide +kernel)) rfl) ce_X4_pop (zw_RvK g14 rfl rfl) (Nat.le_of_ble_eq_true rfl) rfl (Nat.le_of_ble_eq_true rfl) (by decide) (c_X4_pop X v0 q15.2 R J _ hq16 ⟨rfl, rfl⟩) ?_
            rintro _ _ ⟨rfl, rfl⟩
            show zy_V X M_X4_reckon 2 P (112 + 3) [.ref v0, .ref v1, .null, .int v3, .ref v4, .int s.1, .int x10, .int q15.1, .null] [.int q16.1] (q16.2, R, J)
            refine zx_istore (pc := 115) (x2 := q16.1) (L2 := [.ref v0, .ref v1, .null, .int v3, .ref v4, .int s.1, .int x10, .int q15.1, .int q16.1]) d_X4_reckon_115 (by decide) rfl rfl ?_
            refine zv_aload_n (pc := 117) d_X4_reckon_117 rfl ?_
            refine zv_aload_n (pc := 118) d_X4_reckon_118 rfl ?_
            refine zv_iload (pc := 119) d_X4_reckon_119 rfl ?_
            refine zv_iload (pc := 121) d_X4_reckon_121 rfl ?_
            refine zv_iload (pc := 123) d_X4_reckon_123 rfl ?_
            obtain ⟨q17, hq17, hf⟩ := zw_bdE hf
            refine zx_callV (pc := 125) (As := [.int x10, .int q16.1, .int q15.1]) (o := v0) (st := [.ref v0]) (d2 := 1) (M2 := M_X4_joined) (P2 := (fun r S => r = (some (.int q17.1)) ∧ S = (q17.2, R, J))) d_X4_reckon_125 (zw_mG (List.mem_of_getElem? (i := 1003) (by decide +kernel)) rfl) ce_X4_joined (zw_RvK g14 rfl rfl) (Nat.le_of_ble_eq_true rfl) rfl (Nat.le_of_ble_eq_true rfl) (by decide) (c_X4_joined X v0 x10 q16.1 q15.1 q16.2 R J _ hq17 ⟨rfl, rfl⟩) ?_
            rintro _ _ ⟨rfl, rfl⟩
            show zy_V X M_X4_reckon 2 P (125 + 3) [.ref v0, .ref v1, .null, .int v3, .ref v4, .int s.1, .int x10, .int q15.1, .int q16.1] [.int q17.1, .ref v0] (q17.2, R, J)
            obtain ⟨q18, hq18, hf⟩ := zw_bdE hf
            refine zx_callV (pc := 128) (As := [.int q17.1]) (o := v0) (st := []) (d2 := 0) (M2 := M_X4_push) (P2 := (fun r S => r = none ∧ S = (q18, R, J))) d_X4_reckon_128 (zw_mG (List.mem_of_getElem? (i := 991) (by decide +kernel)) rfl) ce_X4_push (zw_RvK g14 rfl rfl) (Nat.le_of_ble_eq_true rfl) rfl (Nat.le_of_ble_eq_true rfl) (by decide) (c_X4_push X v0 q17.1 q17.2 R J _ hq18 ⟨rfl, rfl⟩) ?_
            rintro _ _ ⟨rfl, rfl⟩
            show zy_V X M_X4_reckon 2 P (128 + 3) [.ref v0, .ref v1, .null, .int v3, .ref v4, .int s.1, .int x10, .int q15.1, .int q16.1] [] (q18, R, J)
            exact zx_weak (zw_leS (zw_leS (zw_leN (zw_leS (zw_leS (zw_leS (zw_leN (zw_leN (zw_leN zw_leZ))))))))) (j_X4_reckon_131_17_ok X P v0 v1 v3 v4 s.1 q18 R J _ hf hk)
          · refine zv_icmp_ne (pc := 89) (tg := 105) d_X4_reckon_89 (by decide) (fun q => absurd q c13) (fun _ => ?_)
            refine zv_aload_n (pc := 92) d_X4_reckon_92 rfl ?_
            refine zv_iconst (pc := 93) d_X4_reckon_93 zc_i_1 ?_
            refine zv_aload_n (pc := 94) d_X4_reckon_94 rfl ?_
            obtain ⟨g20, hf⟩ := zw_gcE hf (by decide)
            obtain ⟨q21, hq21, hf⟩ := zw_bdE hf
            refine zx_callV (pc := 95) (As := []) (o := v0) (st := [.int 1, .ref v0]) (d2 := 0) (M2 := M_X4_pop) (P2 := (fun r S => r = (some (.int q21.1)) ∧ S = (q21.2, R, J))) d_X4_reckon_95 (zw_mG (List.mem_of_getElem? (i := 999) (by decide +kernel)) rfl) ce_X4_pop (zw_RvK g20 rfl rfl) (Nat.le_of_ble_eq_true rfl) rfl (Nat.le_of_ble_eq_true rfl) (by decide) (c_X4_pop X v0 s.2 R J _ hq21 ⟨rfl, rfl⟩) ?_
            rintro _ _ ⟨rfl, rfl⟩
            show zy_V X M_X4_reckon 2 P (95 + 3) [.ref v0, .ref v1, .null, .int v3, .ref v4, .int s.1, .int x10, .null, .null] [.int q21.1, .int 1, .ref v0] (q21.2, R, J)
            refine zv_isub (pc := 98) d_X4_reckon_98 ?_
            obtain ⟨q22, hq22, hf⟩ := zw_bdE hf
            refine zx_callV (pc := 99) (As := [.int (1 - q21.1)]) (o := v0) (st := []) (d2 := 0) (M2 := M_X4_push) (P2 := (fun r S => r = none ∧ S = (q22, R, J))) d_X4_reckon_99 (zw_mG (List.mem_of_getElem? (i := 991) (by decide +kernel)) rfl) ce_X4_push (zw_RvK g20 rfl rfl) (Nat.le_of_ble_eq_true rfl) rfl (Nat.le_of_ble_eq_true rfl) (by decide) (c_X4_push X v0 (1 - q21.1) q21.2 R J _ hq22 ⟨rfl, rfl⟩) ?_
            rintro _ _ ⟨rfl, rfl⟩
            show zy_V X M_X4_reckon 2 P (99 + 3) [.ref v0, .ref v1, .null, .int v3, .ref v4, .int s.1, .int x10, .null, .null] [] (q22, R, J)
            refine zv_goto (pc := 102) (tg := 131) d_X4_reckon_102 (by decide) ?_
            exact zx_weak (zw_leS (zw_leS (zw_leN (zw_leS (zw_leS (zw_leS (zw_leN (zw_leN (zw_leN zw_leZ))))))))) (j_X4_reckon_131_17_ok X P v0 v1 v3 v4 s.1 q22 R J _ hf hk)
        · refine zv_icmp_lt (pc := 65) (tg := 85) d_X4_reckon_65 (by decide) (fun q => absurd q c12) (fun _ => ?_)
          refine zv_aload_n (pc := 68) d_X4_reckon_68 rfl ?_
          refine zv_aload (pc := 69) d_X4_reckon_69 rfl ?_
          refine zv_iload (pc := 71) d_X4_reckon_71 rfl ?_
          refine zv_bipush (pc := 73) d_X4_reckon_73 zc_b_28 ?_
          refine zv_isub (pc := 75) d_X4_reckon_75 ?_
          obtain ⟨g23, hf⟩ := zw_gcE hf (by decide)
          obtain ⟨q24, hq24, hf⟩ := zw_bdE hf
          refine zx_callV (pc := 76) (As := [.int (x10 - 28)]) (o := v4) (st := [.ref v0]) (d2 := 0) (M2 := M_X6_valueOf) (P2 := (fun r S => r = (some (.int q24)) ∧ S = (s.2, R, J))) d_X4_reckon_76 (zw_mG (List.mem_of_getElem? (i := 995) (by decide +kernel)) rfl) ce_X6_valueOf (zw_RvK g23 rfl rfl) (Nat.le_of_ble_eq_true rfl) rfl (Nat.le_of_ble_eq_true rfl) (by decide) (c_X6_valueOf X v4 (x10 - 28) s.2 R J _ hq24 ⟨rfl, rfl⟩) ?_
          rintro _ _ ⟨rfl, rfl⟩
          show zy_V X M_X4_reckon 2 P (76 + 3) [.ref v0, .ref v1, .null, .int v3, .ref v4, .int s.1, .int x10, .null, .null] [.int q24, .ref v0] (s.2, R, J)
          obtain ⟨g25, hf⟩ := zw_gcE hf (by decide)
          obtain ⟨q26, hq26, hf⟩ := zw_bdE hf
          refine zx_callV (pc := 79) (As := [.int q24]) (o := v0) (st := []) (d2 := 0) (M2 := M_X4_push) (P2 := (fun r S => r = none ∧ S = (q26, R, J))) d_X4_reckon_79 (zw_mG (List.mem_of_getElem? (i := 991) (by decide +kernel)) rfl) ce_X4_push (zw_RvK g25 rfl rfl) (Nat.le_of_ble_eq_true rfl) rfl (Nat.le_of_ble_eq_true rfl) (by decide) (c_X4_push X v0 q24 s.2 R J _ hq26 ⟨rfl, rfl⟩) ?_
          rintro _ _ ⟨rfl, rfl⟩
          show zy_V X M_X4_reckon 2 P (79 + 3) [.ref v0, .ref v1, .null, .int v3, .ref v4, .int s.1, .int x10, .null, .null] [] (q26, R, J)
          refine zv_goto (pc := 82) (tg := 131) d_X4_reckon_82 (by decide) ?_
          exact zx_weak (zw_leS (zw_leS (zw_leN (zw_leS (zw_leS (zw_leS (zw_leN (zw_leN (zw_leN zw_leZ))))))))) (j_X4_reckon_131_17_ok X P v0 v1 v3 v4 s.1 q26 R J _ hf hk)
      · refine zv_icmp_ne (pc := 44) (tg := 61) d_X4_reckon_44 (by decide) (fun q => absurd q c11) (fun _ => ?_)
        refine zv_aload_n (pc := 47) d_X4_reckon_47 rfl ?_
        refine zv_aload_n (pc := 48) d_X4_reckon_48 rfl ?_
        obtain ⟨g27, hf⟩ := zw_gcE hf (by decide)
        refine zx_getR (pc := 49) d_X4_reckon_49 lk_CutStones_Reckoner_52 (by decide) g6 g27 ?_
        refine zv_iload (pc := 52) d_X4_reckon_52 rfl ?_
        obtain ⟨i28, hf⟩ := zw_inE hf
        refine zx_iald (pc := 54) d_X4_reckon_54 g27 i28 ?_
        obtain ⟨g29, hf⟩ := zw_gcE hf (by decide)
        obtain ⟨q30, hq30, hf⟩ := zw_bdE hf
        refine zx_callV (pc := 55) (As := [.int (s.2 (R v1 13) (Int32.toNatClampNeg s.1))]) (o := v0) (st := []) (d2 := 0) (M2 := M_X4_push) (P2 := (fun r S => r = none ∧ S = (q30, R, J))) d_X4_reckon_55 (zw_mG (List.mem_of_getElem? (i := 991) (by decide +kernel)) rfl) ce_X4_push (zw_RvK g29 rfl rfl) (Nat.le_of_ble_eq_true rfl) rfl (Nat.le_of_ble_eq_true rfl) (by decide) (c_X4_push X v0 (s.2 (R v1 13) (Int32.toNatClampNeg s.1)) s.2 R J _ hq30 ⟨rfl, rfl⟩) ?_
        rintro _ _ ⟨rfl, rfl⟩
        show zy_V X M_X4_reckon 2 P (55 + 3) [.ref v0, .ref v1, .null, .int v3, .ref v4, .int s.1, .int x10, .null, .null] [] (q30, R, J)
        refine zv_goto (pc := 58) (tg := 131) d_X4_reckon_58 (by decide) ?_
        exact zx_weak (zw_leS (zw_leS (zw_leN (zw_leS (zw_leS (zw_leS (zw_leN (zw_leN (zw_leN zw_leZ))))))))) (j_X4_reckon_131_17_ok X P v0 v1 v3 v4 s.1 q30 R J _ hf hk)
theorem s_X4_reckon_17_lp (X : zw_X) (P : Option Value → aS → Prop) (v0 : Nat) (v1 : Nat) (v3 : Int32) (v4 : Nat) (R : zR) (J : zJ) (n : Nat) (s : Int32 × zI) (r : zI) (h : zw_it (s_X4_reckon_17 v0 v1 v3 v4 R) n s = some r) (hq : zy_V X M_X4_reckon 2 P 137 [.ref v0, .null, .null, .null, .null, .null, .null, .null, .null] [] (r, R, J)) : zy_V X M_X4_reckon 2 P 17 [.ref v0, .ref v1, .null, .int v3, .ref v4, .int s.1, .null, .null, .null] [] (s.2, R, J) :=
  zw_itE (A := (fun t : Int32 × zI => zy_V X M_X4_reckon 2 P 17 [.ref v0, .ref v1, .null, .int v3, .ref v4, .int t.1, .null, .null, .null] [] (t.2, R, J))) (Q := (fun r : zI => zy_V X M_X4_reckon 2 P 137 [.ref v0, .null, .null, .null, .null, .null, .null, .null, .null] [] (r, R, J))) (fun s o h1 h2 => s_X4_reckon_17_ok X P v0 v1 v3 v4 R J s o h1 h2) n s r h hq
def j_X4_reckon_137 (v0 : Nat) (I : zI) (R : zR) : Option (Int32 × zI) :=
  zw_g (zw_gc v0 4) ((f_X4_pop v0 I R).bind fun q33 => (some (q33.1, q33.2)))
theorem j_X4_reckon_137_ok (X : zw_X) (P : Option Value → aS → Prop) (v0 : Nat) (I : zI) (R : zR) (J : zJ) (o : Int32 × zI) (hf : j_X4_reckon_137 v0 I R = some o) (hk : P (some (.int o.1)) (o.2, R, J)) : zy_V X M_X4_reckon 2 P 137 [.ref v0, .null, .null, .null, .null, .null, .null, .null, .null] [] (I, R, J) := by
  unfold j_X4_reckon_137 at hf
  refine zv_aload_n (pc := 137) d_X4_reckon_137 rfl ?_
  obtain ⟨g32, hf⟩ := zw_gcE hf (by decide)
  obtain ⟨q33, hq33, hf⟩ := zw_bdE hf
  refine zx_callV (pc := 138) (As := []) (o := v0) (st := []) (d2 := 0) (M2 := M_X4_pop) (P2 := (fun r S => r = (some (.int q33.1)) ∧ S = (q33.2, R, J))) d_X4_reckon_138 (zw_mG (List.mem_of_getElem? (i := 999) (by decide +kernel)) rfl) ce_X4_pop (zw_RvK g32 rfl rfl) (Nat.le_of_ble_eq_true rfl) rfl (Nat.le_of_ble_eq_true rfl) (by decide) (c_X4_pop X v0 I R J _ hq33 ⟨rfl, rfl⟩) ?_
  rintro _ _ ⟨rfl, rfl⟩
  show zy_V X M_X4_reckon 2 P (138 + 3) [.ref v0, .null, .null, .null, .null, .null, .null, .null, .null] [.int q33.1] (q33.2, R, J)
  cases hf
  exact zx_iret (pc := 141) d_X4_reckon_141 rfl hk
def f_X4_reckon (v0 : Nat) (v1 : Nat) (v2 : Int32) (v3 : Int32) (v4 : Nat) (I : zI) (R : zR) : Option (Int32 × zI) :=
  zw_g (zw_gc v0 4) (zw_let (zw_u I v0 1 0 : zI) fun I2 => (zw_let (zw_u I2 v0 2 0 : zI) fun I3 => (zw_let ((if 0 < v2 then v2 else 0) : Int32) fun x4 => ((zw_it (s_X4_reckon_17 v0 v1 v3 v4 R) 1000000 (x4, I3)).bind fun q31 => (j_X4_reckon_137 v0 q31 R)))))
theorem c_X4_reckon (X : zw_X) (v0 : Nat) (v1 : Nat) (v2 : Int32) (v3 : Int32) (v4 : Nat) (I : zI) (R : zR) (J : zJ) {P : Option Value → aS → Prop} (o : Int32 × zI) (hf : f_X4_reckon v0 v1 v2 v3 v4 I R = some o) (hk : P (some (.int o.1)) (o.2, R, J)) : zw_C X M_X4_reckon 2 0 0 199 [.ref v0, .ref v1, .int v2, .int v3, .ref v4] (I, R, J) P := by
  show zy_V X M_X4_reckon 2 P 0 [.ref v0, .ref v1, .int v2, .int v3, .ref v4, .null, .null, .null, .null] [] (I, R, J)
  unfold f_X4_reckon at hf
  refine zv_aload_n (pc := 0) d_X4_reckon_0 rfl ?_
  refine zv_iconst (pc := 1) d_X4_reckon_1 zc_i_0 ?_
  obtain ⟨g1, hf⟩ := zw_gcE hf (by decide)
  obtain ⟨I2, eI2, hf⟩ := zw_letE hf
  refine zx_putI (pc := 2) (I2 := I2) d_X4_reckon_2 lk_CutStones_Reckoner_15 rfl g1 eI2 ?_
  refine zv_aload_n (pc := 5) d_X4_reckon_5 rfl ?_
  refine zv_iconst (pc := 6) d_X4_reckon_6 zc_i_0 ?_
  obtain ⟨I3, eI3, hf⟩ := zw_letE hf
  refine zx_putZ (pc := 7) (I2 := I3) d_X4_reckon_7 lk_CutStones_Reckoner_19 rfl (Or.inl rfl) g1 eI3 ?_
  refine zv_iconst (pc := 10) d_X4_reckon_10 zc_i_0 ?_
  refine zv_iload_n (pc := 11) d_X4_reckon_11 rfl ?_
  refine zv_max (pc := 12) d_X4_reckon_12 (zw_mG (List.mem_of_getElem? (i := 990) (by decide +kernel)) rfl) (by decide) (Nat.le_of_ble_eq_true rfl) ⟨Nat.le_refl _, Nat.le_refl _⟩ ?_
  obtain ⟨x4, ex4, hf⟩ := zw_letE hf
  rw [← ex4]
  refine zx_istore (pc := 15) (x2 := x4) (L2 := [.ref v0, .ref v1, .int v2, .int v3, .ref v4, .int x4, .null, .null, .null]) d_X4_reckon_15 (by decide) rfl rfl ?_
  obtain ⟨q31, hq31, hf⟩ := zw_bdE hf
  refine zx_weak (L' := [.ref v0, .ref v1, .null, .int v3, .ref v4, .int x4, .null, .null, .null]) (zw_leS (zw_leS (zw_leN (zw_leS (zw_leS (zw_leS (zw_leN (zw_leN (zw_leN zw_leZ))))))))) (s_X4_reckon_17_lp X P v0 v1 v3 v4 R J _ _ _ hq31 ?_)
  show zy_V X M_X4_reckon 2 P 137 [.ref v0, .null, .null, .null, .null, .null, .null, .null, .null] [] (q31, R, J)
  exact zx_weak (zw_leS (zw_leN (zw_leN (zw_leN (zw_leN (zw_leN (zw_leN (zw_leN (zw_leN zw_leZ))))))))) (j_X4_reckon_137_ok X P v0 q31 R J _ hf hk)
abbrev M_X6_sumUp : zw_M := (⟨"CutStones$Shine", "sumUp", "(LCutStones$Drawing;)V"⟩, prog_8_method_5_code, 4, (Option.none : Option Jvm.ClassFile.FieldType))
theorem d_X6_sumUp_0 : decode M_X6_sumUp.2.1 0 = .ok (.iconst 0, 1) := by decide +kernel
theorem d_X6_sumUp_1 : decode M_X6_sumUp.2.1 1 = .ok (.istore_n 2, 1) := by decide +kernel
theorem d_X6_sumUp_2 : decode M_X6_sumUp.2.1 2 = .ok (.iconst 0, 1) := by decide +kernel
theorem d_X6_sumUp_3 : decode M_X6_sumUp.2.1 3 = .ok (.istore_n 3, 1) := by decide +kernel
theorem d_X6_sumUp_4 : decode M_X6_sumUp.2.1 4 = .ok (.iload_n 3, 1) := by decide +kernel
theorem d_X6_sumUp_5 : decode M_X6_sumUp.2.1 5 = .ok (.iconst 4, 1) := by decide +kernel
theorem d_X6_sumUp_6 : decode M_X6_sumUp.2.1 6 = .ok (.if_icmp .ge 21, 3) := by decide +kernel
theorem d_X6_sumUp_9 : decode M_X6_sumUp.2.1 9 = .ok (.iload_n 2, 1) := by decide +kernel
theorem d_X6_sumUp_10 : decode M_X6_sumUp.2.1 10 = .ok (.aload_n 0, 1) := by decide +kernel
theorem d_X6_sumUp_11 : decode M_X6_sumUp.2.1 11 = .ok (.getfield 18, 3) := by decide +kernel
theorem d_X6_sumUp_14 : decode M_X6_sumUp.2.1 14 = .ok (.getfield 66, 3) := by decide +kernel
theorem d_X6_sumUp_17 : decode M_X6_sumUp.2.1 17 = .ok (.iload_n 3, 1) := by decide +kernel
theorem d_X6_sumUp_18 : decode M_X6_sumUp.2.1 18 = .ok (.iaload, 1) := by decide +kernel
theorem d_X6_sumUp_19 : decode M_X6_sumUp.2.1 19 = .ok (.iadd, 1) := by decide +kernel
theorem d_X6_sumUp_20 : decode M_X6_sumUp.2.1 20 = .ok (.istore_n 2, 1) := by decide +kernel
theorem d_X6_sumUp_21 : decode M_X6_sumUp.2.1 21 = .ok (.iinc 3 1, 3) := by decide +kernel
theorem d_X6_sumUp_24 : decode M_X6_sumUp.2.1 24 = .ok (.goto (-20), 3) := by decide +kernel
theorem d_X6_sumUp_27 : decode M_X6_sumUp.2.1 27 = .ok (.aload_n 0, 1) := by decide +kernel
theorem d_X6_sumUp_28 : decode M_X6_sumUp.2.1 28 = .ok (.getfield 9, 3) := by decide +kernel
theorem d_X6_sumUp_31 : decode M_X6_sumUp.2.1 31 = .ok (.iconst 0, 1) := by decide +kernel
theorem d_X6_sumUp_32 : decode M_X6_sumUp.2.1 32 = .ok (.aload_n 0, 1) := by decide +kernel
theorem d_X6_sumUp_33 : decode M_X6_sumUp.2.1 33 = .ok (.getfield 18, 3) := by decide +kernel
theorem d_X6_sumUp_36 : decode M_X6_sumUp.2.1 36 = .ok (.getfield 66, 3) := by decide +kernel
theorem d_X6_sumUp_39 : decode M_X6_sumUp.2.1 39 = .ok (.iconst 0, 1) := by decide +kernel
theorem d_X6_sumUp_40 : decode M_X6_sumUp.2.1 40 = .ok (.iaload, 1) := by decide +kernel
theorem d_X6_sumUp_41 : decode M_X6_sumUp.2.1 41 = .ok (.iastore, 1) := by decide +kernel
theorem d_X6_sumUp_42 : decode M_X6_sumUp.2.1 42 = .ok (.aload_n 0, 1) := by decide +kernel
theorem d_X6_sumUp_43 : decode M_X6_sumUp.2.1 43 = .ok (.getfield 9, 3) := by decide +kernel
theorem d_X6_sumUp_46 : decode M_X6_sumUp.2.1 46 = .ok (.iconst 1, 1) := by decide +kernel
theorem d_X6_sumUp_47 : decode M_X6_sumUp.2.1 47 = .ok (.iload_n 2, 1) := by decide +kernel
theorem d_X6_sumUp_48 : decode M_X6_sumUp.2.1 48 = .ok (.aload_n 0, 1) := by decide +kernel
theorem d_X6_sumUp_49 : decode M_X6_sumUp.2.1 49 = .ok (.getfield 18, 3) := by decide +kernel
theorem d_X6_sumUp_52 : decode M_X6_sumUp.2.1 52 = .ok (.getfield 66, 3) := by decide +kernel
theorem d_X6_sumUp_55 : decode M_X6_sumUp.2.1 55 = .ok (.iconst 0, 1) := by decide +kernel
theorem d_X6_sumUp_56 : decode M_X6_sumUp.2.1 56 = .ok (.iaload, 1) := by decide +kernel
theorem d_X6_sumUp_57 : decode M_X6_sumUp.2.1 57 = .ok (.isub, 1) := by decide +kernel
theorem d_X6_sumUp_58 : decode M_X6_sumUp.2.1 58 = .ok (.iastore, 1) := by decide +kernel
theorem d_X6_sumUp_59 : decode M_X6_sumUp.2.1 59 = .ok (.aload_n 0, 1) := by decide +kernel
theorem d_X6_sumUp_60 : decode M_X6_sumUp.2.1 60 = .ok (.getfield 9, 3) := by decide +kernel
theorem d_X6_sumUp_63 : decode M_X6_sumUp.2.1 63 = .ok (.iconst 2, 1) := by decide +kernel
theorem d_X6_sumUp_64 : decode M_X6_sumUp.2.1 64 = .ok (.aload_n 0, 1) := by decide +kernel
theorem d_X6_sumUp_65 : decode M_X6_sumUp.2.1 65 = .ok (.aload_n 1, 1) := by decide +kernel
theorem d_X6_sumUp_66 : decode M_X6_sumUp.2.1 66 = .ok (.invokevirtual 67, 3) := by decide +kernel
theorem d_X6_sumUp_69 : decode M_X6_sumUp.2.1 69 = .ok (.iastore, 1) := by decide +kernel
theorem d_X6_sumUp_70 : decode M_X6_sumUp.2.1 70 = .ok (.aload_n 0, 1) := by decide +kernel
theorem d_X6_sumUp_71 : decode M_X6_sumUp.2.1 71 = .ok (.getfield 9, 3) := by decide +kernel
theorem d_X6_sumUp_74 : decode M_X6_sumUp.2.1 74 = .ok (.iconst 3, 1) := by decide +kernel
theorem d_X6_sumUp_75 : decode M_X6_sumUp.2.1 75 = .ok (.aload_n 0, 1) := by decide +kernel
theorem d_X6_sumUp_76 : decode M_X6_sumUp.2.1 76 = .ok (.invokevirtual 71, 3) := by decide +kernel
theorem d_X6_sumUp_79 : decode M_X6_sumUp.2.1 79 = .ok (.iastore, 1) := by decide +kernel
theorem d_X6_sumUp_80 : decode M_X6_sumUp.2.1 80 = .ok (.aload_n 0, 1) := by decide +kernel
theorem d_X6_sumUp_81 : decode M_X6_sumUp.2.1 81 = .ok (.getfield 9, 3) := by decide +kernel
theorem d_X6_sumUp_84 : decode M_X6_sumUp.2.1 84 = .ok (.iconst 4, 1) := by decide +kernel
theorem d_X6_sumUp_85 : decode M_X6_sumUp.2.1 85 = .ok (.aload_n 0, 1) := by decide +kernel
theorem d_X6_sumUp_86 : decode M_X6_sumUp.2.1 86 = .ok (.getfield 18, 3) := by decide +kernel
theorem d_X6_sumUp_89 : decode M_X6_sumUp.2.1 89 = .ok (.getfield 75, 3) := by decide +kernel
theorem d_X6_sumUp_92 : decode M_X6_sumUp.2.1 92 = .ok (.iastore, 1) := by decide +kernel
theorem d_X6_sumUp_93 : decode M_X6_sumUp.2.1 93 = .ok (.aload_n 0, 1) := by decide +kernel
theorem d_X6_sumUp_94 : decode M_X6_sumUp.2.1 94 = .ok (.getfield 9, 3) := by decide +kernel
theorem d_X6_sumUp_97 : decode M_X6_sumUp.2.1 97 = .ok (.iconst 5, 1) := by decide +kernel
theorem d_X6_sumUp_98 : decode M_X6_sumUp.2.1 98 = .ok (.aload_n 0, 1) := by decide +kernel
theorem d_X6_sumUp_99 : decode M_X6_sumUp.2.1 99 = .ok (.getfield 18, 3) := by decide +kernel
theorem d_X6_sumUp_102 : decode M_X6_sumUp.2.1 102 = .ok (.getfield 66, 3) := by decide +kernel
theorem d_X6_sumUp_105 : decode M_X6_sumUp.2.1 105 = .ok (.iconst 4, 1) := by decide +kernel
theorem d_X6_sumUp_106 : decode M_X6_sumUp.2.1 106 = .ok (.iaload, 1) := by decide +kernel
theorem d_X6_sumUp_107 : decode M_X6_sumUp.2.1 107 = .ok (.iastore, 1) := by decide +kernel
theorem d_X6_sumUp_108 : decode M_X6_sumUp.2.1 108 = .ok (.aload_n 0, 1) := by decide +kernel
theorem d_X6_sumUp_109 : decode M_X6_sumUp.2.1 109 = .ok (.getfield 9, 3) := by decide +kernel
theorem d_X6_sumUp_112 : decode M_X6_sumUp.2.1 112 = .ok (.bipush 6, 2) := by decide +kernel
theorem d_X6_sumUp_114 : decode M_X6_sumUp.2.1 114 = .ok (.aload_n 0, 1) := by decide +kernel
theorem d_X6_sumUp_115 : decode M_X6_sumUp.2.1 115 = .ok (.getfield 18, 3) := by decide +kernel
theorem d_X6_sumUp_118 : decode M_X6_sumUp.2.1 118 = .ok (.getfield 66, 3) := by decide +kernel
theorem d_X6_sumUp_121 : decode M_X6_sumUp.2.1 121 = .ok (.iconst 5, 1) := by decide +kernel
theorem d_X6_sumUp_122 : decode M_X6_sumUp.2.1 122 = .ok (.iaload, 1) := by decide +kernel
theorem d_X6_sumUp_123 : decode M_X6_sumUp.2.1 123 = .ok (.iastore, 1) := by decide +kernel
theorem d_X6_sumUp_124 : decode M_X6_sumUp.2.1 124 = .ok (.aload_n 0, 1) := by decide +kernel
theorem d_X6_sumUp_125 : decode M_X6_sumUp.2.1 125 = .ok (.getfield 9, 3) := by decide +kernel
theorem d_X6_sumUp_128 : decode M_X6_sumUp.2.1 128 = .ok (.bipush 7, 2) := by decide +kernel
theorem d_X6_sumUp_130 : decode M_X6_sumUp.2.1 130 = .ok (.aload_n 0, 1) := by decide +kernel
theorem d_X6_sumUp_131 : decode M_X6_sumUp.2.1 131 = .ok (.getfield 18, 3) := by decide +kernel
theorem d_X6_sumUp_134 : decode M_X6_sumUp.2.1 134 = .ok (.getfield 66, 3) := by decide +kernel
theorem d_X6_sumUp_137 : decode M_X6_sumUp.2.1 137 = .ok (.bipush 6, 2) := by decide +kernel
theorem d_X6_sumUp_139 : decode M_X6_sumUp.2.1 139 = .ok (.iaload, 1) := by decide +kernel
theorem d_X6_sumUp_140 : decode M_X6_sumUp.2.1 140 = .ok (.iastore, 1) := by decide +kernel
theorem d_X6_sumUp_141 : decode M_X6_sumUp.2.1 141 = .ok (.return_, 1) := by decide +kernel
theorem ce_X6_sumUp : zw_CeV M_X6_sumUp 1 := ⟨⟨⟨by decide +kernel, by decide +kernel, by decide +kernel⟩, (zw_mG (List.mem_of_getElem? (i := 950) (by decide +kernel)) rfl), (zw_mG (List.mem_of_getElem? (i := 104) (by decide +kernel)) rfl), by decide, by decide +kernel⟩, (zw_mG (List.mem_of_getElem? (i := 949) (by decide +kernel)) rfl), (zw_mG (List.mem_of_getElem? (i := 31) (by decide +kernel)) rfl)⟩
def s_X6_sumUp_4 (v0 : Nat) (v1 : Nat) (I : zI) (R : zR) (s : Int32 × Int32) : Option ((Int32 × Int32) ⊕ (Int32)) :=
  if 4 ≤ s.2 then some (.inr s.1) else zw_g (zw_gc v0 6) (zw_g (zw_gc (R v0 1) 2) (zw_g (zw_gc (R (R v0 1) 2) 13) (zw_g (zw_in s.2 (zw_SH (R (R v0 1) 2)).2) (zw_let ((s.1 + (I (R (R v0 1) 2) (Int32.toNatClampNeg s.2))) : Int32) fun x6 => (zw_let (s.2 + 1 : Int32) fun x7 => (some (.inl (x6, x7))))))))
theorem s_X6_sumUp_4_ok (X : zw_X) (P : Option Value → aS → Prop) (v0 : Nat) (v1 : Nat) (I : zI) (R : zR) (J : zJ) (s : Int32 × Int32) (o : (Int32 × Int32) ⊕ (Int32)) (hf : s_X6_sumUp_4 v0 v1 I R s = some o) (hk : (zw_se (fun t => zy_V X M_X6_sumUp 2 P 4 [.ref v0, .ref v1, .int t.1, .int t.2] [] (I, R, J)) (fun r => zy_V X M_X6_sumUp 2 P 27 [.ref v0, .ref v1, .int r, .null] [] (I, R, J)) o)) : zy_V X M_X6_sumUp 2 P 4 [.ref v0, .ref v1, .int s.1, .int s.2] [] (I, R, J) := by
  unfold s_X6_sumUp_4 at hf
  refine zv_iload_n (pc := 4) d_X6_sumUp_4 rfl ?_
  refine zv_iconst (pc := 5) d_X6_sumUp_5 zc_i_4 ?_
  rcases zw_ifE hf with ⟨c1, hf⟩ | ⟨c1, hf⟩
  · refine zv_icmp_ge (pc := 6) (tg := 27) d_X6_sumUp_6 (by decide) (fun _ => ?_) (fun q => absurd c1 q)
    cases hf
    exact zx_weak (zw_leS (zw_leS (zw_leS (zw_leN zw_leZ)))) hk
  · refine zv_icmp_ge (pc := 6) (tg := 27) d_X6_sumUp_6 (by decide) (fun q => absurd q c1) (fun _ => ?_)
    refine zv_iload_n (pc := 9) d_X6_sumUp_9 rfl ?_
    refine zv_aload_n (pc := 10) d_X6_sumUp_10 rfl ?_
    obtain ⟨g2, hf⟩ := zw_gcE hf (by decide)
    obtain ⟨g3, hf⟩ := zw_gcE hf (by decide)
    refine zx_getR (pc := 11) d_X6_sumUp_11 lk_CutStones_Shine_18 (by decide) g2 g3 ?_
    obtain ⟨g4, hf⟩ := zw_gcE hf (by decide)
    refine zx_getR (pc := 14) d_X6_sumUp_14 lk_CutStones_Shine_66 (by decide) g3 g4 ?_
    refine zv_iload_n (pc := 17) d_X6_sumUp_17 rfl ?_
    obtain ⟨i5, hf⟩ := zw_inE hf
    refine zx_iald (pc := 18) d_X6_sumUp_18 g4 i5 ?_
    refine zv_iadd (pc := 19) d_X6_sumUp_19 ?_
    obtain ⟨x6, ex6, hf⟩ := zw_letE hf
    refine zx_istore_n (pc := 20) (x2 := x6) (L2 := [.ref v0, .ref v1, .int x6, .int s.2]) d_X6_sumUp_20 (by decide) ex6 rfl ?_
    obtain ⟨x7, ex7, hf⟩ := zw_letE hf
    refine zx_iinc (pc := 21) (x2 := x7) (L2 := [.ref v0, .ref v1, .int x6, .int x7]) d_X6_sumUp_21 (by decide) rfl zc_i_1 ex7 rfl ?_
    refine zv_goto (pc := 24) (tg := 4) d_X6_sumUp_24 (by decide) ?_
    cases hf
    exact zx_weak (zw_leS (zw_leS (zw_leS (zw_leS zw_leZ)))) hk
theorem s_X6_sumUp_4_lp (X : zw_X) (P : Option Value → aS → Prop) (v0 : Nat) (v1 : Nat) (I : zI) (R : zR) (J : zJ) (n : Nat) (s : Int32 × Int32) (r : Int32) (h : zw_it (s_X6_sumUp_4 v0 v1 I R) n s = some r) (hq : zy_V X M_X6_sumUp 2 P 27 [.ref v0, .ref v1, .int r, .null] [] (I, R, J)) : zy_V X M_X6_sumUp 2 P 4 [.ref v0, .ref v1, .int s.1, .int s.2] [] (I, R, J) :=
  zw_itE (A := (fun t : Int32 × Int32 => zy_V X M_X6_sumUp 2 P 4 [.ref v0, .ref v1, .int t.1, .int t.2] [] (I, R, J))) (Q := (fun r : Int32 => zy_V X M_X6_sumUp 2 P 27 [.ref v0, .ref v1, .int r, .null] [] (I, R, J))) (fun s o h1 h2 => s_X6_sumUp_4_ok X P v0 v1 I R J s o h1 h2) n s r h hq
def f_X6_sumUp (v0 : Nat) (v1 : Nat) (I : zI) (R : zR) : Option (zI) :=
  (zw_it (s_X6_sumUp_4 v0 v1 I R) 1000000 (0, 0)).bind fun q8 => (zw_g (zw_gc v0 6) (zw_g (zw_gc (R v0 0) 13) (zw_g (zw_gc (R v0 1) 2) (zw_g (zw_gc (R (R v0 1) 2) 13) (zw_g (zw_in 0 (zw_SH (R (R v0 1) 2)).2) (zw_g (zw_in 0 (zw_SH (R v0 0)).2) (zw_let (zw_u I (R v0 0) (Int32.toNatClampNeg 0) (I (R (R v0 1) 2) (Int32.toNatClampNeg 0)) : zI) fun I15 => (zw_g (zw_in 0 (zw_SH (R (R v0 1) 2)).2) (zw_g (zw_in 1 (zw_SH (R v0 0)).2) (zw_let (zw_u I15 (R v0 0) (Int32.toNatClampNeg 1) (q8 - (I15 (R (R v0 1) 2) (Int32.toNatClampNeg 0))) : zI) fun I18 => ((f_X6_darkColumns v0 v1 I18 R).bind fun q19 => (zw_g (zw_in 2 (zw_SH (R v0 0)).2) (zw_let (zw_u I18 (R v0 0) (Int32.toNatClampNeg 2) q19 : zI) fun I21 => ((f_X6_unevenness v0 I21 R).bind fun q22 => (zw_g (zw_in 3 (zw_SH (R v0 0)).2) (zw_let (zw_u I21 (R v0 0) (Int32.toNatClampNeg 3) q22 : zI) fun I24 => (zw_g (zw_in 4 (zw_SH (R v0 0)).2) (zw_let (zw_u I24 (R v0 0) (Int32.toNatClampNeg 4) (I24 (R v0 1) 4) : zI) fun I26 => (zw_g (zw_in 4 (zw_SH (R (R v0 1) 2)).2) (zw_g (zw_in 5 (zw_SH (R v0 0)).2) (zw_let (zw_u I26 (R v0 0) (Int32.toNatClampNeg 5) (I26 (R (R v0 1) 2) (Int32.toNatClampNeg 4)) : zI) fun I29 => (zw_g (zw_in 5 (zw_SH (R (R v0 1) 2)).2) (zw_g (zw_in 6 (zw_SH (R v0 0)).2) (zw_let (zw_u I29 (R v0 0) (Int32.toNatClampNeg 6) (I29 (R (R v0 1) 2) (Int32.toNatClampNeg 5)) : zI) fun I32 => (zw_g (zw_in 6 (zw_SH (R (R v0 1) 2)).2) (zw_g (zw_in 7 (zw_SH (R v0 0)).2) (zw_let (zw_u I32 (R v0 0) (Int32.toNatClampNeg 7) (I32 (R (R v0 1) 2) (Int32.toNatClampNeg 6)) : zI) fun I35 => (some I35))))))))))))))))))))))))))))
theorem c_X6_sumUp (X : zw_X) (v0 : Nat) (v1 : Nat) (I : zI) (R : zR) (J : zJ) {P : Option Value → aS → Prop} (o : zI) (hf : f_X6_sumUp v0 v1 I R = some o) (hk : P none (o, R, J)) : zw_C X M_X6_sumUp 2 0 0 199 [.ref v0, .ref v1] (I, R, J) P := by
  show zy_V X M_X6_sumUp 2 P 0 [.ref v0, .ref v1, .null, .null] [] (I, R, J)
  unfold f_X6_sumUp at hf
  refine zv_iconst (pc := 0) d_X6_sumUp_0 zc_i_0 ?_
  refine zx_istore_n (pc := 1) (x2 := 0) (L2 := [.ref v0, .ref v1, .int 0, .null]) d_X6_sumUp_1 (by decide) rfl rfl ?_
  refine zv_iconst (pc := 2) d_X6_sumUp_2 zc_i_0 ?_
  refine zx_istore_n (pc := 3) (x2 := 0) (L2 := [.ref v0, .ref v1, .int 0, .int 0]) d_X6_sumUp_3 (by decide) rfl rfl ?_
  obtain ⟨q8, hq8, hf⟩ := zw_bdE hf
  refine zx_weak (L' := [.ref v0, .ref v1, .int 0, .int 0]) (zw_leS (zw_leS (zw_leS (zw_leS zw_leZ)))) (s_X6_sumUp_4_lp X P v0 v1 I R J _ _ _ hq8 ?_)
  show zy_V X M_X6_sumUp 2 P 27 [.ref v0, .ref v1, .int q8, .null] [] (I, R, J)
  refine zv_aload_n (pc := 27) d_X6_sumUp_27 rfl ?_
  obtain ⟨g9, hf⟩ := zw_gcE hf (by decide)
  obtain ⟨g10, hf⟩ := zw_gcE hf (by decide)
  refine zx_getR (pc := 28) d_X6_sumUp_28 lk_CutStones_Shine_9 (by decide) g9 g10 ?_
  refine zv_iconst (pc := 31) d_X6_sumUp_31 zc_i_0 ?_
  refine zv_aload_n (pc := 32) d_X6_sumUp_32 rfl ?_
  obtain ⟨g11, hf⟩ := zw_gcE hf (by decide)
  refine zx_getR (pc := 33) d_X6_sumUp_33 lk_CutStones_Shine_18 (by decide) g9 g11 ?_
  obtain ⟨g12, hf⟩ := zw_gcE hf (by decide)
  refine zx_getR (pc := 36) d_X6_sumUp_36 lk_CutStones_Shine_66 (by decide) g11 g12 ?_
  refine zv_iconst (pc := 39) d_X6_sumUp_39 zc_i_0 ?_
  obtain ⟨i13, hf⟩ := zw_inE hf
  refine zx_iald (pc := 40) d_X6_sumUp_40 g12 i13 ?_
  obtain ⟨i14, hf⟩ := zw_inE hf
  obtain ⟨I15, eI15, hf⟩ := zw_letE hf
  refine zx_iast (pc := 41) (I2 := I15) d_X6_sumUp_41 g10 i14 eI15 ?_
  refine zv_aload_n (pc := 42) d_X6_sumUp_42 rfl ?_
  refine zx_getR (pc := 43) d_X6_sumUp_43 lk_CutStones_Shine_9 (by decide) g9 g10 ?_
  refine zv_iconst (pc := 46) d_X6_sumUp_46 zc_i_1 ?_
  refine zv_iload_n (pc := 47) d_X6_sumUp_47 rfl ?_
  refine zv_aload_n (pc := 48) d_X6_sumUp_48 rfl ?_
  refine zx_getR (pc := 49) d_X6_sumUp_49 lk_CutStones_Shine_18 (by decide) g9 g11 ?_
  refine zx_getR (pc := 52) d_X6_sumUp_52 lk_CutStones_Shine_66 (by decide) g11 g12 ?_
  refine zv_iconst (pc := 55) d_X6_sumUp_55 zc_i_0 ?_
  obtain ⟨i16, hf⟩ := zw_inE hf
  refine zx_iald (pc := 56) d_X6_sumUp_56 g12 i16 ?_
  refine zv_isub (pc := 57) d_X6_sumUp_57 ?_
  obtain ⟨i17, hf⟩ := zw_inE hf
  obtain ⟨I18, eI18, hf⟩ := zw_letE hf
  refine zx_iast (pc := 58) (I2 := I18) d_X6_sumUp_58 g10 i17 eI18 ?_
  refine zv_aload_n (pc := 59) d_X6_sumUp_59 rfl ?_
  refine zx_getR (pc := 60) d_X6_sumUp_60 lk_CutStones_Shine_9 (by decide) g9 g10 ?_
  refine zv_iconst (pc := 63) d_X6_sumUp_63 zc_i_2 ?_
  refine zv_aload_n (pc := 64) d_X6_sumUp_64 rfl ?_
  refine zv_aload_n (pc := 65) d_X6_sumUp_65 rfl ?_
  obtain ⟨q19, hq19, hf⟩ := zw_bdE hf
  refine zx_callV (pc := 66) (As := [.ref v1]) (o := v0) (st := [.int 2, .ref (R v0 0)]) (d2 := 1) (M2 := M_X6_darkColumns) (P2 := (fun r S => r = (some (.int q19)) ∧ S = (I18, R, J))) d_X6_sumUp_66 (zw_mG (List.mem_of_getElem? (i := 951) (by decide +kernel)) rfl) ce_X6_darkColumns (zw_RvK g9 rfl rfl) (Nat.le_of_ble_eq_true rfl) rfl (Nat.le_of_ble_eq_true rfl) (by decide) (c_X6_darkColumns X v0 v1 I18 R J _ hq19 ⟨rfl, rfl⟩) ?_
  rintro _ _ ⟨rfl, rfl⟩
  show zy_V X M_X6_sumUp 2 P (66 + 3) [.ref v0, .ref v1, .int q8, .null] [.int q19, .int 2, .ref (R v0 0)] (I18, R, J)
  obtain ⟨i20, hf⟩ := zw_inE hf
  obtain ⟨I21, eI21, hf⟩ := zw_letE hf
  refine zx_iast (pc := 69) (I2 := I21) d_X6_sumUp_69 g10 i20 eI21 ?_
  refine zv_aload_n (pc := 70) d_X6_sumUp_70 rfl ?_
  refine zx_getR (pc := 71) d_X6_sumUp_71 lk_CutStones_Shine_9 (by decide) g9 g10 ?_
  refine zv_iconst (pc := 74) d_X6_sumUp_74 zc_i_3 ?_
  refine zv_aload_n (pc := 75) d_X6_sumUp_75 rfl ?_
  obtain ⟨q22, hq22, hf⟩ := zw_bdE hf
  refine zx_callV (pc := 76) (As := []) (o := v0) (st := [.int 3, .ref (R v0 0)]) (d2 := 1) (M2 := M_X6_unevenness) (P2 := (fun r S => r = (some (.int q22)) ∧ S = (I21, R, J))) d_X6_sumUp_76 (zw_mG (List.mem_of_getElem? (i := 959) (by decide +kernel)) rfl) ce_X6_unevenness (zw_RvK g9 rfl rfl) (Nat.le_of_ble_eq_true rfl) rfl (Nat.le_of_ble_eq_true rfl) (by decide) (c_X6_unevenness X v0 I21 R J _ hq22 ⟨rfl, rfl⟩) ?_
  rintro _ _ ⟨rfl, rfl⟩
  show zy_V X M_X6_sumUp 2 P (76 + 3) [.ref v0, .ref v1, .int q8, .null] [.int q22, .int 3, .ref (R v0 0)] (I21, R, J)
  obtain ⟨i23, hf⟩ := zw_inE hf
  obtain ⟨I24, eI24, hf⟩ := zw_letE hf
  refine zx_iast (pc := 79) (I2 := I24) d_X6_sumUp_79 g10 i23 eI24 ?_
  refine zv_aload_n (pc := 80) d_X6_sumUp_80 rfl ?_
  refine zx_getR (pc := 81) d_X6_sumUp_81 lk_CutStones_Shine_9 (by decide) g9 g10 ?_
  refine zv_iconst (pc := 84) d_X6_sumUp_84 zc_i_4 ?_
  refine zv_aload_n (pc := 85) d_X6_sumUp_85 rfl ?_
  refine zx_getR (pc := 86) d_X6_sumUp_86 lk_CutStones_Shine_18 (by decide) g9 g11 ?_
  refine zx_getI (pc := 89) d_X6_sumUp_89 lk_CutStones_Shine_75 (by decide) g11 ?_
  obtain ⟨i25, hf⟩ := zw_inE hf
  obtain ⟨I26, eI26, hf⟩ := zw_letE hf
  refine zx_iast (pc := 92) (I2 := I26) d_X6_sumUp_92 g10 i25 eI26 ?_
  refine zv_aload_n (pc := 93) d_X6_sumUp_93 rfl ?_
  refine zx_getR (pc := 94) d_X6_sumUp_94 lk_CutStones_Shine_9 (by decide) g9 g10 ?_
  refine zv_iconst (pc := 97) d_X6_sumUp_97 zc_i_5 ?_
  refine zv_aload_n (pc := 98) d_X6_sumUp_98 rfl ?_
  refine zx_getR (pc := 99) d_X6_sumUp_99 lk_CutStones_Shine_18 (by decide) g9 g11 ?_
  refine zx_getR (pc := 102) d_X6_sumUp_102 lk_CutStones_Shine_66 (by decide) g11 g12 ?_
  refine zv_iconst (pc := 105) d_X6_sumUp_105 zc_i_4 ?_
  obtain ⟨i27, hf⟩ := zw_inE hf
  refine zx_iald (pc := 106) d_X6_sumUp_106 g12 i27 ?_
  obtain ⟨i28, hf⟩ := zw_inE hf
  obtain ⟨I29, eI29, hf⟩ := zw_letE hf
  refine zx_iast (pc := 107) (I2 := I29) d_X6_sumUp_107 g10 i28 eI29 ?_
  refine zv_aload_n (pc := 108) d_X6_sumUp_108 rfl ?_
  refine zx_getR (pc := 109) d_X6_sumUp_109 lk_CutStones_Shine_9 (by decide) g9 g10 ?_
  refine zv_bipush (pc := 112) d_X6_sumUp_112 zc_b_6 ?_
  refine zv_aload_n (pc := 114) d_X6_sumUp_114 rfl ?_
  refine zx_getR (pc := 115) d_X6_sumUp_115 lk_CutStones_Shine_18 (by decide) g9 g11 ?_
  refine zx_getR (pc := 118) d_X6_sumUp_118 lk_CutStones_Shine_66 (by decide) g11 g12 ?_
  refine zv_iconst (pc := 121) d_X6_sumUp_121 zc_i_5 ?_
  obtain ⟨i30, hf⟩ := zw_inE hf
  refine zx_iald (pc := 122) d_X6_sumUp_122 g12 i30 ?_
  obtain ⟨i31, hf⟩ := zw_inE hf
  obtain ⟨I32, eI32, hf⟩ := zw_letE hf
  refine zx_iast (pc := 123) (I2 := I32) d_X6_sumUp_123 g10 i31 eI32 ?_
  refine zv_aload_n (pc := 124) d_X6_sumUp_124 rfl ?_
  refine zx_getR (pc := 125) d_X6_sumUp_125 lk_CutStones_Shine_9 (by decide) g9 g10 ?_
  refine zv_bipush (pc := 128) d_X6_sumUp_128 zc_b_7 ?_
  refine zv_aload_n (pc := 130) d_X6_sumUp_130 rfl ?_
  refine zx_getR (pc := 131) d_X6_sumUp_131 lk_CutStones_Shine_18 (by decide) g9 g11 ?_
  refine zx_getR (pc := 134) d_X6_sumUp_134 lk_CutStones_Shine_66 (by decide) g11 g12 ?_
  refine zv_bipush (pc := 137) d_X6_sumUp_137 zc_b_6 ?_
  obtain ⟨i33, hf⟩ := zw_inE hf
  refine zx_iald (pc := 139) d_X6_sumUp_139 g12 i33 ?_
  obtain ⟨i34, hf⟩ := zw_inE hf
  obtain ⟨I35, eI35, hf⟩ := zw_letE hf
  refine zx_iast (pc := 140) (I2 := I35) d_X6_sumUp_140 g10 i34 eI35 ?_
  cases hf
  exact zx_vret (pc := 141) d_X6_sumUp_141 rfl hk
abbrev M_X10_count : zw_M := (⟨"CutStones", "count", "(I)I"⟩, prog_1_method_28_code, 2, (Option.some Jvm.ClassFile.FieldType.int))
theorem d_X10_count_0 : decode M_X10_count.2.1 0 = .ok (.iload_n 1, 1) := by decide +kernel
theorem d_X10_count_1 : decode M_X10_count.2.1 1 = .ok (.tableswitch 99 0 6 #[43, 51, 59, 67, 75, 83, 91], 43) := by decide +kernel
theorem d_X10_count_44 : decode M_X10_count.2.1 44 = .ok (.aload_n 0, 1) := by decide +kernel
theorem d_X10_count_45 : decode M_X10_count.2.1 45 = .ok (.getfield 26, 3) := by decide +kernel
theorem d_X10_count_48 : decode M_X10_count.2.1 48 = .ok (.getfield 267, 3) := by decide +kernel
theorem d_X10_count_51 : decode M_X10_count.2.1 51 = .ok (.ireturn, 1) := by decide +kernel
theorem d_X10_count_52 : decode M_X10_count.2.1 52 = .ok (.aload_n 0, 1) := by decide +kernel
theorem d_X10_count_53 : decode M_X10_count.2.1 53 = .ok (.getfield 26, 3) := by decide +kernel
theorem d_X10_count_56 : decode M_X10_count.2.1 56 = .ok (.getfield 261, 3) := by decide +kernel
theorem d_X10_count_59 : decode M_X10_count.2.1 59 = .ok (.ireturn, 1) := by decide +kernel
theorem d_X10_count_60 : decode M_X10_count.2.1 60 = .ok (.aload_n 0, 1) := by decide +kernel
theorem d_X10_count_61 : decode M_X10_count.2.1 61 = .ok (.getfield 26, 3) := by decide +kernel
theorem d_X10_count_64 : decode M_X10_count.2.1 64 = .ok (.getfield 270, 3) := by decide +kernel
theorem d_X10_count_67 : decode M_X10_count.2.1 67 = .ok (.ireturn, 1) := by decide +kernel
theorem d_X10_count_68 : decode M_X10_count.2.1 68 = .ok (.aload_n 0, 1) := by decide +kernel
theorem d_X10_count_69 : decode M_X10_count.2.1 69 = .ok (.getfield 26, 3) := by decide +kernel
theorem d_X10_count_72 : decode M_X10_count.2.1 72 = .ok (.getfield 273, 3) := by decide +kernel
theorem d_X10_count_75 : decode M_X10_count.2.1 75 = .ok (.ireturn, 1) := by decide +kernel
theorem d_X10_count_76 : decode M_X10_count.2.1 76 = .ok (.aload_n 0, 1) := by decide +kernel
theorem d_X10_count_77 : decode M_X10_count.2.1 77 = .ok (.getfield 26, 3) := by decide +kernel
theorem d_X10_count_80 : decode M_X10_count.2.1 80 = .ok (.getfield 276, 3) := by decide +kernel
theorem d_X10_count_83 : decode M_X10_count.2.1 83 = .ok (.ireturn, 1) := by decide +kernel
theorem d_X10_count_84 : decode M_X10_count.2.1 84 = .ok (.aload_n 0, 1) := by decide +kernel
theorem d_X10_count_85 : decode M_X10_count.2.1 85 = .ok (.getfield 71, 3) := by decide +kernel
theorem d_X10_count_88 : decode M_X10_count.2.1 88 = .ok (.getfield 279, 3) := by decide +kernel
theorem d_X10_count_91 : decode M_X10_count.2.1 91 = .ok (.ireturn, 1) := by decide +kernel
theorem d_X10_count_92 : decode M_X10_count.2.1 92 = .ok (.aload_n 0, 1) := by decide +kernel
theorem d_X10_count_93 : decode M_X10_count.2.1 93 = .ok (.getfield 10, 3) := by decide +kernel
theorem d_X10_count_96 : decode M_X10_count.2.1 96 = .ok (.getfield 88, 3) := by decide +kernel
theorem d_X10_count_99 : decode M_X10_count.2.1 99 = .ok (.ireturn, 1) := by decide +kernel
theorem d_X10_count_100 : decode M_X10_count.2.1 100 = .ok (.aload_n 0, 1) := by decide +kernel
theorem d_X10_count_101 : decode M_X10_count.2.1 101 = .ok (.iload_n 1, 1) := by decide +kernel
theorem d_X10_count_102 : decode M_X10_count.2.1 102 = .ok (.invokevirtual 282, 3) := by decide +kernel
theorem d_X10_count_105 : decode M_X10_count.2.1 105 = .ok (.ireturn, 1) := by decide +kernel
theorem ce_X10_count : zw_CeV M_X10_count 1 := ⟨⟨⟨by decide +kernel, by decide +kernel, by decide +kernel⟩, (zw_mG (List.mem_of_getElem? (i := 1142) (by decide +kernel)) rfl), (zw_mG (List.mem_of_getElem? (i := 96) (by decide +kernel)) rfl), by decide, by decide +kernel⟩, (zw_mG (List.mem_of_getElem? (i := 1140) (by decide +kernel)) rfl), (zw_mG (List.mem_of_getElem? (i := 1141) (by decide +kernel)) rfl)⟩
def f_X10_count (v0 : Nat) (v1 : Int32) (I : zI) (R : zR) : Option (Int32) :=
  if v1 = 0 then zw_g (zw_gc v0 10) (zw_g (zw_gc (R v0 2) 1) (some (I (R v0 2) 1))) else (if v1 = 1 then zw_g (zw_gc v0 10) (zw_g (zw_gc (R v0 2) 1) (some (I (R v0 2) 3))) else (if v1 = 2 then zw_g (zw_gc v0 10) (zw_g (zw_gc (R v0 2) 1) (some (I (R v0 2) 5))) else (if v1 = 3 then zw_g (zw_gc v0 10) (zw_g (zw_gc (R v0 2) 1) (some (I (R v0 2) 7))) else (if v1 = 4 then zw_g (zw_gc v0 10) (zw_g (zw_gc (R v0 2) 1) (some (I (R v0 2) 9))) else (if v1 = 5 then zw_g (zw_gc v0 10) (zw_g (zw_gc (R v0 11) 9) (some (I (R v0 11) 0))) else (if v1 = 6 then zw_g (zw_gc v0 10) (zw_g (zw_gc (R v0 0) 8) (some (I (R v0 0) 1))) else (zw_g (zw_gc v0 10) ((f_X10_measure v0 v1 I R).bind fun q23 => (some q23)))))))))
theorem c_X10_count (X : zw_X) (v0 : Nat) (v1 : Int32) (I : zI) (R : zR) (J : zJ) {P : Option Value → aS → Prop} (o : Int32) (hf : f_X10_count v0 v1 I R = some o) (hk : P (some (.int o)) (I, R, J)) : zw_C X M_X10_count 3 0 0 199 [.ref v0, .int v1] (I, R, J) P := by
  show zy_V X M_X10_count 3 P 0 [.ref v0, .int v1] [] (I, R, J)
  unfold f_X10_count at hf
  refine zv_iload_n (pc := 0) d_X10_count_0 rfl ?_
  rcases zw_ifE hf with ⟨c1, hf⟩ | ⟨c1, hf⟩
  · refine zx_tsIn (pc := 1) (tg := 44) (z := 43) d_X10_count_1 (by rw [c1]; decide +kernel) (by rw [c1]; decide +kernel) (by rw [c1]; decide +kernel) (by decide) ?_
    refine zv_aload_n (pc := 44) d_X10_count_44 rfl ?_
    obtain ⟨g2, hf⟩ := zw_gcE hf (by decide)
    obtain ⟨g3, hf⟩ := zw_gcE hf (by decide)
    refine zx_getR (pc := 45) d_X10_count_45 lk_CutStones_26 (by decide) g2 g3 ?_
    refine zx_getI (pc := 48) d_X10_count_48 lk_CutStones_267 (by decide) g3 ?_
    cases hf
    exact zx_iret (pc := 51) d_X10_count_51 rfl hk
  ·
    rcases zw_ifE hf with ⟨c4, hf⟩ | ⟨c4, hf⟩
    · refine zx_tsIn (pc := 1) (tg := 52) (z := 51) d_X10_count_1 (by rw [c4]; decide +kernel) (by rw [c4]; decide +kernel) (by rw [c4]; decide +kernel) (by decide) ?_
      refine zv_aload_n (pc := 52) d_X10_count_52 rfl ?_
      obtain ⟨g5, hf⟩ := zw_gcE hf (by decide)
      obtain ⟨g6, hf⟩ := zw_gcE hf (by decide)
      refine zx_getR (pc := 53) d_X10_count_53 lk_CutStones_26 (by decide) g5 g6 ?_
      refine zx_getI (pc := 56) d_X10_count_56 lk_CutStones_261 (by decide) g6 ?_
      cases hf
      exact zx_iret (pc := 59) d_X10_count_59 rfl hk
    ·
      rcases zw_ifE hf with ⟨c7, hf⟩ | ⟨c7, hf⟩
      · refine zx_tsIn (pc := 1) (tg := 60) (z := 59) d_X10_count_1 (by rw [c7]; decide +kernel) (by rw [c7]; decide +kernel) (by rw [c7]; decide +kernel) (by decide) ?_
        refine zv_aload_n (pc := 60) d_X10_count_60 rfl ?_
        obtain ⟨g8, hf⟩ := zw_gcE hf (by decide)
        obtain ⟨g9, hf⟩ := zw_gcE hf (by decide)
        refine zx_getR (pc := 61) d_X10_count_61 lk_CutStones_26 (by decide) g8 g9 ?_
        refine zx_getI (pc := 64) d_X10_count_64 lk_CutStones_270 (by decide) g9 ?_
        cases hf
        exact zx_iret (pc := 67) d_X10_count_67 rfl hk
      ·
        rcases zw_ifE hf with ⟨c10, hf⟩ | ⟨c10, hf⟩
        · refine zx_tsIn (pc := 1) (tg := 68) (z := 67) d_X10_count_1 (by rw [c10]; decide +kernel) (by rw [c10]; decide +kernel) (by rw [c10]; decide +kernel) (by decide) ?_
          refine zv_aload_n (pc := 68) d_X10_count_68 rfl ?_
          obtain ⟨g11, hf⟩ := zw_gcE hf (by decide)
          obtain ⟨g12, hf⟩ := zw_gcE hf (by decide)
          refine zx_getR (pc := 69) d_X10_count_69 lk_CutStones_26 (by decide) g11 g12 ?_
          refine zx_getI (pc := 72) d_X10_count_72 lk_CutStones_273 (by decide) g12 ?_
          cases hf
          exact zx_iret (pc := 75) d_X10_count_75 rfl hk
        ·
          rcases zw_ifE hf with ⟨c13, hf⟩ | ⟨c13, hf⟩
          · refine zx_tsIn (pc := 1) (tg := 76) (z := 75) d_X10_count_1 (by rw [c13]; decide +kernel) (by rw [c13]; decide +kernel) (by rw [c13]; decide +kernel) (by decide) ?_
            refine zv_aload_n (pc := 76) d_X10_count_76 rfl ?_
            obtain ⟨g14, hf⟩ := zw_gcE hf (by decide)
            obtain ⟨g15, hf⟩ := zw_gcE hf (by decide)
            refine zx_getR (pc := 77) d_X10_count_77 lk_CutStones_26 (by decide) g14 g15 ?_
            refine zx_getI (pc := 80) d_X10_count_80 lk_CutStones_276 (by decide) g15 ?_
            cases hf
            exact zx_iret (pc := 83) d_X10_count_83 rfl hk
          ·
            rcases zw_ifE hf with ⟨c16, hf⟩ | ⟨c16, hf⟩
            · refine zx_tsIn (pc := 1) (tg := 84) (z := 83) d_X10_count_1 (by rw [c16]; decide +kernel) (by rw [c16]; decide +kernel) (by rw [c16]; decide +kernel) (by decide) ?_
              refine zv_aload_n (pc := 84) d_X10_count_84 rfl ?_
              obtain ⟨g17, hf⟩ := zw_gcE hf (by decide)
              obtain ⟨g18, hf⟩ := zw_gcE hf (by decide)
              refine zx_getR (pc := 85) d_X10_count_85 lk_CutStones_71 (by decide) g17 g18 ?_
              refine zx_getI (pc := 88) d_X10_count_88 lk_CutStones_279 (by decide) g18 ?_
              cases hf
              exact zx_iret (pc := 91) d_X10_count_91 rfl hk
            ·
              rcases zw_ifE hf with ⟨c19, hf⟩ | ⟨c19, hf⟩
              · refine zx_tsIn (pc := 1) (tg := 92) (z := 91) d_X10_count_1 (by rw [c19]; decide +kernel) (by rw [c19]; decide +kernel) (by rw [c19]; decide +kernel) (by decide) ?_
                refine zv_aload_n (pc := 92) d_X10_count_92 rfl ?_
                obtain ⟨g20, hf⟩ := zw_gcE hf (by decide)
                obtain ⟨g21, hf⟩ := zw_gcE hf (by decide)
                refine zx_getR (pc := 93) d_X10_count_93 lk_CutStones_10 (by decide) g20 g21 ?_
                refine zx_getI (pc := 96) d_X10_count_96 lk_CutStones_88 (by decide) g21 ?_
                cases hf
                exact zx_iret (pc := 99) d_X10_count_99 rfl hk
              ·
                refine zx_tsOut (pc := 1) (tg := 100) d_X10_count_1 (by have c1 := zw_neI c1 (z := 0) (by decide +kernel); have c4 := zw_neI c4 (z := 1) (by decide +kernel); have c7 := zw_neI c7 (z := 2) (by decide +kernel); have c10 := zw_neI c10 (z := 3) (by decide +kernel); have c13 := zw_neI c13 (z := 4) (by decide +kernel); have c16 := zw_neI c16 (z := 5) (by decide +kernel); have c19 := zw_neI c19 (z := 6) (by decide +kernel); omega) (by decide) ?_
                refine zv_aload_n (pc := 100) d_X10_count_100 rfl ?_
                refine zv_iload_n (pc := 101) d_X10_count_101 rfl ?_
                obtain ⟨g22, hf⟩ := zw_gcE hf (by decide)
                obtain ⟨q23, hq23, hf⟩ := zw_bdE hf
                refine zx_callV (pc := 102) (As := [.int v1]) (o := v0) (st := []) (d2 := 2) (M2 := M_X10_measure) (P2 := (fun r S => r = (some (.int q23)) ∧ S = (I, R, J))) d_X10_count_102 (zw_mG (List.mem_of_getElem? (i := 1143) (by decide +kernel)) rfl) ce_X10_measure (zw_RvK g22 rfl rfl) (Nat.le_of_ble_eq_true rfl) rfl (Nat.le_of_ble_eq_true rfl) (by decide) (c_X10_measure X v0 v1 I R J _ hq23 ⟨rfl, rfl⟩) ?_
                rintro _ _ ⟨rfl, rfl⟩
                show zy_V X M_X10_count 3 P (102 + 3) [.ref v0, .int v1] [.int q23] (I, R, J)
                cases hf
                exact zx_iret (pc := 105) d_X10_count_105 rfl hk
abbrev M_X10_dearestWithin : zw_M := (⟨"CutStones", "dearestWithin", "(ILCutStones$Drawing;II)I"⟩, prog_1_method_41_code, 8, (Option.some Jvm.ClassFile.FieldType.int))
theorem d_X10_dearestWithin_0 : decode M_X10_dearestWithin.2.1 0 = .ok (.iconst (-1), 1) := by decide +kernel
theorem d_X10_dearestWithin_1 : decode M_X10_dearestWithin.2.1 1 = .ok (.istore 5, 2) := by decide +kernel
theorem d_X10_dearestWithin_3 : decode M_X10_dearestWithin.2.1 3 = .ok (.iconst 0, 1) := by decide +kernel
theorem d_X10_dearestWithin_4 : decode M_X10_dearestWithin.2.1 4 = .ok (.istore 6, 2) := by decide +kernel
theorem d_X10_dearestWithin_6 : decode M_X10_dearestWithin.2.1 6 = .ok (.iload 6, 2) := by decide +kernel
theorem d_X10_dearestWithin_8 : decode M_X10_dearestWithin.2.1 8 = .ok (.aload_n 0, 1) := by decide +kernel
theorem d_X10_dearestWithin_9 : decode M_X10_dearestWithin.2.1 9 = .ok (.getfield 26, 3) := by decide +kernel
theorem d_X10_dearestWithin_12 : decode M_X10_dearestWithin.2.1 12 = .ok (.getfield 261, 3) := by decide +kernel
theorem d_X10_dearestWithin_15 : decode M_X10_dearestWithin.2.1 15 = .ok (.if_icmp .ge 78, 3) := by decide +kernel
theorem d_X10_dearestWithin_18 : decode M_X10_dearestWithin.2.1 18 = .ok (.iload_n 1, 1) := by decide +kernel
theorem d_X10_dearestWithin_19 : decode M_X10_dearestWithin.2.1 19 = .ok (.iload 6, 2) := by decide +kernel
theorem d_X10_dearestWithin_21 : decode M_X10_dearestWithin.2.1 21 = .ok (.invokestatic 288, 3) := by decide +kernel
theorem d_X10_dearestWithin_24 : decode M_X10_dearestWithin.2.1 24 = .ok (.ifCond .eq 30, 3) := by decide +kernel
theorem d_X10_dearestWithin_27 : decode M_X10_dearestWithin.2.1 27 = .ok (.iload 5, 2) := by decide +kernel
theorem d_X10_dearestWithin_29 : decode M_X10_dearestWithin.2.1 29 = .ok (.iconst (-1), 1) := by decide +kernel
theorem d_X10_dearestWithin_30 : decode M_X10_dearestWithin.2.1 30 = .ok (.if_icmp .eq 20, 3) := by decide +kernel
theorem d_X10_dearestWithin_33 : decode M_X10_dearestWithin.2.1 33 = .ok (.aload_n 0, 1) := by decide +kernel
theorem d_X10_dearestWithin_34 : decode M_X10_dearestWithin.2.1 34 = .ok (.getfield 61, 3) := by decide +kernel
theorem d_X10_dearestWithin_37 : decode M_X10_dearestWithin.2.1 37 = .ok (.iload 6, 2) := by decide +kernel
theorem d_X10_dearestWithin_39 : decode M_X10_dearestWithin.2.1 39 = .ok (.iaload, 1) := by decide +kernel
theorem d_X10_dearestWithin_40 : decode M_X10_dearestWithin.2.1 40 = .ok (.aload_n 0, 1) := by decide +kernel
theorem d_X10_dearestWithin_41 : decode M_X10_dearestWithin.2.1 41 = .ok (.getfield 61, 3) := by decide +kernel
theorem d_X10_dearestWithin_44 : decode M_X10_dearestWithin.2.1 44 = .ok (.iload 5, 2) := by decide +kernel
theorem d_X10_dearestWithin_46 : decode M_X10_dearestWithin.2.1 46 = .ok (.iaload, 1) := by decide +kernel
theorem d_X10_dearestWithin_47 : decode M_X10_dearestWithin.2.1 47 = .ok (.if_icmp .le 7, 3) := by decide +kernel
theorem d_X10_dearestWithin_50 : decode M_X10_dearestWithin.2.1 50 = .ok (.iconst 1, 1) := by decide +kernel
theorem d_X10_dearestWithin_51 : decode M_X10_dearestWithin.2.1 51 = .ok (.goto 4, 3) := by decide +kernel
theorem d_X10_dearestWithin_54 : decode M_X10_dearestWithin.2.1 54 = .ok (.iconst 0, 1) := by decide +kernel
theorem d_X10_dearestWithin_55 : decode M_X10_dearestWithin.2.1 55 = .ok (.istore 7, 2) := by decide +kernel
theorem d_X10_dearestWithin_57 : decode M_X10_dearestWithin.2.1 57 = .ok (.iload 7, 2) := by decide +kernel
theorem d_X10_dearestWithin_59 : decode M_X10_dearestWithin.2.1 59 = .ok (.ifCond .eq 28, 3) := by decide +kernel
theorem d_X10_dearestWithin_62 : decode M_X10_dearestWithin.2.1 62 = .ok (.aload_n 0, 1) := by decide +kernel
theorem d_X10_dearestWithin_63 : decode M_X10_dearestWithin.2.1 63 = .ok (.getfield 26, 3) := by decide +kernel
theorem d_X10_dearestWithin_66 : decode M_X10_dearestWithin.2.1 66 = .ok (.getfield 141, 3) := by decide +kernel
theorem d_X10_dearestWithin_69 : decode M_X10_dearestWithin.2.1 69 = .ok (.iload 6, 2) := by decide +kernel
theorem d_X10_dearestWithin_71 : decode M_X10_dearestWithin.2.1 71 = .ok (.aaload, 1) := by decide +kernel
theorem d_X10_dearestWithin_72 : decode M_X10_dearestWithin.2.1 72 = .ok (.aload_n 2, 1) := by decide +kernel
theorem d_X10_dearestWithin_73 : decode M_X10_dearestWithin.2.1 73 = .ok (.iload_n 3, 1) := by decide +kernel
theorem d_X10_dearestWithin_74 : decode M_X10_dearestWithin.2.1 74 = .ok (.iload 4, 2) := by decide +kernel
theorem d_X10_dearestWithin_76 : decode M_X10_dearestWithin.2.1 76 = .ok (.invokestatic 229, 3) := by decide +kernel
theorem d_X10_dearestWithin_79 : decode M_X10_dearestWithin.2.1 79 = .ok (.iconst (-1), 1) := by decide +kernel
theorem d_X10_dearestWithin_80 : decode M_X10_dearestWithin.2.1 80 = .ok (.if_icmp .eq 7, 3) := by decide +kernel
theorem d_X10_dearestWithin_83 : decode M_X10_dearestWithin.2.1 83 = .ok (.iload 6, 2) := by decide +kernel
theorem d_X10_dearestWithin_85 : decode M_X10_dearestWithin.2.1 85 = .ok (.istore 5, 2) := by decide +kernel
theorem d_X10_dearestWithin_87 : decode M_X10_dearestWithin.2.1 87 = .ok (.iinc 6 1, 3) := by decide +kernel
theorem d_X10_dearestWithin_90 : decode M_X10_dearestWithin.2.1 90 = .ok (.goto (-84), 3) := by decide +kernel
theorem d_X10_dearestWithin_93 : decode M_X10_dearestWithin.2.1 93 = .ok (.iload 5, 2) := by decide +kernel
theorem d_X10_dearestWithin_95 : decode M_X10_dearestWithin.2.1 95 = .ok (.ireturn, 1) := by decide +kernel
theorem ce_X10_dearestWithin : zw_CeV M_X10_dearestWithin 4 := ⟨⟨⟨by decide +kernel, by decide +kernel, by decide +kernel⟩, (zw_mG (List.mem_of_getElem? (i := 1058) (by decide +kernel)) rfl), (zw_mG (List.mem_of_getElem? (i := 96) (by decide +kernel)) rfl), by decide, by decide +kernel⟩, (zw_mG (List.mem_of_getElem? (i := 1057) (by decide +kernel)) rfl), (zw_mG (List.mem_of_getElem? (i := 42) (by decide +kernel)) rfl)⟩
def j_X10_dearestWithin_87_6 (v0 : Nat) (v1 : Int32) (v2 : Nat) (v3 : Int32) (v4 : Int32) (v5 : Int32) (v6 : Int32) (I : zI) (R : zR) : Option ((Int32 × Int32) ⊕ (Int32)) :=
  zw_let (v6 + 1 : Int32) fun x7 => (some (.inl (v5, x7)))
theorem j_X10_dearestWithin_87_6_ok (X : zw_X) (P : Option Value → aS → Prop) (v0 : Nat) (v1 : Int32) (v2 : Nat) (v3 : Int32) (v4 : Int32) (v5 : Int32) (v6 : Int32) (I : zI) (R : zR) (J : zJ) (o : (Int32 × Int32) ⊕ (Int32)) (hf : j_X10_dearestWithin_87_6 v0 v1 v2 v3 v4 v5 v6 I R = some o) (hk : (zw_se (fun t => zy_V X M_X10_dearestWithin 3 P 6 [.ref v0, .int v1, .ref v2, .int v3, .int v4, .int t.1, .int t.2, .null] [] (I, R, J)) (fun r => zy_V X M_X10_dearestWithin 3 P 93 [.null, .null, .null, .null, .null, .int r, .null, .null] [] (I, R, J)) o)) : zy_V X M_X10_dearestWithin 3 P 87 [.ref v0, .int v1, .ref v2, .int v3, .int v4, .int v5, .int v6, .null] [] (I, R, J) := by
  unfold j_X10_dearestWithin_87_6 at hf
  obtain ⟨x7, ex7, hf⟩ := zw_letE hf
  refine zx_iinc (pc := 87) (x2 := x7) (L2 := [.ref v0, .int v1, .ref v2, .int v3, .int v4, .int v5, .int x7, .null]) d_X10_dearestWithin_87 (by decide) rfl zc_i_1 ex7 rfl ?_
  refine zv_goto (pc := 90) (tg := 6) d_X10_dearestWithin_90 (by decide) ?_
  cases hf
  exact zx_weak (zw_leS (zw_leS (zw_leS (zw_leS (zw_leS (zw_leS (zw_leS (zw_leN zw_leZ)))))))) hk
def j_X10_dearestWithin_55_6 (v0 : Nat) (v1 : Int32) (v2 : Nat) (v3 : Int32) (v4 : Int32) (v5 : Int32) (v6 : Int32) (s0 : Int32) (I : zI) (R : zR) : Option ((Int32 × Int32) ⊕ (Int32)) :=
  if s0 = 0 then j_X10_dearestWithin_87_6 v0 v1 v2 v3 v4 v5 v6 I R else zw_g (zw_gc v0 10) (zw_g (zw_gc (R v0 2) 1) (zw_g (zw_gc (R (R v0 2) 2) 16) (zw_g (zw_in v6 (zw_SH (R (R v0 2) 2)).2) (zw_g (zw_gc (R (R (R v0 2) 2) (Int32.toNatClampNeg v6)) 0) ((f_X10_firstPlace (R (R (R v0 2) 2) (Int32.toNatClampNeg v6)) v2 v3 v4 I R).bind fun q13 => (if q13 = (-1) then j_X10_dearestWithin_87_6 v0 v1 v2 v3 v4 v5 v6 I R else j_X10_dearestWithin_87_6 v0 v1 v2 v3 v4 v6 v6 I R))))))
theorem j_X10_dearestWithin_55_6_ok (X : zw_X) (P : Option Value → aS → Prop) (v0 : Nat) (v1 : Int32) (v2 : Nat) (v3 : Int32) (v4 : Int32) (v5 : Int32) (v6 : Int32) (s0 : Int32) (I : zI) (R : zR) (J : zJ) (o : (Int32 × Int32) ⊕ (Int32)) (hf : j_X10_dearestWithin_55_6 v0 v1 v2 v3 v4 v5 v6 s0 I R = some o) (hk : (zw_se (fun t => zy_V X M_X10_dearestWithin 3 P 6 [.ref v0, .int v1, .ref v2, .int v3, .int v4, .int t.1, .int t.2, .null] [] (I, R, J)) (fun r => zy_V X M_X10_dearestWithin 3 P 93 [.null, .null, .null, .null, .null, .int r, .null, .null] [] (I, R, J)) o)) : zy_V X M_X10_dearestWithin 3 P 55 [.ref v0, .int v1, .ref v2, .int v3, .int v4, .int v5, .int v6, .null] [.int s0] (I, R, J) := by
  unfold j_X10_dearestWithin_55_6 at hf
  refine zx_istore (pc := 55) (x2 := s0) (L2 := [.ref v0, .int v1, .ref v2, .int v3, .int v4, .int v5, .int v6, .int s0]) d_X10_dearestWithin_55 (by decide) rfl rfl ?_
  refine zv_iload (pc := 57) d_X10_dearestWithin_57 rfl ?_
  rcases zw_ifE hf with ⟨c6, hf⟩ | ⟨c6, hf⟩
  · refine zv_if_eq (pc := 59) (tg := 87) d_X10_dearestWithin_59 (by decide) (fun _ => ?_) (fun q => absurd c6 q)
    exact zx_weak (zw_leS (zw_leS (zw_leS (zw_leS (zw_leS (zw_leS (zw_leS (zw_leN zw_leZ)))))))) (j_X10_dearestWithin_87_6_ok X P v0 v1 v2 v3 v4 v5 v6 I R J _ hf hk)
  · refine zv_if_eq (pc := 59) (tg := 87) d_X10_dearestWithin_59 (by decide) (fun q => absurd q c6) (fun _ => ?_)
    refine zv_aload_n (pc := 62) d_X10_dearestWithin_62 rfl ?_
    obtain ⟨g8, hf⟩ := zw_gcE hf (by decide)
    obtain ⟨g9, hf⟩ := zw_gcE hf (by decide)
    refine zx_getR (pc := 63) d_X10_dearestWithin_63 lk_CutStones_26 (by decide) g8 g9 ?_
    obtain ⟨g10, hf⟩ := zw_gcE hf (by decide)
    refine zx_getR (pc := 66) d_X10_dearestWithin_66 lk_CutStones_141 (by decide) g9 g10 ?_
    refine zv_iload (pc := 69) d_X10_dearestWithin_69 rfl ?_
    obtain ⟨i11, hf⟩ := zw_inE hf
    obtain ⟨g12, hf⟩ := zw_gcE hf (by decide)
    refine zx_aald (pc := 71) d_X10_dearestWithin_71 g10 (by decide) i11 g12 ?_
    refine zv_aload_n (pc := 72) d_X10_dearestWithin_72 rfl ?_
    refine zv_iload_n (pc := 73) d_X10_dearestWithin_73 rfl ?_
    refine zv_iload (pc := 74) d_X10_dearestWithin_74 rfl ?_
    obtain ⟨q13, hq13, hf⟩ := zw_bdE hf
    refine zx_callS (pc := 76) (As := [.ref (R (R (R v0 2) 2) (Int32.toNatClampNeg v6)), .ref v2, .int v3, .int v4]) (st := []) (d2 := 2) (M2 := M_X10_firstPlace) (P2 := (fun r S => r = (some (.int q13)) ∧ S = (I, R, J))) d_X10_dearestWithin_76 (zw_mG (List.mem_of_getElem? (i := 1059) (by decide +kernel)) rfl) ce_X10_firstPlace (Nat.le_of_ble_eq_true rfl) rfl (Nat.le_of_ble_eq_true rfl) (by decide) (c_X10_firstPlace X (R (R (R v0 2) 2) (Int32.toNatClampNeg v6)) v2 v3 v4 I R J _ hq13 ⟨rfl, rfl⟩) ?_
    rintro _ _ ⟨rfl, rfl⟩
    show zy_V X M_X10_dearestWithin 3 P (76 + 3) [.ref v0, .int v1, .ref v2, .int v3, .int v4, .int v5, .int v6, .int s0] [.int q13] (I, R, J)
    refine zv_iconst (pc := 79) d_X10_dearestWithin_79 zc_i_m1 ?_
    rcases zw_ifE hf with ⟨c14, hf⟩ | ⟨c14, hf⟩
    · refine zv_icmp_eq (pc := 80) (tg := 87) d_X10_dearestWithin_80 (by decide) (fun _ => ?_) (fun q => absurd c14 q)
      exact zx_weak (zw_leS (zw_leS (zw_leS (zw_leS (zw_leS (zw_leS (zw_leS (zw_leN zw_leZ)))))))) (j_X10_dearestWithin_87_6_ok X P v0 v1 v2 v3 v4 v5 v6 I R J _ hf hk)
    · refine zv_icmp_eq (pc := 80) (tg := 87) d_X10_dearestWithin_80 (by decide) (fun q => absurd q c14) (fun _ => ?_)
      refine zv_iload (pc := 83) d_X10_dearestWithin_83 rfl ?_
      refine zx_istore (pc := 85) (x2 := v6) (L2 := [.ref v0, .int v1, .ref v2, .int v3, .int v4, .int v6, .int v6, .int s0]) d_X10_dearestWithin_85 (by decide) rfl rfl ?_
      exact zx_weak (zw_leS (zw_leS (zw_leS (zw_leS (zw_leS (zw_leS (zw_leS (zw_leN zw_leZ)))))))) (j_X10_dearestWithin_87_6_ok X P v0 v1 v2 v3 v4 v6 v6 I R J _ hf hk)
def j_X10_dearestWithin_54_6 (v0 : Nat) (v1 : Int32) (v2 : Nat) (v3 : Int32) (v4 : Int32) (v5 : Int32) (v6 : Int32) (I : zI) (R : zR) : Option ((Int32 × Int32) ⊕ (Int32)) :=
  j_X10_dearestWithin_55_6 v0 v1 v2 v3 v4 v5 v6 0 I R
theorem j_X10_dearestWithin_54_6_ok (X : zw_X) (P : Option Value → aS → Prop) (v0 : Nat) (v1 : Int32) (v2 : Nat) (v3 : Int32) (v4 : Int32) (v5 : Int32) (v6 : Int32) (I : zI) (R : zR) (J : zJ) (o : (Int32 × Int32) ⊕ (Int32)) (hf : j_X10_dearestWithin_54_6 v0 v1 v2 v3 v4 v5 v6 I R = some o) (hk : (zw_se (fun t => zy_V X M_X10_dearestWithin 3 P 6 [.ref v0, .int v1, .ref v2, .int v3, .int v4, .int t.1, .int t.2, .null] [] (I, R, J)) (fun r => zy_V X M_X10_dearestWithin 3 P 93 [.null, .null, .null, .null, .null, .int r, .null, .null] [] (I, R, J)) o)) : zy_V X M_X10_dearestWithin 3 P 54 [.ref v0, .int v1, .ref v2, .int v3, .int v4, .int v5, .int v6, .null] [] (I, R, J) := by
  unfold j_X10_dearestWithin_54_6 at hf
  refine zv_iconst (pc := 54) d_X10_dearestWithin_54 zc_i_0 ?_
  exact zx_weak (zw_leS (zw_leS (zw_leS (zw_leS (zw_leS (zw_leS (zw_leS (zw_leN zw_leZ)))))))) (j_X10_dearestWithin_55_6_ok X P v0 v1 v2 v3 v4 v5 v6 0 I R J _ hf hk)
def j_X10_dearestWithin_50_6 (v0 : Nat) (v1 : Int32) (v2 : Nat) (v3 : Int32) (v4 : Int32) (v5 : Int32) (v6 : Int32) (I : zI) (R : zR) : Option ((Int32 × Int32) ⊕ (Int32)) :=
  j_X10_dearestWithin_55_6 v0 v1 v2 v3 v4 v5 v6 1 I R
theorem j_X10_dearestWithin_50_6_ok (X : zw_X) (P : Option Value → aS → Prop) (v0 : Nat) (v1 : Int32) (v2 : Nat) (v3 : Int32) (v4 : Int32) (v5 : Int32) (v6 : Int32) (I : zI) (R : zR) (J : zJ) (o : (Int32 × Int32) ⊕ (Int32)) (hf : j_X10_dearestWithin_50_6 v0 v1 v2 v3 v4 v5 v6 I R = some o) (hk : (zw_se (fun t => zy_V X M_X10_dearestWithin 3 P 6 [.ref v0, .int v1, .ref v2, .int v3, .int v4, .int t.1, .int t.2, .null] [] (I, R, J)) (fun r => zy_V X M_X10_dearestWithin 3 P 93 [.null, .null, .null, .null, .null, .int r, .null, .null] [] (I, R, J)) o)) : zy_V X M_X10_dearestWithin 3 P 50 [.ref v0, .int v1, .ref v2, .int v3, .int v4, .int v5, .int v6, .null] [] (I, R, J) := by
  unfold j_X10_dearestWithin_50_6 at hf
  refine zv_iconst (pc := 50) d_X10_dearestWithin_50 zc_i_1 ?_
  refine zv_goto (pc := 51) (tg := 55) d_X10_dearestWithin_51 (by decide) ?_
  exact zx_weak (zw_leS (zw_leS (zw_leS (zw_leS (zw_leS (zw_leS (zw_leS (zw_leN zw_leZ)))))))) (j_X10_dearestWithin_55_6_ok X P v0 v1 v2 v3 v4 v5 v6 1 I R J _ hf hk)
def s_X10_dearestWithin_6 (v0 : Nat) (v1 : Int32) (v2 : Nat) (v3 : Int32) (v4 : Int32) (I : zI) (R : zR) (s : Int32 × Int32) : Option ((Int32 × Int32) ⊕ (Int32)) :=
  zw_g (zw_gc v0 10) (zw_g (zw_gc (R v0 2) 1) (if (I (R v0 2) 3) ≤ s.2 then some (.inr s.1) else (f_X10_isTold v1 s.2).bind fun q4 => (if q4 = 0 then j_X10_dearestWithin_54_6 v0 v1 v2 v3 v4 s.1 s.2 I R else if s.1 = (-1) then j_X10_dearestWithin_50_6 v0 v1 v2 v3 v4 s.1 s.2 I R else zw_g (zw_gc (R v0 9) 13) (zw_g (zw_in s.2 (zw_SH (R v0 9)).2) (zw_g (zw_in s.1 (zw_SH (R v0 9)).2) (if (I (R v0 9) (Int32.toNatClampNeg s.2)) ≤ (I (R v0 9) (Int32.toNatClampNeg s.1)) then j_X10_dearestWithin_54_6 v0 v1 v2 v3 v4 s.1 s.2 I R else j_X10_dearestWithin_50_6 v0 v1 v2 v3 v4 s.1 s.2 I R))))))
theorem s_X10_dearestWithin_6_ok (X : zw_X) (P : Option Value → aS → Prop) (v0 : Nat) (v1 : Int32) (v2 : Nat) (v3 : Int32) (v4 : Int32) (I : zI) (R : zR) (J : zJ) (s : Int32 × Int32) (o : (Int32 × Int32) ⊕ (Int32)) (hf : s_X10_dearestWithin_6 v0 v1 v2 v3 v4 I R s = some o) (hk : (zw_se (fun t => zy_V X M_X10_dearestWithin 3 P 6 [.ref v0, .int v1, .ref v2, .int v3, .int v4, .int t.1, .int t.2, .null] [] (I, R, J)) (fun r => zy_V X M_X10_dearestWithin 3 P 93 [.null, .null, .null, .null, .null, .int r, .null, .null] [] (I, R, J)) o)) : zy_V X M_X10_dearestWithin 3 P 6 [.ref v0, .int v1, .ref v2, .int v3, .int v4, .int s.1, .int s.2, .null] [] (I, R, J) := by
  unfold s_X10_dearestWithin_6 at hf
  refine zv_iload (pc := 6) d_X10_dearestWithin_6 rfl ?_
  refine zv_aload_n (pc := 8) d_X10_dearestWithin_8 rfl ?_
  obtain ⟨g1, hf⟩ := zw_gcE hf (by decide)
  obtain ⟨g2, hf⟩ := zw_gcE hf (by decide)
  refine zx_getR (pc := 9) d_X10_dearestWithin_9 lk_CutStones_26 (by decide) g1 g2 ?_
  refine zx_getI (pc := 12) d_X10_dearestWithin_12 lk_CutStones_261 (by decide) g2 ?_
  rcases zw_ifE hf with ⟨c3, hf⟩ | ⟨c3, hf⟩
  · refine zv_icmp_ge (pc := 15) (tg := 93) d_X10_dearestWithin_15 (by decide) (fun _ => ?_) (fun q => absurd c3 q)
    cases hf
    exact zx_weak (zw_leN (zw_leN (zw_leN (zw_leN (zw_leN (zw_leS (zw_leN (zw_leN zw_leZ)))))))) hk
  · refine zv_icmp_ge (pc := 15) (tg := 93) d_X10_dearestWithin_15 (by decide) (fun q => absurd q c3) (fun _ => ?_)
    refine zv_iload_n (pc := 18) d_X10_dearestWithin_18 rfl ?_
    refine zv_iload (pc := 19) d_X10_dearestWithin_19 rfl ?_
    obtain ⟨q4, hq4, hf⟩ := zw_bdE hf
    refine zx_callS (pc := 21) (As := [.int v1, .int s.2]) (st := []) (d2 := 0) (M2 := M_X10_isTold) (P2 := (fun r S => r = (some (.int q4)) ∧ S = (I, R, J))) d_X10_dearestWithin_21 (zw_mG (List.mem_of_getElem? (i := 1054) (by decide +kernel)) rfl) ce_X10_isTold (Nat.le_of_ble_eq_true rfl) rfl (Nat.le_of_ble_eq_true rfl) (by decide) (c_X10_isTold X v1 s.2 I R J _ hq4 ⟨rfl, rfl⟩) ?_
    rintro _ _ ⟨rfl, rfl⟩
    show zy_V X M_X10_dearestWithin 3 P (21 + 3) [.ref v0, .int v1, .ref v2, .int v3, .int v4, .int s.1, .int s.2, .null] [.int q4] (I, R, J)
    rcases zw_ifE hf with ⟨c5, hf⟩ | ⟨c5, hf⟩
    · refine zv_if_eq (pc := 24) (tg := 54) d_X10_dearestWithin_24 (by decide) (fun _ => ?_) (fun q => absurd c5 q)
      exact zx_weak (zw_leS (zw_leS (zw_leS (zw_leS (zw_leS (zw_leS (zw_leS (zw_leN zw_leZ)))))))) (j_X10_dearestWithin_54_6_ok X P v0 v1 v2 v3 v4 s.1 s.2 I R J _ hf hk)
    · refine zv_if_eq (pc := 24) (tg := 54) d_X10_dearestWithin_24 (by decide) (fun q => absurd q c5) (fun _ => ?_)
      refine zv_iload (pc := 27) d_X10_dearestWithin_27 rfl ?_
      refine zv_iconst (pc := 29) d_X10_dearestWithin_29 zc_i_m1 ?_
      rcases zw_ifE hf with ⟨c15, hf⟩ | ⟨c15, hf⟩
      · refine zv_icmp_eq (pc := 30) (tg := 50) d_X10_dearestWithin_30 (by decide) (fun _ => ?_) (fun q => absurd c15 q)
        exact zx_weak (zw_leS (zw_leS (zw_leS (zw_leS (zw_leS (zw_leS (zw_leS (zw_leN zw_leZ)))))))) (j_X10_dearestWithin_50_6_ok X P v0 v1 v2 v3 v4 s.1 s.2 I R J _ hf hk)
      · refine zv_icmp_eq (pc := 30) (tg := 50) d_X10_dearestWithin_30 (by decide) (fun q => absurd q c15) (fun _ => ?_)
        refine zv_aload_n (pc := 33) d_X10_dearestWithin_33 rfl ?_
        obtain ⟨g16, hf⟩ := zw_gcE hf (by decide)
        refine zx_getR (pc := 34) d_X10_dearestWithin_34 lk_CutStones_61 (by decide) g1 g16 ?_
        refine zv_iload (pc := 37) d_X10_dearestWithin_37 rfl ?_
        obtain ⟨i17, hf⟩ := zw_inE hf
        refine zx_iald (pc := 39) d_X10_dearestWithin_39 g16 i17 ?_
        refine zv_aload_n (pc := 40) d_X10_dearestWithin_40 rfl ?_
        refine zx_getR (pc := 41) d_X10_dearestWithin_41 lk_CutStones_61 (by decide) g1 g16 ?_
        refine zv_iload (pc := 44) d_X10_dearestWithin_44 rfl ?_
        obtain ⟨i18, hf⟩ := zw_inE hf
        refine zx_iald (pc := 46) d_X10_dearestWithin_46 g16 i18 ?_
        rcases zw_ifE hf with ⟨c19, hf⟩ | ⟨c19, hf⟩
        · refine zv_icmp_le (pc := 47) (tg := 54) d_X10_dearestWithin_47 (by decide) (fun _ => ?_) (fun q => absurd c19 q)
          exact zx_weak (zw_leS (zw_leS (zw_leS (zw_leS (zw_leS (zw_leS (zw_leS (zw_leN zw_leZ)))))))) (j_X10_dearestWithin_54_6_ok X P v0 v1 v2 v3 v4 s.1 s.2 I R J _ hf hk)
        · refine zv_icmp_le (pc := 47) (tg := 54) d_X10_dearestWithin_47 (by decide) (fun q => absurd q c19) (fun _ => ?_)
          exact zx_weak (zw_leS (zw_leS (zw_leS (zw_leS (zw_leS (zw_leS (zw_leS (zw_leN zw_leZ)))))))) (j_X10_dearestWithin_50_6_ok X P v0 v1 v2 v3 v4 s.1 s.2 I R J _ hf hk)
theorem s_X10_dearestWithin_6_lp (X : zw_X) (P : Option Value → aS → Prop) (v0 : Nat) (v1 : Int32) (v2 : Nat) (v3 : Int32) (v4 : Int32) (I : zI) (R : zR) (J : zJ) (n : Nat) (s : Int32 × Int32) (r : Int32) (h : zw_it (s_X10_dearestWithin_6 v0 v1 v2 v3 v4 I R) n s = some r) (hq : zy_V X M_X10_dearestWithin 3 P 93 [.null, .null, .null, .null, .null, .int r, .null, .null] [] (I, R, J)) : zy_V X M_X10_dearestWithin 3 P 6 [.ref v0, .int v1, .ref v2, .int v3, .int v4, .int s.1, .int s.2, .null] [] (I, R, J) :=
  zw_itE (A := (fun t : Int32 × Int32 => zy_V X M_X10_dearestWithin 3 P 6 [.ref v0, .int v1, .ref v2, .int v3, .int v4, .int t.1, .int t.2, .null] [] (I, R, J))) (Q := (fun r : Int32 => zy_V X M_X10_dearestWithin 3 P 93 [.null, .null, .null, .null, .null, .int r, .null, .null] [] (I, R, J))) (fun s o h1 h2 => s_X10_dearestWithin_6_ok X P v0 v1 v2 v3 v4 I R J s o h1 h2) n s r h hq
def f_X10_dearestWithin (v0 : Nat) (v1 : Int32) (v2 : Nat) (v3 : Int32) (v4 : Int32) (I : zI) (R : zR) : Option (Int32) :=
  (zw_it (s_X10_dearestWithin_6 v0 v1 v2 v3 v4 I R) 1000000 ((-1), 0)).bind fun q20 => (some q20)
theorem c_X10_dearestWithin (X : zw_X) (v0 : Nat) (v1 : Int32) (v2 : Nat) (v3 : Int32) (v4 : Int32) (I : zI) (R : zR) (J : zJ) {P : Option Value → aS → Prop} (o : Int32) (hf : f_X10_dearestWithin v0 v1 v2 v3 v4 I R = some o) (hk : P (some (.int o)) (I, R, J)) : zw_C X M_X10_dearestWithin 3 0 0 199 [.ref v0, .int v1, .ref v2, .int v3, .int v4] (I, R, J) P := by
  show zy_V X M_X10_dearestWithin 3 P 0 [.ref v0, .int v1, .ref v2, .int v3, .int v4, .null, .null, .null] [] (I, R, J)
  unfold f_X10_dearestWithin at hf
  refine zv_iconst (pc := 0) d_X10_dearestWithin_0 zc_i_m1 ?_
  refine zx_istore (pc := 1) (x2 := (-1)) (L2 := [.ref v0, .int v1, .ref v2, .int v3, .int v4, .int (-1), .null, .null]) d_X10_dearestWithin_1 (by decide) rfl rfl ?_
  refine zv_iconst (pc := 3) d_X10_dearestWithin_3 zc_i_0 ?_
  refine zx_istore (pc := 4) (x2 := 0) (L2 := [.ref v0, .int v1, .ref v2, .int v3, .int v4, .int (-1), .int 0, .null]) d_X10_dearestWithin_4 (by decide) rfl rfl ?_
  obtain ⟨q20, hq20, hf⟩ := zw_bdE hf
  refine zx_weak (L' := [.ref v0, .int v1, .ref v2, .int v3, .int v4, .int (-1), .int 0, .null]) (zw_leS (zw_leS (zw_leS (zw_leS (zw_leS (zw_leS (zw_leS (zw_leN zw_leZ)))))))) (s_X10_dearestWithin_6_lp X P v0 v1 v2 v3 v4 I R J _ _ _ hq20 ?_)
  show zy_V X M_X10_dearestWithin 3 P 93 [.null, .null, .null, .null, .null, .int q20, .null, .null] [] (I, R, J)
  refine zv_iload (pc := 93) d_X10_dearestWithin_93 rfl ?_
  cases hf
  exact zx_iret (pc := 95) d_X10_dearestWithin_95 rfl hk
abbrev M_X10_ray : zw_M := (⟨"CutStones", "ray", "(IIIIII)I"⟩, prog_1_method_9_code, 8, (Option.some Jvm.ClassFile.FieldType.int))
theorem d_X10_ray_0 : decode M_X10_ray.2.1 0 = .ok (.aload_n 0, 1) := by decide +kernel
theorem d_X10_ray_1 : decode M_X10_ray.2.1 1 = .ok (.iload_n 1, 1) := by decide +kernel
theorem d_X10_ray_2 : decode M_X10_ray.2.1 2 = .ok (.invokevirtual 137, 3) := by decide +kernel
theorem d_X10_ray_5 : decode M_X10_ray.2.1 5 = .ok (.ifCond .eq 18, 3) := by decide +kernel
theorem d_X10_ray_8 : decode M_X10_ray.2.1 8 = .ok (.aload_n 0, 1) := by decide +kernel
theorem d_X10_ray_9 : decode M_X10_ray.2.1 9 = .ok (.iload_n 2, 1) := by decide +kernel
theorem d_X10_ray_10 : decode M_X10_ray.2.1 10 = .ok (.invokevirtual 149, 3) := by decide +kernel
theorem d_X10_ray_13 : decode M_X10_ray.2.1 13 = .ok (.ifCond .eq 10, 3) := by decide +kernel
theorem d_X10_ray_16 : decode M_X10_ray.2.1 16 = .ok (.iload_n 3, 1) := by decide +kernel
theorem d_X10_ray_17 : decode M_X10_ray.2.1 17 = .ok (.invokestatic 152, 3) := by decide +kernel
theorem d_X10_ray_20 : decode M_X10_ray.2.1 20 = .ok (.ifCond .ne 5, 3) := by decide +kernel
theorem d_X10_ray_23 : decode M_X10_ray.2.1 23 = .ok (.iconst (-1), 1) := by decide +kernel
theorem d_X10_ray_24 : decode M_X10_ray.2.1 24 = .ok (.ireturn, 1) := by decide +kernel
theorem d_X10_ray_25 : decode M_X10_ray.2.1 25 = .ok (.aload_n 0, 1) := by decide +kernel
theorem d_X10_ray_26 : decode M_X10_ray.2.1 26 = .ok (.getfield 26, 3) := by decide +kernel
theorem d_X10_ray_29 : decode M_X10_ray.2.1 29 = .ok (.getfield 141, 3) := by decide +kernel
theorem d_X10_ray_32 : decode M_X10_ray.2.1 32 = .ok (.iload_n 1, 1) := by decide +kernel
theorem d_X10_ray_33 : decode M_X10_ray.2.1 33 = .ok (.aaload, 1) := by decide +kernel
theorem d_X10_ray_34 : decode M_X10_ray.2.1 34 = .ok (.astore 7, 2) := by decide +kernel
theorem d_X10_ray_36 : decode M_X10_ray.2.1 36 = .ok (.aload 7, 2) := by decide +kernel
theorem d_X10_ray_38 : decode M_X10_ray.2.1 38 = .ok (.iload 4, 2) := by decide +kernel
theorem d_X10_ray_40 : decode M_X10_ray.2.1 40 = .ok (.iload 5, 2) := by decide +kernel
theorem d_X10_ray_42 : decode M_X10_ray.2.1 42 = .ok (.invokevirtual 155, 3) := by decide +kernel
theorem d_X10_ray_45 : decode M_X10_ray.2.1 45 = .ok (.ifCond .eq 16, 3) := by decide +kernel
theorem d_X10_ray_48 : decode M_X10_ray.2.1 48 = .ok (.iload 6, 2) := by decide +kernel
theorem d_X10_ray_50 : decode M_X10_ray.2.1 50 = .ok (.iconst 1, 1) := by decide +kernel
theorem d_X10_ray_51 : decode M_X10_ray.2.1 51 = .ok (.if_icmp .lt 10, 3) := by decide +kernel
theorem d_X10_ray_54 : decode M_X10_ray.2.1 54 = .ok (.iload 6, 2) := by decide +kernel
theorem d_X10_ray_56 : decode M_X10_ray.2.1 56 = .ok (.ldc 158, 2) := by decide +kernel
theorem d_X10_ray_58 : decode M_X10_ray.2.1 58 = .ok (.if_icmp .le 5, 3) := by decide +kernel
theorem d_X10_ray_61 : decode M_X10_ray.2.1 61 = .ok (.iconst (-1), 1) := by decide +kernel
theorem d_X10_ray_62 : decode M_X10_ray.2.1 62 = .ok (.ireturn, 1) := by decide +kernel
theorem d_X10_ray_63 : decode M_X10_ray.2.1 63 = .ok (.aload_n 0, 1) := by decide +kernel
theorem d_X10_ray_64 : decode M_X10_ray.2.1 64 = .ok (.getfield 33, 3) := by decide +kernel
theorem d_X10_ray_67 : decode M_X10_ray.2.1 67 = .ok (.aload_n 0, 1) := by decide +kernel
theorem d_X10_ray_68 : decode M_X10_ray.2.1 68 = .ok (.getfield 26, 3) := by decide +kernel
theorem d_X10_ray_71 : decode M_X10_ray.2.1 71 = .ok (.getfield 159, 3) := by decide +kernel
theorem d_X10_ray_74 : decode M_X10_ray.2.1 74 = .ok (.iload_n 2, 1) := by decide +kernel
theorem d_X10_ray_75 : decode M_X10_ray.2.1 75 = .ok (.aaload, 1) := by decide +kernel
theorem d_X10_ray_76 : decode M_X10_ray.2.1 76 = .ok (.iload_n 3, 1) := by decide +kernel
theorem d_X10_ray_77 : decode M_X10_ray.2.1 77 = .ok (.invokevirtual 163, 3) := by decide +kernel
theorem d_X10_ray_80 : decode M_X10_ray.2.1 80 = .ok (.aload_n 0, 1) := by decide +kernel
theorem d_X10_ray_81 : decode M_X10_ray.2.1 81 = .ok (.getfield 33, 3) := by decide +kernel
theorem d_X10_ray_84 : decode M_X10_ray.2.1 84 = .ok (.aload 7, 2) := by decide +kernel
theorem d_X10_ray_86 : decode M_X10_ray.2.1 86 = .ok (.iload 4, 2) := by decide +kernel
theorem d_X10_ray_88 : decode M_X10_ray.2.1 88 = .ok (.iload 5, 2) := by decide +kernel
theorem d_X10_ray_90 : decode M_X10_ray.2.1 90 = .ok (.iload 6, 2) := by decide +kernel
theorem d_X10_ray_92 : decode M_X10_ray.2.1 92 = .ok (.invokevirtual 167, 3) := by decide +kernel
theorem d_X10_ray_95 : decode M_X10_ray.2.1 95 = .ok (.aload_n 0, 1) := by decide +kernel
theorem d_X10_ray_96 : decode M_X10_ray.2.1 96 = .ok (.iconst 1, 1) := by decide +kernel
theorem d_X10_ray_97 : decode M_X10_ray.2.1 97 = .ok (.putfield 37, 3) := by decide +kernel
theorem d_X10_ray_100 : decode M_X10_ray.2.1 100 = .ok (.aload_n 0, 1) := by decide +kernel
theorem d_X10_ray_101 : decode M_X10_ray.2.1 101 = .ok (.getfield 33, 3) := by decide +kernel
theorem d_X10_ray_104 : decode M_X10_ray.2.1 104 = .ok (.getfield 171, 3) := by decide +kernel
theorem d_X10_ray_107 : decode M_X10_ray.2.1 107 = .ok (.ireturn, 1) := by decide +kernel
theorem ce_X10_ray : zw_CeV M_X10_ray 6 := ⟨⟨⟨by decide +kernel, by decide +kernel, by decide +kernel⟩, (zw_mG (List.mem_of_getElem? (i := 879) (by decide +kernel)) rfl), (zw_mG (List.mem_of_getElem? (i := 96) (by decide +kernel)) rfl), by decide, by decide +kernel⟩, (zw_mG (List.mem_of_getElem? (i := 877) (by decide +kernel)) rfl), (zw_mG (List.mem_of_getElem? (i := 878) (by decide +kernel)) rfl)⟩
def f_X10_ray (v0 : Nat) (v1 : Int32) (v2 : Int32) (v3 : Int32) (v4 : Int32) (v5 : Int32) (v6 : Int32) (I : zI) (R : zR) : Option (Int32 × zI) :=
  zw_g (zw_gc v0 10) ((f_X10_isCut v0 v1 I R).bind fun q2 => (if q2 = 0 then some ((-1), I) else (f_X10_isStuff v0 v2 I R).bind fun q4 => (if q4 = 0 then some ((-1), I) else (f_X10_isColour v3).bind fun q6 => (if ¬ q6 = 0 then zw_g (zw_gc (R v0 2) 1) (zw_g (zw_gc (R (R v0 2) 2) 16) (zw_g (zw_in v1 (zw_SH (R (R v0 2) 2)).2) (zw_g (zw_gc (R (R (R v0 2) 2) (Int32.toNatClampNeg v1)) 0) ((f_X0_hasLamp (R (R (R v0 2) 2) (Int32.toNatClampNeg v1)) v4 v5 I).bind fun q12 => (if q12 = 0 then some ((-1), I) else if v6 < 1 then some ((-1), I) else if v6 ≤ 100000 then zw_g (zw_gc (R v0 3) 2) (zw_g (zw_gc (R (R v0 2) 0) 18) (zw_g (zw_in v2 (zw_SH (R (R v0 2) 0)).2) (zw_g (zw_gc (R (R (R v0 2) 0) (Int32.toNatClampNeg v2)) 7) ((f_X2_begin (R v0 3) (R (R (R v0 2) 0) (Int32.toNatClampNeg v2)) v3 I R).bind fun q20 => ((f_X2_follow (R v0 3) (R (R (R v0 2) 2) (Int32.toNatClampNeg v1)) v4 v5 v6 q20 R).bind fun q21 => (zw_let (zw_u q21 v0 4 1 : zI) fun I22 => (some ((I22 (R v0 3) 1), I22)))))))) else some ((-1), I)))))) else some ((-1), I)))))
theorem c_X10_ray (X : zw_X) (v0 : Nat) (v1 : Int32) (v2 : Int32) (v3 : Int32) (v4 : Int32) (v5 : Int32) (v6 : Int32) (I : zI) (R : zR) (J : zJ) {P : Option Value → aS → Prop} (o : Int32 × zI) (hf : f_X10_ray v0 v1 v2 v3 v4 v5 v6 I R = some o) (hk : P (some (.int o.1)) (o.2, R, J)) : zw_C X M_X10_ray 3 0 0 199 [.ref v0, .int v1, .int v2, .int v3, .int v4, .int v5, .int v6] (I, R, J) P := by
  show zy_V X M_X10_ray 3 P 0 [.ref v0, .int v1, .int v2, .int v3, .int v4, .int v5, .int v6, .null] [] (I, R, J)
  unfold f_X10_ray at hf
  refine zv_aload_n (pc := 0) d_X10_ray_0 rfl ?_
  refine zv_iload_n (pc := 1) d_X10_ray_1 rfl ?_
  obtain ⟨g1, hf⟩ := zw_gcE hf (by decide)
  obtain ⟨q2, hq2, hf⟩ := zw_bdE hf
  refine zx_callV (pc := 2) (As := [.int v1]) (o := v0) (st := []) (d2 := 0) (M2 := M_X10_isCut) (P2 := (fun r S => r = (some (.int q2)) ∧ S = (I, R, J))) d_X10_ray_2 (zw_mG (List.mem_of_getElem? (i := 849) (by decide +kernel)) rfl) ce_X10_isCut (zw_RvK g1 rfl rfl) (Nat.le_of_ble_eq_true rfl) rfl (Nat.le_of_ble_eq_true rfl) (by decide) (c_X10_isCut X v0 v1 I R J _ hq2 ⟨rfl, rfl⟩) ?_
  rintro _ _ ⟨rfl, rfl⟩
  show zy_V X M_X10_ray 3 P (2 + 3) [.ref v0, .int v1, .int v2, .int v3, .int v4, .int v5, .int v6, .null] [.int q2] (I, R, J)
  rcases zw_ifE hf with ⟨c3, hf⟩ | ⟨c3, hf⟩
  · refine zv_if_eq (pc := 5) (tg := 23) d_X10_ray_5 (by decide) (fun _ => ?_) (fun q => absurd c3 q)
    refine zv_iconst (pc := 23) d_X10_ray_23 zc_i_m1 ?_
    cases hf
    exact zx_iret (pc := 24) d_X10_ray_24 rfl hk
  · refine zv_if_eq (pc := 5) (tg := 23) d_X10_ray_5 (by decide) (fun q => absurd q c3) (fun _ => ?_)
    refine zv_aload_n (pc := 8) d_X10_ray_8 rfl ?_
    refine zv_iload_n (pc := 9) d_X10_ray_9 rfl ?_
    obtain ⟨q4, hq4, hf⟩ := zw_bdE hf
    refine zx_callV (pc := 10) (As := [.int v2]) (o := v0) (st := []) (d2 := 0) (M2 := M_X10_isStuff) (P2 := (fun r S => r = (some (.int q4)) ∧ S = (I, R, J))) d_X10_ray_10 (zw_mG (List.mem_of_getElem? (i := 880) (by decide +kernel)) rfl) ce_X10_isStuff (zw_RvK g1 rfl rfl) (Nat.le_of_ble_eq_true rfl) rfl (Nat.le_of_ble_eq_true rfl) (by decide) (c_X10_isStuff X v0 v2 I R J _ hq4 ⟨rfl, rfl⟩) ?_
    rintro _ _ ⟨rfl, rfl⟩
    show zy_V X M_X10_ray 3 P (10 + 3) [.ref v0, .int v1, .int v2, .int v3, .int v4, .int v5, .int v6, .null] [.int q4] (I, R, J)
    rcases zw_ifE hf with ⟨c5, hf⟩ | ⟨c5, hf⟩
    · refine zv_if_eq (pc := 13) (tg := 23) d_X10_ray_13 (by decide) (fun _ => ?_) (fun q => absurd c5 q)
      refine zv_iconst (pc := 23) d_X10_ray_23 zc_i_m1 ?_
      cases hf
      exact zx_iret (pc := 24) d_X10_ray_24 rfl hk
    · refine zv_if_eq (pc := 13) (tg := 23) d_X10_ray_13 (by decide) (fun q => absurd q c5) (fun _ => ?_)
      refine zv_iload_n (pc := 16) d_X10_ray_16 rfl ?_
      obtain ⟨q6, hq6, hf⟩ := zw_bdE hf
      refine zx_callS (pc := 17) (As := [.int v3]) (st := []) (d2 := 0) (M2 := M_X10_isColour) (P2 := (fun r S => r = (some (.int q6)) ∧ S = (I, R, J))) d_X10_ray_17 (zw_mG (List.mem_of_getElem? (i := 884) (by decide +kernel)) rfl) ce_X10_isColour (Nat.le_of_ble_eq_true rfl) rfl (Nat.le_of_ble_eq_true rfl) (by decide) (c_X10_isColour X v3 I R J _ hq6 ⟨rfl, rfl⟩) ?_
      rintro _ _ ⟨rfl, rfl⟩
      show zy_V X M_X10_ray 3 P (17 + 3) [.ref v0, .int v1, .int v2, .int v3, .int v4, .int v5, .int v6, .null] [.int q6] (I, R, J)
      rcases zw_ifE hf with ⟨c7, hf⟩ | ⟨c7, hf⟩
      · refine zv_if_ne (pc := 20) (tg := 25) d_X10_ray_20 (by decide) (fun _ => ?_) (fun q => absurd q c7)
        refine zv_aload_n (pc := 25) d_X10_ray_25 rfl ?_
        obtain ⟨g8, hf⟩ := zw_gcE hf (by decide)
        refine zx_getR (pc := 26) d_X10_ray_26 lk_CutStones_26 (by decide) g1 g8 ?_
        obtain ⟨g9, hf⟩ := zw_gcE hf (by decide)
        refine zx_getR (pc := 29) d_X10_ray_29 lk_CutStones_141 (by decide) g8 g9 ?_
        refine zv_iload_n (pc := 32) d_X10_ray_32 rfl ?_
        obtain ⟨i10, hf⟩ := zw_inE hf
        obtain ⟨g11, hf⟩ := zw_gcE hf (by decide)
        refine zx_aald (pc := 33) d_X10_ray_33 g9 (by decide) i10 g11 ?_
        refine zx_astore (pc := 34) (L2 := [.ref v0, .int v1, .int v2, .int v3, .int v4, .int v5, .int v6, .ref (R (R (R v0 2) 2) (Int32.toNatClampNeg v1))]) d_X10_ray_34 (by decide) rfl ?_
        refine zv_aload (pc := 36) d_X10_ray_36 rfl ?_
        refine zv_iload (pc := 38) d_X10_ray_38 rfl ?_
        refine zv_iload (pc := 40) d_X10_ray_40 rfl ?_
        obtain ⟨q12, hq12, hf⟩ := zw_bdE hf
        refine zx_callV (pc := 42) (As := [.int v4, .int v5]) (o := (R (R (R v0 2) 2) (Int32.toNatClampNeg v1))) (st := []) (d2 := 0) (M2 := M_X0_hasLamp) (P2 := (fun r S => r = (some (.int q12)) ∧ S = (I, R, J))) d_X10_ray_42 (zw_mG (List.mem_of_getElem? (i := 887) (by decide +kernel)) rfl) ce_X0_hasLamp (zw_RvK g11 rfl rfl) (Nat.le_of_ble_eq_true rfl) rfl (Nat.le_of_ble_eq_true rfl) (by decide) (c_X0_hasLamp X (R (R (R v0 2) 2) (Int32.toNatClampNeg v1)) v4 v5 I R J _ hq12 ⟨rfl, rfl⟩) ?_
        rintro _ _ ⟨rfl, rfl⟩
        show zy_V X M_X10_ray 3 P (42 + 3) [.ref v0, .int v1, .int v2, .int v3, .int v4, .int v5, .int v6, .ref (R (R (R v0 2) 2) (Int32.toNatClampNeg v1))] [.int q12] (I, R, J)
        rcases zw_ifE hf with ⟨c13, hf⟩ | ⟨c13, hf⟩
        · refine zv_if_eq (pc := 45) (tg := 61) d_X10_ray_45 (by decide) (fun _ => ?_) (fun q => absurd c13 q)
          refine zv_iconst (pc := 61) d_X10_ray_61 zc_i_m1 ?_
          cases hf
          exact zx_iret (pc := 62) d_X10_ray_62 rfl hk
        · refine zv_if_eq (pc := 45) (tg := 61) d_X10_ray_45 (by decide) (fun q => absurd q c13) (fun _ => ?_)
          refine zv_iload (pc := 48) d_X10_ray_48 rfl ?_
          refine zv_iconst (pc := 50) d_X10_ray_50 zc_i_1 ?_
          rcases zw_ifE hf with ⟨c14, hf⟩ | ⟨c14, hf⟩
          · refine zv_icmp_lt (pc := 51) (tg := 61) d_X10_ray_51 (by decide) (fun _ => ?_) (fun q => absurd c14 q)
            refine zv_iconst (pc := 61) d_X10_ray_61 zc_i_m1 ?_
            cases hf
            exact zx_iret (pc := 62) d_X10_ray_62 rfl hk
          · refine zv_icmp_lt (pc := 51) (tg := 61) d_X10_ray_51 (by decide) (fun q => absurd q c14) (fun _ => ?_)
            refine zv_iload (pc := 54) d_X10_ray_54 rfl ?_
            refine zv_ldc (pc := 56) (v := 100000) d_X10_ray_56 (zw_mG (List.mem_of_getElem? (i := 891) (by decide +kernel)) rfl) ?_
            rcases zw_ifE hf with ⟨c15, hf⟩ | ⟨c15, hf⟩
            · refine zv_icmp_le (pc := 58) (tg := 63) d_X10_ray_58 (by decide) (fun _ => ?_) (fun q => absurd c15 q)
              refine zv_aload_n (pc := 63) d_X10_ray_63 rfl ?_
              obtain ⟨g16, hf⟩ := zw_gcE hf (by decide)
              refine zx_getR (pc := 64) d_X10_ray_64 lk_CutStones_33 (by decide) g1 g16 ?_
              refine zv_aload_n (pc := 67) d_X10_ray_67 rfl ?_
              refine zx_getR (pc := 68) d_X10_ray_68 lk_CutStones_26 (by decide) g1 g8 ?_
              obtain ⟨g17, hf⟩ := zw_gcE hf (by decide)
              refine zx_getR (pc := 71) d_X10_ray_71 lk_CutStones_159 (by decide) g8 g17 ?_
              refine zv_iload_n (pc := 74) d_X10_ray_74 rfl ?_
              obtain ⟨i18, hf⟩ := zw_inE hf
              obtain ⟨g19, hf⟩ := zw_gcE hf (by decide)
              refine zx_aald (pc := 75) d_X10_ray_75 g17 (by decide) i18 g19 ?_
              refine zv_iload_n (pc := 76) d_X10_ray_76 rfl ?_
              obtain ⟨q20, hq20, hf⟩ := zw_bdE hf
              refine zx_callV (pc := 77) (As := [.ref (R (R (R v0 2) 0) (Int32.toNatClampNeg v2)), .int v3]) (o := (R v0 3)) (st := []) (d2 := 1) (M2 := M_X2_begin) (P2 := (fun r S => r = none ∧ S = (q20, R, J))) d_X10_ray_77 (zw_mG (List.mem_of_getElem? (i := 892) (by decide +kernel)) rfl) ce_X2_begin (zw_RvK g16 rfl rfl) (Nat.le_of_ble_eq_true rfl) rfl (Nat.le_of_ble_eq_true rfl) (by decide) (c_X2_begin X (R v0 3) (R (R (R v0 2) 0) (Int32.toNatClampNeg v2)) v3 I R J _ hq20 ⟨rfl, rfl⟩) ?_
              rintro _ _ ⟨rfl, rfl⟩
              show zy_V X M_X10_ray 3 P (77 + 3) [.ref v0, .int v1, .int v2, .int v3, .int v4, .int v5, .int v6, .ref (R (R (R v0 2) 2) (Int32.toNatClampNeg v1))] [] (q20, R, J)
              refine zv_aload_n (pc := 80) d_X10_ray_80 rfl ?_
              refine zx_getR (pc := 81) d_X10_ray_81 lk_CutStones_33 (by decide) g1 g16 ?_
              refine zv_aload (pc := 84) d_X10_ray_84 rfl ?_
              refine zv_iload (pc := 86) d_X10_ray_86 rfl ?_
              refine zv_iload (pc := 88) d_X10_ray_88 rfl ?_
              refine zv_iload (pc := 90) d_X10_ray_90 rfl ?_
              obtain ⟨q21, hq21, hf⟩ := zw_bdE hf
              refine zx_callV (pc := 92) (As := [.ref (R (R (R v0 2) 2) (Int32.toNatClampNeg v1)), .int v4, .int v5, .int v6]) (o := (R v0 3)) (st := []) (d2 := 2) (M2 := M_X2_follow) (P2 := (fun r S => r = none ∧ S = (q21, R, J))) d_X10_ray_92 (zw_mG (List.mem_of_getElem? (i := 897) (by decide +kernel)) rfl) ce_X2_follow (zw_RvK g16 rfl rfl) (Nat.le_of_ble_eq_true rfl) rfl (Nat.le_of_ble_eq_true rfl) (by decide) (c_X2_follow X (R v0 3) (R (R (R v0 2) 2) (Int32.toNatClampNeg v1)) v4 v5 v6 q20 R J _ hq21 ⟨rfl, rfl⟩) ?_
              rintro _ _ ⟨rfl, rfl⟩
              show zy_V X M_X10_ray 3 P (92 + 3) [.ref v0, .int v1, .int v2, .int v3, .int v4, .int v5, .int v6, .ref (R (R (R v0 2) 2) (Int32.toNatClampNeg v1))] [] (q21, R, J)
              refine zv_aload_n (pc := 95) d_X10_ray_95 rfl ?_
              refine zv_iconst (pc := 96) d_X10_ray_96 zc_i_1 ?_
              obtain ⟨I22, eI22, hf⟩ := zw_letE hf
              refine zx_putZ (pc := 97) (I2 := I22) d_X10_ray_97 lk_CutStones_37 rfl (Or.inr rfl) g1 eI22 ?_
              refine zv_aload_n (pc := 100) d_X10_ray_100 rfl ?_
              refine zx_getR (pc := 101) d_X10_ray_101 lk_CutStones_33 (by decide) g1 g16 ?_
              refine zx_getI (pc := 104) d_X10_ray_104 lk_CutStones_171 (by decide) g16 ?_
              cases hf
              exact zx_iret (pc := 107) d_X10_ray_107 rfl hk
            · refine zv_icmp_le (pc := 58) (tg := 63) d_X10_ray_58 (by decide) (fun q => absurd q c15) (fun _ => ?_)
              refine zv_iconst (pc := 61) d_X10_ray_61 zc_i_m1 ?_
              cases hf
              exact zx_iret (pc := 62) d_X10_ray_62 rfl hk
      · refine zv_if_ne (pc := 20) (tg := 25) d_X10_ray_20 (by decide) (fun q => absurd q c7) (fun _ => ?_)
        refine zv_iconst (pc := 23) d_X10_ray_23 zc_i_m1 ?_
        cases hf
        exact zx_iret (pc := 24) d_X10_ray_24 rfl hk
