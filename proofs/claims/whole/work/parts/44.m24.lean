abbrev M_X8_keepSign : zw_M := (⟨"CutStones$Tape", "keepSign", "(II)I"⟩, prog_10_method_10_code, 5, (Option.some Jvm.ClassFile.FieldType.int))
theorem d_X8_keepSign_0 : decode M_X8_keepSign.2.1 0 = .ok (.aload_n 0, 1) := by decide +kernel
theorem d_X8_keepSign_1 : decode M_X8_keepSign.2.1 1 = .ok (.iload_n 2, 1) := by decide +kernel
theorem d_X8_keepSign_2 : decode M_X8_keepSign.2.1 2 = .ok (.invokevirtual 38, 3) := by decide +kernel
theorem d_X8_keepSign_5 : decode M_X8_keepSign.2.1 5 = .ok (.istore_n 3, 1) := by decide +kernel
theorem d_X8_keepSign_6 : decode M_X8_keepSign.2.1 6 = .ok (.aload_n 0, 1) := by decide +kernel
theorem d_X8_keepSign_7 : decode M_X8_keepSign.2.1 7 = .ok (.iload_n 2, 1) := by decide +kernel
theorem d_X8_keepSign_8 : decode M_X8_keepSign.2.1 8 = .ok (.iconst 1, 1) := by decide +kernel
theorem d_X8_keepSign_9 : decode M_X8_keepSign.2.1 9 = .ok (.iadd, 1) := by decide +kernel
theorem d_X8_keepSign_10 : decode M_X8_keepSign.2.1 10 = .ok (.invokevirtual 38, 3) := by decide +kernel
theorem d_X8_keepSign_13 : decode M_X8_keepSign.2.1 13 = .ok (.bipush 61, 2) := by decide +kernel
theorem d_X8_keepSign_15 : decode M_X8_keepSign.2.1 15 = .ok (.if_icmp .ne 57, 3) := by decide +kernel
theorem d_X8_keepSign_18 : decode M_X8_keepSign.2.1 18 = .ok (.aload_n 0, 1) := by decide +kernel
theorem d_X8_keepSign_19 : decode M_X8_keepSign.2.1 19 = .ok (.getfield 19, 3) := by decide +kernel
theorem d_X8_keepSign_22 : decode M_X8_keepSign.2.1 22 = .ok (.iload_n 1, 1) := by decide +kernel
theorem d_X8_keepSign_23 : decode M_X8_keepSign.2.1 23 = .ok (.iload_n 3, 1) := by decide +kernel
theorem d_X8_keepSign_24 : decode M_X8_keepSign.2.1 24 = .ok (.bipush 60, 2) := by decide +kernel
theorem d_X8_keepSign_26 : decode M_X8_keepSign.2.1 26 = .ok (.if_icmp .ne 8, 3) := by decide +kernel
theorem d_X8_keepSign_29 : decode M_X8_keepSign.2.1 29 = .ok (.bipush 15, 2) := by decide +kernel
theorem d_X8_keepSign_31 : decode M_X8_keepSign.2.1 31 = .ok (.goto 26, 3) := by decide +kernel
theorem d_X8_keepSign_34 : decode M_X8_keepSign.2.1 34 = .ok (.iload_n 3, 1) := by decide +kernel
theorem d_X8_keepSign_35 : decode M_X8_keepSign.2.1 35 = .ok (.bipush 61, 2) := by decide +kernel
theorem d_X8_keepSign_37 : decode M_X8_keepSign.2.1 37 = .ok (.if_icmp .ne 8, 3) := by decide +kernel
theorem d_X8_keepSign_40 : decode M_X8_keepSign.2.1 40 = .ok (.bipush 16, 2) := by decide +kernel
theorem d_X8_keepSign_42 : decode M_X8_keepSign.2.1 42 = .ok (.goto 15, 3) := by decide +kernel
theorem d_X8_keepSign_45 : decode M_X8_keepSign.2.1 45 = .ok (.iload_n 3, 1) := by decide +kernel
theorem d_X8_keepSign_46 : decode M_X8_keepSign.2.1 46 = .ok (.bipush 33, 2) := by decide +kernel
theorem d_X8_keepSign_48 : decode M_X8_keepSign.2.1 48 = .ok (.if_icmp .ne 8, 3) := by decide +kernel
theorem d_X8_keepSign_51 : decode M_X8_keepSign.2.1 51 = .ok (.bipush 17, 2) := by decide +kernel
theorem d_X8_keepSign_53 : decode M_X8_keepSign.2.1 53 = .ok (.goto 4, 3) := by decide +kernel
theorem d_X8_keepSign_56 : decode M_X8_keepSign.2.1 56 = .ok (.iconst 1, 1) := by decide +kernel
theorem d_X8_keepSign_57 : decode M_X8_keepSign.2.1 57 = .ok (.iastore, 1) := by decide +kernel
theorem d_X8_keepSign_58 : decode M_X8_keepSign.2.1 58 = .ok (.aload_n 0, 1) := by decide +kernel
theorem d_X8_keepSign_59 : decode M_X8_keepSign.2.1 59 = .ok (.getfield 19, 3) := by decide +kernel
theorem d_X8_keepSign_62 : decode M_X8_keepSign.2.1 62 = .ok (.iload_n 1, 1) := by decide +kernel
theorem d_X8_keepSign_63 : decode M_X8_keepSign.2.1 63 = .ok (.iaload, 1) := by decide +kernel
theorem d_X8_keepSign_64 : decode M_X8_keepSign.2.1 64 = .ok (.iconst 1, 1) := by decide +kernel
theorem d_X8_keepSign_65 : decode M_X8_keepSign.2.1 65 = .ok (.if_icmp .eq 7, 3) := by decide +kernel
theorem d_X8_keepSign_68 : decode M_X8_keepSign.2.1 68 = .ok (.iload_n 2, 1) := by decide +kernel
theorem d_X8_keepSign_69 : decode M_X8_keepSign.2.1 69 = .ok (.iconst 2, 1) := by decide +kernel
theorem d_X8_keepSign_70 : decode M_X8_keepSign.2.1 70 = .ok (.iadd, 1) := by decide +kernel
theorem d_X8_keepSign_71 : decode M_X8_keepSign.2.1 71 = .ok (.ireturn, 1) := by decide +kernel
theorem d_X8_keepSign_72 : decode M_X8_keepSign.2.1 72 = .ok (.ldc 84, 2) := by decide +kernel
theorem d_X8_keepSign_74 : decode M_X8_keepSign.2.1 74 = .ok (.iload_n 3, 1) := by decide +kernel
theorem d_X8_keepSign_75 : decode M_X8_keepSign.2.1 75 = .ok (.i2c, 1) := by decide +kernel
theorem d_X8_keepSign_76 : decode M_X8_keepSign.2.1 76 = .ok (.invokevirtual 86, 3) := by decide +kernel
theorem d_X8_keepSign_79 : decode M_X8_keepSign.2.1 79 = .ok (.istore 4, 2) := by decide +kernel
theorem d_X8_keepSign_81 : decode M_X8_keepSign.2.1 81 = .ok (.aload_n 0, 1) := by decide +kernel
theorem d_X8_keepSign_82 : decode M_X8_keepSign.2.1 82 = .ok (.getfield 19, 3) := by decide +kernel
theorem d_X8_keepSign_85 : decode M_X8_keepSign.2.1 85 = .ok (.iload_n 1, 1) := by decide +kernel
theorem d_X8_keepSign_86 : decode M_X8_keepSign.2.1 86 = .ok (.iload 4, 2) := by decide +kernel
theorem d_X8_keepSign_88 : decode M_X8_keepSign.2.1 88 = .ok (.ifCond .ge 7, 3) := by decide +kernel
theorem d_X8_keepSign_91 : decode M_X8_keepSign.2.1 91 = .ok (.iconst 1, 1) := by decide +kernel
theorem d_X8_keepSign_92 : decode M_X8_keepSign.2.1 92 = .ok (.goto 7, 3) := by decide +kernel
theorem d_X8_keepSign_95 : decode M_X8_keepSign.2.1 95 = .ok (.iconst 5, 1) := by decide +kernel
theorem d_X8_keepSign_96 : decode M_X8_keepSign.2.1 96 = .ok (.iload 4, 2) := by decide +kernel
theorem d_X8_keepSign_98 : decode M_X8_keepSign.2.1 98 = .ok (.iadd, 1) := by decide +kernel
theorem d_X8_keepSign_99 : decode M_X8_keepSign.2.1 99 = .ok (.iastore, 1) := by decide +kernel
theorem d_X8_keepSign_100 : decode M_X8_keepSign.2.1 100 = .ok (.iload_n 2, 1) := by decide +kernel
theorem d_X8_keepSign_101 : decode M_X8_keepSign.2.1 101 = .ok (.iconst 1, 1) := by decide +kernel
theorem d_X8_keepSign_102 : decode M_X8_keepSign.2.1 102 = .ok (.iadd, 1) := by decide +kernel
theorem d_X8_keepSign_103 : decode M_X8_keepSign.2.1 103 = .ok (.ireturn, 1) := by decide +kernel
theorem ce_X8_keepSign : zw_CeV M_X8_keepSign 2 := ⟨⟨⟨by decide +kernel, by decide +kernel, by decide +kernel⟩, (zw_mG (List.mem_of_getElem? (i := 692) (by decide +kernel)) rfl), (zw_mG (List.mem_of_getElem? (i := 97) (by decide +kernel)) rfl), by decide, by decide +kernel⟩, (zw_mG (List.mem_of_getElem? (i := 691) (by decide +kernel)) rfl), (zw_mG (List.mem_of_getElem? (i := 5) (by decide +kernel)) rfl)⟩
def j_X8_keepSign_99 (v2 : Int32) (s0 : Nat) (s1 : Int32) (s2 : Int32) (I : zI) (R : zR) : Option (Int32 × zI) :=
  zw_g (zw_gc s0 13) (zw_g (zw_in s1 (zw_SH s0).2) (zw_let (zw_u I s0 (Int32.toNatClampNeg s1) s2 : zI) fun I12 => (some ((v2 + 1), I12))))
theorem j_X8_keepSign_99_ok (X : zw_X) (P : Option Value → aS → Prop) (v2 : Int32) (s0 : Nat) (s1 : Int32) (s2 : Int32) (I : zI) (R : zR) (J : zJ) (o : Int32 × zI) (hf : j_X8_keepSign_99 v2 s0 s1 s2 I R = some o) (hk : P (some (.int o.1)) (o.2, R, J)) : zy_V X M_X8_keepSign 7 P 99 [.null, .null, .int v2, .null, .null] [.int s2, .int s1, .ref s0] (I, R, J) := by
  unfold j_X8_keepSign_99 at hf
  obtain ⟨g10, hf⟩ := zw_gcE hf (by decide)
  obtain ⟨i11, hf⟩ := zw_inE hf
  obtain ⟨I12, eI12, hf⟩ := zw_letE hf
  refine zx_iast (pc := 99) (I2 := I12) d_X8_keepSign_99 g10 i11 eI12 ?_
  refine zv_iload_n (pc := 100) d_X8_keepSign_100 rfl ?_
  refine zv_iconst (pc := 101) d_X8_keepSign_101 zc_i_1 ?_
  refine zv_iadd (pc := 102) d_X8_keepSign_102 ?_
  cases hf
  exact zx_iret (pc := 103) d_X8_keepSign_103 rfl hk
def j_X8_keepSign_72 (v0 : Nat) (v1 : Int32) (v2 : Int32) (v3 : Int32) (I : zI) (R : zR) : Option (Int32 × zI) :=
  zw_g (decide (2 < 3)) ((f_J0_indexOf_0f7a4 2 ((Int32.toUInt32 v3 % 65536).toInt32)).bind fun q6 => (zw_g (zw_gc v0 8) (zw_g (zw_gc (R v0 2) 13) (if 0 ≤ q6 then j_X8_keepSign_99 v2 (R v0 2) v1 (5 + q6) I R else j_X8_keepSign_99 v2 (R v0 2) v1 1 I R))))
theorem j_X8_keepSign_72_ok (X : zw_X) (P : Option Value → aS → Prop) (v0 : Nat) (v1 : Int32) (v2 : Int32) (v3 : Int32) (I : zI) (R : zR) (J : zJ) (o : Int32 × zI) (hf : j_X8_keepSign_72 v0 v1 v2 v3 I R = some o) (hk : P (some (.int o.1)) (o.2, R, J)) : zy_V X M_X8_keepSign 7 P 72 [.ref v0, .int v1, .int v2, .int v3, .null] [] (I, R, J) := by
  unfold j_X8_keepSign_72 at hf
  refine zv_ldcS (pc := 72) (a := 2) d_X8_keepSign_72 (by decide) rfl rfl ?_
  refine zv_iload_n (pc := 74) d_X8_keepSign_74 rfl ?_
  refine zv_i2c (pc := 75) d_X8_keepSign_75 ?_
  obtain ⟨g5, hf⟩ := zw_gE hf
  have g5 := of_decide_eq_true g5
  obtain ⟨q6, hq6, hf⟩ := zw_bdE hf
  refine zx_callV (pc := 76) (As := [.int ((Int32.toUInt32 v3 % 65536).toInt32)]) (o := (1006 + 2)) (st := []) (d2 := 6) (M2 := M_J0_indexOf_0f7a4) (P2 := (fun r S => r = (some (.int q6)) ∧ S = (I, R, J))) d_X8_keepSign_76 (zw_mG (List.mem_of_getElem? (i := 694) (by decide +kernel)) rfl) ce_J0_indexOf_0f7a4 (Or.inr ⟨rfl, 2, g5, rfl⟩) (Nat.le_of_ble_eq_true rfl) rfl (Nat.le_of_ble_eq_true rfl) (by decide) (c_J0_indexOf_0f7a4 X 2 ((Int32.toUInt32 v3 % 65536).toInt32) I R J _ hq6 ⟨rfl, rfl⟩) ?_
  rintro _ _ ⟨rfl, rfl⟩
  show zy_V X M_X8_keepSign 7 P (76 + 3) [.ref v0, .int v1, .int v2, .int v3, .null] [.int q6] (I, R, J)
  refine zx_istore (pc := 79) (x2 := q6) (L2 := [.ref v0, .int v1, .int v2, .int v3, .int q6]) d_X8_keepSign_79 (by decide) rfl rfl ?_
  refine zv_aload_n (pc := 81) d_X8_keepSign_81 rfl ?_
  obtain ⟨g7, hf⟩ := zw_gcE hf (by decide)
  obtain ⟨g8, hf⟩ := zw_gcE hf (by decide)
  refine zx_getR (pc := 82) d_X8_keepSign_82 lk_CutStones_Tape_19 (by decide) g7 g8 ?_
  refine zv_iload_n (pc := 85) d_X8_keepSign_85 rfl ?_
  refine zv_iload (pc := 86) d_X8_keepSign_86 rfl ?_
  rcases zw_ifE hf with ⟨c9, hf⟩ | ⟨c9, hf⟩
  · refine zv_if_ge (pc := 88) (tg := 95) d_X8_keepSign_88 (by decide) (fun _ => ?_) (fun q => absurd c9 q)
    refine zv_iconst (pc := 95) d_X8_keepSign_95 zc_i_5 ?_
    refine zv_iload (pc := 96) d_X8_keepSign_96 rfl ?_
    refine zv_iadd (pc := 98) d_X8_keepSign_98 ?_
    exact zx_weak (zw_leN (zw_leN (zw_leS (zw_leN (zw_leN zw_leZ))))) (j_X8_keepSign_99_ok X P v2 (R v0 2) v1 (5 + q6) I R J _ hf hk)
  · refine zv_if_ge (pc := 88) (tg := 95) d_X8_keepSign_88 (by decide) (fun q => absurd q c9) (fun _ => ?_)
    refine zv_iconst (pc := 91) d_X8_keepSign_91 zc_i_1 ?_
    refine zv_goto (pc := 92) (tg := 99) d_X8_keepSign_92 (by decide) ?_
    exact zx_weak (zw_leN (zw_leN (zw_leS (zw_leN (zw_leN zw_leZ))))) (j_X8_keepSign_99_ok X P v2 (R v0 2) v1 1 I R J _ hf hk)
def j_X8_keepSign_57 (v0 : Nat) (v1 : Int32) (v2 : Int32) (v3 : Int32) (s0 : Nat) (s1 : Int32) (s2 : Int32) (I : zI) (R : zR) : Option (Int32 × zI) :=
  zw_g (zw_gc s0 13) (zw_g (zw_in s1 (zw_SH s0).2) (zw_let (zw_u I s0 (Int32.toNatClampNeg s1) s2 : zI) fun I19 => (zw_g (zw_gc v0 8) (zw_g (zw_gc (R v0 2) 13) (zw_g (zw_in v1 (zw_SH (R v0 2)).2) (if (I19 (R v0 2) (Int32.toNatClampNeg v1)) = 1 then j_X8_keepSign_72 v0 v1 v2 v3 I19 R else some ((v2 + 2), I19)))))))
theorem j_X8_keepSign_57_ok (X : zw_X) (P : Option Value → aS → Prop) (v0 : Nat) (v1 : Int32) (v2 : Int32) (v3 : Int32) (s0 : Nat) (s1 : Int32) (s2 : Int32) (I : zI) (R : zR) (J : zJ) (o : Int32 × zI) (hf : j_X8_keepSign_57 v0 v1 v2 v3 s0 s1 s2 I R = some o) (hk : P (some (.int o.1)) (o.2, R, J)) : zy_V X M_X8_keepSign 7 P 57 [.ref v0, .int v1, .int v2, .int v3, .null] [.int s2, .int s1, .ref s0] (I, R, J) := by
  unfold j_X8_keepSign_57 at hf
  obtain ⟨g17, hf⟩ := zw_gcE hf (by decide)
  obtain ⟨i18, hf⟩ := zw_inE hf
  obtain ⟨I19, eI19, hf⟩ := zw_letE hf
  refine zx_iast (pc := 57) (I2 := I19) d_X8_keepSign_57 g17 i18 eI19 ?_
  refine zv_aload_n (pc := 58) d_X8_keepSign_58 rfl ?_
  obtain ⟨g20, hf⟩ := zw_gcE hf (by decide)
  obtain ⟨g21, hf⟩ := zw_gcE hf (by decide)
  refine zx_getR (pc := 59) d_X8_keepSign_59 lk_CutStones_Tape_19 (by decide) g20 g21 ?_
  refine zv_iload_n (pc := 62) d_X8_keepSign_62 rfl ?_
  obtain ⟨i22, hf⟩ := zw_inE hf
  refine zx_iald (pc := 63) d_X8_keepSign_63 g21 i22 ?_
  refine zv_iconst (pc := 64) d_X8_keepSign_64 zc_i_1 ?_
  rcases zw_ifE hf with ⟨c23, hf⟩ | ⟨c23, hf⟩
  · refine zv_icmp_eq (pc := 65) (tg := 72) d_X8_keepSign_65 (by decide) (fun _ => ?_) (fun q => absurd c23 q)
    exact zx_weak (zw_leS (zw_leS (zw_leS (zw_leS (zw_leN zw_leZ))))) (j_X8_keepSign_72_ok X P v0 v1 v2 v3 I19 R J _ hf hk)
  · refine zv_icmp_eq (pc := 65) (tg := 72) d_X8_keepSign_65 (by decide) (fun q => absurd q c23) (fun _ => ?_)
    refine zv_iload_n (pc := 68) d_X8_keepSign_68 rfl ?_
    refine zv_iconst (pc := 69) d_X8_keepSign_69 zc_i_2 ?_
    refine zv_iadd (pc := 70) d_X8_keepSign_70 ?_
    cases hf
    exact zx_iret (pc := 71) d_X8_keepSign_71 rfl hk
def f_X8_keepSign (v0 : Nat) (v1 : Int32) (v2 : Int32) (I : zI) (R : zR) : Option (Int32 × zI) :=
  zw_g (zw_gc v0 8) ((f_X8_byteAt v0 v2 I R).bind fun q2 => ((f_X8_byteAt v0 (v2 + 1) I R).bind fun q3 => (if ¬ q3 = 61 then j_X8_keepSign_72 v0 v1 v2 q2 I R else zw_g (zw_gc (R v0 2) 13) (if ¬ q2 = 60 then if ¬ q2 = 61 then if ¬ q2 = 33 then j_X8_keepSign_57 v0 v1 v2 q2 (R v0 2) v1 1 I R else j_X8_keepSign_57 v0 v1 v2 q2 (R v0 2) v1 17 I R else j_X8_keepSign_57 v0 v1 v2 q2 (R v0 2) v1 16 I R else j_X8_keepSign_57 v0 v1 v2 q2 (R v0 2) v1 15 I R))))
theorem c_X8_keepSign (X : zw_X) (v0 : Nat) (v1 : Int32) (v2 : Int32) (I : zI) (R : zR) (J : zJ) {P : Option Value → aS → Prop} (o : Int32 × zI) (hf : f_X8_keepSign v0 v1 v2 I R = some o) (hk : P (some (.int o.1)) (o.2, R, J)) : zw_C X M_X8_keepSign 7 0 0 199 [.ref v0, .int v1, .int v2] (I, R, J) P := by
  show zy_V X M_X8_keepSign 7 P 0 [.ref v0, .int v1, .int v2, .null, .null] [] (I, R, J)
  unfold f_X8_keepSign at hf
  refine zv_aload_n (pc := 0) d_X8_keepSign_0 rfl ?_
  refine zv_iload_n (pc := 1) d_X8_keepSign_1 rfl ?_
  obtain ⟨g1, hf⟩ := zw_gcE hf (by decide)
  obtain ⟨q2, hq2, hf⟩ := zw_bdE hf
  refine zx_callV (pc := 2) (As := [.int v2]) (o := v0) (st := []) (d2 := 0) (M2 := M_X8_byteAt) (P2 := (fun r S => r = (some (.int q2)) ∧ S = (I, R, J))) d_X8_keepSign_2 (zw_mG (List.mem_of_getElem? (i := 545) (by decide +kernel)) rfl) ce_X8_byteAt (zw_RvK g1 rfl rfl) (Nat.le_of_ble_eq_true rfl) rfl (Nat.le_of_ble_eq_true rfl) (by decide) (c_X8_byteAt X v0 v2 I R J _ hq2 ⟨rfl, rfl⟩) ?_
  rintro _ _ ⟨rfl, rfl⟩
  show zy_V X M_X8_keepSign 7 P (2 + 3) [.ref v0, .int v1, .int v2, .null, .null] [.int q2] (I, R, J)
  refine zx_istore_n (pc := 5) (x2 := q2) (L2 := [.ref v0, .int v1, .int v2, .int q2, .null]) d_X8_keepSign_5 (by decide) rfl rfl ?_
  refine zv_aload_n (pc := 6) d_X8_keepSign_6 rfl ?_
  refine zv_iload_n (pc := 7) d_X8_keepSign_7 rfl ?_
  refine zv_iconst (pc := 8) d_X8_keepSign_8 zc_i_1 ?_
  refine zv_iadd (pc := 9) d_X8_keepSign_9 ?_
  obtain ⟨q3, hq3, hf⟩ := zw_bdE hf
  refine zx_callV (pc := 10) (As := [.int (v2 + 1)]) (o := v0) (st := []) (d2 := 0) (M2 := M_X8_byteAt) (P2 := (fun r S => r = (some (.int q3)) ∧ S = (I, R, J))) d_X8_keepSign_10 (zw_mG (List.mem_of_getElem? (i := 545) (by decide +kernel)) rfl) ce_X8_byteAt (zw_RvK g1 rfl rfl) (Nat.le_of_ble_eq_true rfl) rfl (Nat.le_of_ble_eq_true rfl) (by decide) (c_X8_byteAt X v0 (v2 + 1) I R J _ hq3 ⟨rfl, rfl⟩) ?_
  rintro _ _ ⟨rfl, rfl⟩
  show zy_V X M_X8_keepSign 7 P (10 + 3) [.ref v0, .int v1, .int v2, .int q2, .null] [.int q3] (I, R, J)
  refine zv_bipush (pc := 13) d_X8_keepSign_13 zc_b_61 ?_
  rcases zw_ifE hf with ⟨c4, hf⟩ | ⟨c4, hf⟩
  · refine zv_icmp_ne (pc := 15) (tg := 72) d_X8_keepSign_15 (by decide) (fun _ => ?_) (fun q => absurd q c4)
    exact zx_weak (zw_leS (zw_leS (zw_leS (zw_leS (zw_leN zw_leZ))))) (j_X8_keepSign_72_ok X P v0 v1 v2 q2 I R J _ hf hk)
  · refine zv_icmp_ne (pc := 15) (tg := 72) d_X8_keepSign_15 (by decide) (fun q => absurd q c4) (fun _ => ?_)
    refine zv_aload_n (pc := 18) d_X8_keepSign_18 rfl ?_
    obtain ⟨g13, hf⟩ := zw_gcE hf (by decide)
    refine zx_getR (pc := 19) d_X8_keepSign_19 lk_CutStones_Tape_19 (by decide) g1 g13 ?_
    refine zv_iload_n (pc := 22) d_X8_keepSign_22 rfl ?_
    refine zv_iload_n (pc := 23) d_X8_keepSign_23 rfl ?_
    refine zv_bipush (pc := 24) d_X8_keepSign_24 zc_b_60 ?_
    rcases zw_ifE hf with ⟨c14, hf⟩ | ⟨c14, hf⟩
    · refine zv_icmp_ne (pc := 26) (tg := 34) d_X8_keepSign_26 (by decide) (fun _ => ?_) (fun q => absurd q c14)
      refine zv_iload_n (pc := 34) d_X8_keepSign_34 rfl ?_
      refine zv_bipush (pc := 35) d_X8_keepSign_35 zc_b_61 ?_
      rcases zw_ifE hf with ⟨c15, hf⟩ | ⟨c15, hf⟩
      · refine zv_icmp_ne (pc := 37) (tg := 45) d_X8_keepSign_37 (by decide) (fun _ => ?_) (fun q => absurd q c15)
        refine zv_iload_n (pc := 45) d_X8_keepSign_45 rfl ?_
        refine zv_bipush (pc := 46) d_X8_keepSign_46 zc_b_33 ?_
        rcases zw_ifE hf with ⟨c16, hf⟩ | ⟨c16, hf⟩
        · refine zv_icmp_ne (pc := 48) (tg := 56) d_X8_keepSign_48 (by decide) (fun _ => ?_) (fun q => absurd q c16)
          refine zv_iconst (pc := 56) d_X8_keepSign_56 zc_i_1 ?_
          exact zx_weak (zw_leS (zw_leS (zw_leS (zw_leS (zw_leN zw_leZ))))) (j_X8_keepSign_57_ok X P v0 v1 v2 q2 (R v0 2) v1 1 I R J _ hf hk)
        · refine zv_icmp_ne (pc := 48) (tg := 56) d_X8_keepSign_48 (by decide) (fun q => absurd q c16) (fun _ => ?_)
          refine zv_bipush (pc := 51) d_X8_keepSign_51 zc_b_17 ?_
          refine zv_goto (pc := 53) (tg := 57) d_X8_keepSign_53 (by decide) ?_
          exact zx_weak (zw_leS (zw_leS (zw_leS (zw_leS (zw_leN zw_leZ))))) (j_X8_keepSign_57_ok X P v0 v1 v2 q2 (R v0 2) v1 17 I R J _ hf hk)
      · refine zv_icmp_ne (pc := 37) (tg := 45) d_X8_keepSign_37 (by decide) (fun q => absurd q c15) (fun _ => ?_)
        refine zv_bipush (pc := 40) d_X8_keepSign_40 zc_b_16 ?_
        refine zv_goto (pc := 42) (tg := 57) d_X8_keepSign_42 (by decide) ?_
        exact zx_weak (zw_leS (zw_leS (zw_leS (zw_leS (zw_leN zw_leZ))))) (j_X8_keepSign_57_ok X P v0 v1 v2 q2 (R v0 2) v1 16 I R J _ hf hk)
    · refine zv_icmp_ne (pc := 26) (tg := 34) d_X8_keepSign_26 (by decide) (fun q => absurd q c14) (fun _ => ?_)
      refine zv_bipush (pc := 29) d_X8_keepSign_29 zc_b_15 ?_
      refine zv_goto (pc := 31) (tg := 57) d_X8_keepSign_31 (by decide) ?_
      exact zx_weak (zw_leS (zw_leS (zw_leS (zw_leS (zw_leN zw_leZ))))) (j_X8_keepSign_57_ok X P v0 v1 v2 q2 (R v0 2) v1 15 I R J _ hf hk)
abbrev M_X0_addRow : zw_M := (⟨"CutStones$Drawing", "addRow", "(LCutStones$Tape;II)V"⟩, prog_2_method_3_code, 5, (Option.none : Option Jvm.ClassFile.FieldType))
theorem d_X0_addRow_0 : decode M_X0_addRow.2.1 0 = .ok (.aload_n 0, 1) := by decide +kernel
theorem d_X0_addRow_1 : decode M_X0_addRow.2.1 1 = .ok (.getfield 19, 3) := by decide +kernel
theorem d_X0_addRow_4 : decode M_X0_addRow.2.1 4 = .ok (.bipush 12, 2) := by decide +kernel
theorem d_X0_addRow_6 : decode M_X0_addRow.2.1 6 = .ok (.if_icmp .lt 4, 3) := by decide +kernel
theorem d_X0_addRow_9 : decode M_X0_addRow.2.1 9 = .ok (.return_, 1) := by decide +kernel
theorem d_X0_addRow_10 : decode M_X0_addRow.2.1 10 = .ok (.aload_n 0, 1) := by decide +kernel
theorem d_X0_addRow_11 : decode M_X0_addRow.2.1 11 = .ok (.getfield 19, 3) := by decide +kernel
theorem d_X0_addRow_14 : decode M_X0_addRow.2.1 14 = .ok (.ifCond .ne 13, 3) := by decide +kernel
theorem d_X0_addRow_17 : decode M_X0_addRow.2.1 17 = .ok (.aload_n 0, 1) := by decide +kernel
theorem d_X0_addRow_18 : decode M_X0_addRow.2.1 18 = .ok (.iload_n 3, 1) := by decide +kernel
theorem d_X0_addRow_19 : decode M_X0_addRow.2.1 19 = .ok (.bipush 12, 2) := by decide +kernel
theorem d_X0_addRow_21 : decode M_X0_addRow.2.1 21 = .ok (.invokestatic 37, 3) := by decide +kernel
theorem d_X0_addRow_24 : decode M_X0_addRow.2.1 24 = .ok (.putfield 15, 3) := by decide +kernel
theorem d_X0_addRow_27 : decode M_X0_addRow.2.1 27 = .ok (.iconst 0, 1) := by decide +kernel
theorem d_X0_addRow_28 : decode M_X0_addRow.2.1 28 = .ok (.istore 4, 2) := by decide +kernel
theorem d_X0_addRow_30 : decode M_X0_addRow.2.1 30 = .ok (.iload 4, 2) := by decide +kernel
theorem d_X0_addRow_32 : decode M_X0_addRow.2.1 32 = .ok (.aload_n 0, 1) := by decide +kernel
theorem d_X0_addRow_33 : decode M_X0_addRow.2.1 33 = .ok (.getfield 15, 3) := by decide +kernel
theorem d_X0_addRow_36 : decode M_X0_addRow.2.1 36 = .ok (.if_icmp .ge 45, 3) := by decide +kernel
theorem d_X0_addRow_39 : decode M_X0_addRow.2.1 39 = .ok (.aload_n 0, 1) := by decide +kernel
theorem d_X0_addRow_40 : decode M_X0_addRow.2.1 40 = .ok (.getfield 9, 3) := by decide +kernel
theorem d_X0_addRow_43 : decode M_X0_addRow.2.1 43 = .ok (.bipush 12, 2) := by decide +kernel
theorem d_X0_addRow_45 : decode M_X0_addRow.2.1 45 = .ok (.aload_n 0, 1) := by decide +kernel
theorem d_X0_addRow_46 : decode M_X0_addRow.2.1 46 = .ok (.getfield 19, 3) := by decide +kernel
theorem d_X0_addRow_49 : decode M_X0_addRow.2.1 49 = .ok (.imul, 1) := by decide +kernel
theorem d_X0_addRow_50 : decode M_X0_addRow.2.1 50 = .ok (.iload 4, 2) := by decide +kernel
theorem d_X0_addRow_52 : decode M_X0_addRow.2.1 52 = .ok (.iadd, 1) := by decide +kernel
theorem d_X0_addRow_53 : decode M_X0_addRow.2.1 53 = .ok (.iload 4, 2) := by decide +kernel
theorem d_X0_addRow_55 : decode M_X0_addRow.2.1 55 = .ok (.iload_n 3, 1) := by decide +kernel
theorem d_X0_addRow_56 : decode M_X0_addRow.2.1 56 = .ok (.if_icmp .ge 17, 3) := by decide +kernel
theorem d_X0_addRow_59 : decode M_X0_addRow.2.1 59 = .ok (.aload_n 1, 1) := by decide +kernel
theorem d_X0_addRow_60 : decode M_X0_addRow.2.1 60 = .ok (.iload_n 2, 1) := by decide +kernel
theorem d_X0_addRow_61 : decode M_X0_addRow.2.1 61 = .ok (.iload 4, 2) := by decide +kernel
theorem d_X0_addRow_63 : decode M_X0_addRow.2.1 63 = .ok (.iadd, 1) := by decide +kernel
theorem d_X0_addRow_64 : decode M_X0_addRow.2.1 64 = .ok (.invokevirtual 43, 3) := by decide +kernel
theorem d_X0_addRow_67 : decode M_X0_addRow.2.1 67 = .ok (.invokestatic 49, 3) := by decide +kernel
theorem d_X0_addRow_70 : decode M_X0_addRow.2.1 70 = .ok (.goto 4, 3) := by decide +kernel
theorem d_X0_addRow_73 : decode M_X0_addRow.2.1 73 = .ok (.iconst 0, 1) := by decide +kernel
theorem d_X0_addRow_74 : decode M_X0_addRow.2.1 74 = .ok (.iastore, 1) := by decide +kernel
theorem d_X0_addRow_75 : decode M_X0_addRow.2.1 75 = .ok (.iinc 4 1, 3) := by decide +kernel
theorem d_X0_addRow_78 : decode M_X0_addRow.2.1 78 = .ok (.goto (-48), 3) := by decide +kernel
theorem d_X0_addRow_81 : decode M_X0_addRow.2.1 81 = .ok (.aload_n 0, 1) := by decide +kernel
theorem d_X0_addRow_82 : decode M_X0_addRow.2.1 82 = .ok (.dup, 1) := by decide +kernel
theorem d_X0_addRow_83 : decode M_X0_addRow.2.1 83 = .ok (.getfield 19, 3) := by decide +kernel
theorem d_X0_addRow_86 : decode M_X0_addRow.2.1 86 = .ok (.iconst 1, 1) := by decide +kernel
theorem d_X0_addRow_87 : decode M_X0_addRow.2.1 87 = .ok (.iadd, 1) := by decide +kernel
theorem d_X0_addRow_88 : decode M_X0_addRow.2.1 88 = .ok (.putfield 19, 3) := by decide +kernel
theorem d_X0_addRow_91 : decode M_X0_addRow.2.1 91 = .ok (.return_, 1) := by decide +kernel
theorem ce_X0_addRow : zw_CeV M_X0_addRow 3 := ⟨⟨⟨by decide +kernel, by decide +kernel, by decide +kernel⟩, (zw_mG (List.mem_of_getElem? (i := 742) (by decide +kernel)) rfl), (zw_mG (List.mem_of_getElem? (i := 101) (by decide +kernel)) rfl), by decide, by decide +kernel⟩, (zw_mG (List.mem_of_getElem? (i := 740) (by decide +kernel)) rfl), (zw_mG (List.mem_of_getElem? (i := 741) (by decide +kernel)) rfl)⟩
def j_X0_addRow_74_30 (v0 : Nat) (v1 : Nat) (v2 : Int32) (v3 : Int32) (v4 : Int32) (s0 : Nat) (s1 : Int32) (s2 : Int32) (I : zI) (R : zR) : Option ((Int32 × zI) ⊕ (zI)) :=
  zw_g (zw_gc s0 13) (zw_g (zw_in s1 (zw_SH s0).2) (zw_let (zw_u I s0 (Int32.toNatClampNeg s1) s2 : zI) fun I10 => (zw_let (v4 + 1 : Int32) fun x11 => (some (.inl (x11, I10))))))
theorem j_X0_addRow_74_30_ok (X : zw_X) (P : Option Value → aS → Prop) (v0 : Nat) (v1 : Nat) (v2 : Int32) (v3 : Int32) (v4 : Int32) (s0 : Nat) (s1 : Int32) (s2 : Int32) (I : zI) (R : zR) (J : zJ) (o : (Int32 × zI) ⊕ (zI)) (hf : j_X0_addRow_74_30 v0 v1 v2 v3 v4 s0 s1 s2 I R = some o) (hk : (zw_se (fun t => zy_V X M_X0_addRow 8 P 30 [.ref v0, .ref v1, .int v2, .int v3, .int t.1] [] (t.2, R, J)) (fun r => zy_V X M_X0_addRow 8 P 81 [.ref v0, .null, .null, .null, .null] [] (r, R, J)) o)) : zy_V X M_X0_addRow 8 P 74 [.ref v0, .ref v1, .int v2, .int v3, .int v4] [.int s2, .int s1, .ref s0] (I, R, J) := by
  unfold j_X0_addRow_74_30 at hf
  obtain ⟨g8, hf⟩ := zw_gcE hf (by decide)
  obtain ⟨i9, hf⟩ := zw_inE hf
  obtain ⟨I10, eI10, hf⟩ := zw_letE hf
  refine zx_iast (pc := 74) (I2 := I10) d_X0_addRow_74 g8 i9 eI10 ?_
  obtain ⟨x11, ex11, hf⟩ := zw_letE hf
  refine zx_iinc (pc := 75) (x2 := x11) (L2 := [.ref v0, .ref v1, .int v2, .int v3, .int x11]) d_X0_addRow_75 (by decide) rfl zc_i_1 ex11 rfl ?_
  refine zv_goto (pc := 78) (tg := 30) d_X0_addRow_78 (by decide) ?_
  cases hf
  exact zx_weak (zw_leS (zw_leS (zw_leS (zw_leS (zw_leS zw_leZ))))) hk
def s_X0_addRow_30 (v0 : Nat) (v1 : Nat) (v2 : Int32) (v3 : Int32) (R : zR) (s : Int32 × zI) : Option ((Int32 × zI) ⊕ (zI)) :=
  zw_g (zw_gc v0 0) (if (s.2 v0 1) ≤ s.1 then some (.inr s.2) else zw_g (zw_gc (R v0 0) 13) (if v3 ≤ s.1 then j_X0_addRow_74_30 v0 v1 v2 v3 s.1 (R v0 0) ((12 * (s.2 v0 2)) + s.1) 0 s.2 R else zw_g (zw_gc v1 8) ((f_X8_byteAt v1 (v2 + s.1) s.2 R).bind fun q13 => ((f_X10_cellOf q13).bind fun q14 => (j_X0_addRow_74_30 v0 v1 v2 v3 s.1 (R v0 0) ((12 * (s.2 v0 2)) + s.1) q14 s.2 R)))))
theorem s_X0_addRow_30_ok (X : zw_X) (P : Option Value → aS → Prop) (v0 : Nat) (v1 : Nat) (v2 : Int32) (v3 : Int32) (R : zR) (J : zJ) (s : Int32 × zI) (o : (Int32 × zI) ⊕ (zI)) (hf : s_X0_addRow_30 v0 v1 v2 v3 R s = some o) (hk : (zw_se (fun t => zy_V X M_X0_addRow 8 P 30 [.ref v0, .ref v1, .int v2, .int v3, .int t.1] [] (t.2, R, J)) (fun r => zy_V X M_X0_addRow 8 P 81 [.ref v0, .null, .null, .null, .null] [] (r, R, J)) o)) : zy_V X M_X0_addRow 8 P 30 [.ref v0, .ref v1, .int v2, .int v3, .int s.1] [] (s.2, R, J) := by
  unfold s_X0_addRow_30 at hf
  refine zv_iload (pc := 30) d_X0_addRow_30 rfl ?_
  refine zv_aload_n (pc := 32) d_X0_addRow_32 rfl ?_
  obtain ⟨g4, hf⟩ := zw_gcE hf (by decide)
  refine zx_getI (pc := 33) d_X0_addRow_33 lk_CutStones_Drawing_15 (by decide) g4 ?_
  rcases zw_ifE hf with ⟨c5, hf⟩ | ⟨c5, hf⟩
  · refine zv_icmp_ge (pc := 36) (tg := 81) d_X0_addRow_36 (by decide) (fun _ => ?_) (fun q => absurd c5 q)
    cases hf
    exact zx_weak (zw_leS (zw_leN (zw_leN (zw_leN (zw_leN zw_leZ))))) hk
  · refine zv_icmp_ge (pc := 36) (tg := 81) d_X0_addRow_36 (by decide) (fun q => absurd q c5) (fun _ => ?_)
    refine zv_aload_n (pc := 39) d_X0_addRow_39 rfl ?_
    obtain ⟨g6, hf⟩ := zw_gcE hf (by decide)
    refine zx_getR (pc := 40) d_X0_addRow_40 lk_CutStones_Drawing_9 (by decide) g4 g6 ?_
    refine zv_bipush (pc := 43) d_X0_addRow_43 zc_b_12 ?_
    refine zv_aload_n (pc := 45) d_X0_addRow_45 rfl ?_
    refine zx_getI (pc := 46) d_X0_addRow_46 lk_CutStones_Drawing_19 (by decide) g4 ?_
    refine zv_imul (pc := 49) d_X0_addRow_49 ?_
    refine zv_iload (pc := 50) d_X0_addRow_50 rfl ?_
    refine zv_iadd (pc := 52) d_X0_addRow_52 ?_
    refine zv_iload (pc := 53) d_X0_addRow_53 rfl ?_
    refine zv_iload_n (pc := 55) d_X0_addRow_55 rfl ?_
    rcases zw_ifE hf with ⟨c7, hf⟩ | ⟨c7, hf⟩
    · refine zv_icmp_ge (pc := 56) (tg := 73) d_X0_addRow_56 (by decide) (fun _ => ?_) (fun q => absurd c7 q)
      refine zv_iconst (pc := 73) d_X0_addRow_73 zc_i_0 ?_
      exact zx_weak (zw_leS (zw_leS (zw_leS (zw_leS (zw_leS zw_leZ))))) (j_X0_addRow_74_30_ok X P v0 v1 v2 v3 s.1 (R v0 0) ((12 * (s.2 v0 2)) + s.1) 0 s.2 R J _ hf hk)
    · refine zv_icmp_ge (pc := 56) (tg := 73) d_X0_addRow_56 (by decide) (fun q => absurd q c7) (fun _ => ?_)
      refine zv_aload_n (pc := 59) d_X0_addRow_59 rfl ?_
      refine zv_iload_n (pc := 60) d_X0_addRow_60 rfl ?_
      refine zv_iload (pc := 61) d_X0_addRow_61 rfl ?_
      refine zv_iadd (pc := 63) d_X0_addRow_63 ?_
      obtain ⟨g12, hf⟩ := zw_gcE hf (by decide)
      obtain ⟨q13, hq13, hf⟩ := zw_bdE hf
      refine zx_callV (pc := 64) (As := [.int (v2 + s.1)]) (o := v1) (st := [.int ((12 * (s.2 v0 2)) + s.1), .ref (R v0 0)]) (d2 := 0) (M2 := M_X8_byteAt) (P2 := (fun r S => r = (some (.int q13)) ∧ S = (s.2, R, J))) d_X0_addRow_64 (zw_mG (List.mem_of_getElem? (i := 744) (by decide +kernel)) rfl) ce_X8_byteAt (zw_RvK g12 rfl rfl) (Nat.le_of_ble_eq_true rfl) rfl (Nat.le_of_ble_eq_true rfl) (by decide) (c_X8_byteAt X v1 (v2 + s.1) s.2 R J _ hq13 ⟨rfl, rfl⟩) ?_
      rintro _ _ ⟨rfl, rfl⟩
      show zy_V X M_X0_addRow 8 P (64 + 3) [.ref v0, .ref v1, .int v2, .int v3, .int s.1] [.int q13, .int ((12 * (s.2 v0 2)) + s.1), .ref (R v0 0)] (s.2, R, J)
      obtain ⟨q14, hq14, hf⟩ := zw_bdE hf
      refine zx_callSN (pc := 67) (As := [.int q13]) (st := [.int ((12 * (s.2 v0 2)) + s.1), .ref (R v0 0)]) (d2 := 7) (M2 := M_X10_cellOf) (P2 := (fun r S => r = (some (.int q14)) ∧ S = (s.2, R, J))) d_X0_addRow_67 (by decide +kernel) ce_X10_cellOf (Nat.le_of_ble_eq_true rfl) rfl (Nat.le_of_ble_eq_true rfl) (by decide) (c_X10_cellOf X q13 s.2 R J _ hq14 ⟨rfl, rfl⟩) ?_
      rintro _ _ ⟨rfl, rfl⟩
      show zy_V X M_X0_addRow 8 P (67 + 3) [.ref v0, .ref v1, .int v2, .int v3, .int s.1] [.int q14, .int ((12 * (s.2 v0 2)) + s.1), .ref (R v0 0)] (s.2, R, J)
      refine zv_goto (pc := 70) (tg := 74) d_X0_addRow_70 (by decide) ?_
      exact zx_weak (zw_leS (zw_leS (zw_leS (zw_leS (zw_leS zw_leZ))))) (j_X0_addRow_74_30_ok X P v0 v1 v2 v3 s.1 (R v0 0) ((12 * (s.2 v0 2)) + s.1) q14 s.2 R J _ hf hk)
theorem s_X0_addRow_30_lp (X : zw_X) (P : Option Value → aS → Prop) (v0 : Nat) (v1 : Nat) (v2 : Int32) (v3 : Int32) (R : zR) (J : zJ) (n : Nat) (s : Int32 × zI) (r : zI) (h : zw_it (s_X0_addRow_30 v0 v1 v2 v3 R) n s = some r) (hq : zy_V X M_X0_addRow 8 P 81 [.ref v0, .null, .null, .null, .null] [] (r, R, J)) : zy_V X M_X0_addRow 8 P 30 [.ref v0, .ref v1, .int v2, .int v3, .int s.1] [] (s.2, R, J) :=
  zw_itE (A := (fun t : Int32 × zI => zy_V X M_X0_addRow 8 P 30 [.ref v0, .ref v1, .int v2, .int v3, .int t.1] [] (t.2, R, J))) (Q := (fun r : zI => zy_V X M_X0_addRow 8 P 81 [.ref v0, .null, .null, .null, .null] [] (r, R, J))) (fun s o h1 h2 => s_X0_addRow_30_ok X P v0 v1 v2 v3 R J s o h1 h2) n s r h hq
def j_X0_addRow_27 (v0 : Nat) (v1 : Nat) (v2 : Int32) (v3 : Int32) (I : zI) (R : zR) : Option (zI) :=
  (zw_it (s_X0_addRow_30 v0 v1 v2 v3 R) 1000000 (0, I)).bind fun q15 => (zw_g (zw_gc v0 0) (zw_let (zw_u q15 v0 2 ((q15 v0 2) + 1) : zI) fun I17 => (some I17)))
theorem j_X0_addRow_27_ok (X : zw_X) (P : Option Value → aS → Prop) (v0 : Nat) (v1 : Nat) (v2 : Int32) (v3 : Int32) (I : zI) (R : zR) (J : zJ) (o : zI) (hf : j_X0_addRow_27 v0 v1 v2 v3 I R = some o) (hk : P none (o, R, J)) : zy_V X M_X0_addRow 8 P 27 [.ref v0, .ref v1, .int v2, .int v3, .null] [] (I, R, J) := by
  unfold j_X0_addRow_27 at hf
  refine zv_iconst (pc := 27) d_X0_addRow_27 zc_i_0 ?_
  refine zx_istore (pc := 28) (x2 := 0) (L2 := [.ref v0, .ref v1, .int v2, .int v3, .int 0]) d_X0_addRow_28 (by decide) rfl rfl ?_
  obtain ⟨q15, hq15, hf⟩ := zw_bdE hf
  refine zx_weak (L' := [.ref v0, .ref v1, .int v2, .int v3, .int 0]) (zw_leS (zw_leS (zw_leS (zw_leS (zw_leS zw_leZ))))) (s_X0_addRow_30_lp X P v0 v1 v2 v3 R J _ _ _ hq15 ?_)
  show zy_V X M_X0_addRow 8 P 81 [.ref v0, .null, .null, .null, .null] [] (q15, R, J)
  refine zv_aload_n (pc := 81) d_X0_addRow_81 rfl ?_
  refine zv_dup (pc := 82) d_X0_addRow_82 rfl ?_
  obtain ⟨g16, hf⟩ := zw_gcE hf (by decide)
  refine zx_getI (pc := 83) d_X0_addRow_83 lk_CutStones_Drawing_19 (by decide) g16 ?_
  refine zv_iconst (pc := 86) d_X0_addRow_86 zc_i_1 ?_
  refine zv_iadd (pc := 87) d_X0_addRow_87 ?_
  obtain ⟨I17, eI17, hf⟩ := zw_letE hf
  refine zx_putI (pc := 88) (I2 := I17) d_X0_addRow_88 lk_CutStones_Drawing_19 rfl g16 eI17 ?_
  cases hf
  exact zx_vret (pc := 91) d_X0_addRow_91 rfl hk
def f_X0_addRow (v0 : Nat) (v1 : Nat) (v2 : Int32) (v3 : Int32) (I : zI) (R : zR) : Option (zI) :=
  zw_g (zw_gc v0 0) (if (I v0 2) < 12 then if ¬ (I v0 2) = 0 then j_X0_addRow_27 v0 v1 v2 v3 I R else zw_let ((if 12 < v3 then 12 else v3) : Int32) fun x18 => (zw_let (zw_u I v0 1 x18 : zI) fun I19 => (j_X0_addRow_27 v0 v1 v2 v3 I19 R)) else some I)
theorem c_X0_addRow (X : zw_X) (v0 : Nat) (v1 : Nat) (v2 : Int32) (v3 : Int32) (I : zI) (R : zR) (J : zJ) {P : Option Value → aS → Prop} (o : zI) (hf : f_X0_addRow v0 v1 v2 v3 I R = some o) (hk : P none (o, R, J)) : zw_C X M_X0_addRow 8 0 0 199 [.ref v0, .ref v1, .int v2, .int v3] (I, R, J) P := by
  show zy_V X M_X0_addRow 8 P 0 [.ref v0, .ref v1, .int v2, .int v3, .null] [] (I, R, J)
  unfold f_X0_addRow at hf
  refine zv_aload_n (pc := 0) d_X0_addRow_0 rfl ?_
  obtain ⟨g1, hf⟩ := zw_gcE hf (by decide)
  refine zx_getI (pc := 1) d_X0_addRow_1 lk_CutStones_Drawing_19 (by decide) g1 ?_
  refine zv_bipush (pc := 4) d_X0_addRow_4 zc_b_12 ?_
  rcases zw_ifE hf with ⟨c2, hf⟩ | ⟨c2, hf⟩
  · refine zv_icmp_lt (pc := 6) (tg := 10) d_X0_addRow_6 (by decide) (fun _ => ?_) (fun q => absurd c2 q)
    refine zv_aload_n (pc := 10) d_X0_addRow_10 rfl ?_
    refine zx_getI (pc := 11) d_X0_addRow_11 lk_CutStones_Drawing_19 (by decide) g1 ?_
    rcases zw_ifE hf with ⟨c3, hf⟩ | ⟨c3, hf⟩
    · refine zv_if_ne (pc := 14) (tg := 27) d_X0_addRow_14 (by decide) (fun _ => ?_) (fun q => absurd q c3)
      exact zx_weak (zw_leS (zw_leS (zw_leS (zw_leS (zw_leN zw_leZ))))) (j_X0_addRow_27_ok X P v0 v1 v2 v3 I R J _ hf hk)
    · refine zv_if_ne (pc := 14) (tg := 27) d_X0_addRow_14 (by decide) (fun q => absurd q c3) (fun _ => ?_)
      refine zv_aload_n (pc := 17) d_X0_addRow_17 rfl ?_
      refine zv_iload_n (pc := 18) d_X0_addRow_18 rfl ?_
      refine zv_bipush (pc := 19) d_X0_addRow_19 zc_b_12 ?_
      refine zv_min (pc := 21) d_X0_addRow_21 (zw_mG (List.mem_of_getElem? (i := 743) (by decide +kernel)) rfl) (by decide) (Nat.le_of_ble_eq_true rfl) ⟨Nat.le_refl _, Nat.le_refl _⟩ ?_
      obtain ⟨x18, ex18, hf⟩ := zw_letE hf
      rw [← ex18]
      obtain ⟨I19, eI19, hf⟩ := zw_letE hf
      refine zx_putI (pc := 24) (I2 := I19) d_X0_addRow_24 lk_CutStones_Drawing_15 rfl g1 eI19 ?_
      exact zx_weak (zw_leS (zw_leS (zw_leS (zw_leS (zw_leN zw_leZ))))) (j_X0_addRow_27_ok X P v0 v1 v2 v3 I19 R J _ hf hk)
  · refine zv_icmp_lt (pc := 6) (tg := 10) d_X0_addRow_6 (by decide) (fun q => absurd q c2) (fun _ => ?_)
    cases hf
    exact zx_vret (pc := 9) d_X0_addRow_9 rfl hk
abbrev M_X11_left : zw_M := (⟨"CutStonesModel", "left", "(I)I"⟩, prog_13_method_86_code, 2, (Option.some Jvm.ClassFile.FieldType.int))
theorem d_X11_left_0 : decode M_X11_left.2.1 0 = .ok (.aload_n 0, 1) := by decide +kernel
theorem d_X11_left_1 : decode M_X11_left.2.1 1 = .ok (.iload_n 1, 1) := by decide +kernel
theorem d_X11_left_2 : decode M_X11_left.2.1 2 = .ok (.invokevirtual 449, 3) := by decide +kernel
theorem d_X11_left_5 : decode M_X11_left.2.1 5 = .ok (.ifCond .eq 11, 3) := by decide +kernel
theorem d_X11_left_8 : decode M_X11_left.2.1 8 = .ok (.aload_n 0, 1) := by decide +kernel
theorem d_X11_left_9 : decode M_X11_left.2.1 9 = .ok (.iload_n 1, 1) := by decide +kernel
theorem d_X11_left_10 : decode M_X11_left.2.1 10 = .ok (.invokevirtual 455, 3) := by decide +kernel
theorem d_X11_left_13 : decode M_X11_left.2.1 13 = .ok (.goto 4, 3) := by decide +kernel
theorem d_X11_left_16 : decode M_X11_left.2.1 16 = .ok (.iconst (-1), 1) := by decide +kernel
theorem d_X11_left_17 : decode M_X11_left.2.1 17 = .ok (.ireturn, 1) := by decide +kernel
theorem ce_X11_left : zw_CeV M_X11_left 1 := ⟨⟨⟨by decide +kernel, by decide +kernel, by decide +kernel⟩, (zw_mG (List.mem_of_getElem? (i := 1716) (by decide +kernel)) rfl), (zw_mG (List.mem_of_getElem? (i := 108) (by decide +kernel)) rfl), by decide, by decide +kernel⟩, (zw_mG (List.mem_of_getElem? (i := 1714) (by decide +kernel)) rfl), (zw_mG (List.mem_of_getElem? (i := 1715) (by decide +kernel)) rfl)⟩
def f_X11_left (v0 : Nat) (v1 : Int32) (I : zI) (R : zR) : Option (Int32 × zI) :=
  zw_g (zw_gc v0 11) ((f_X11_isKnown v0 v1 I).bind fun q2 => (if q2 = 0 then some ((-1), I) else (f_X11_leftBy v0 v1 I R).bind fun q4 => (some (q4.1, q4.2))))
theorem c_X11_left (X : zw_X) (v0 : Nat) (v1 : Int32) (I : zI) (R : zR) (J : zJ) {P : Option Value → aS → Prop} (o : Int32 × zI) (hf : f_X11_left v0 v1 I R = some o) (hk : P (some (.int o.1)) (o.2, R, J)) : zw_C X M_X11_left 8 0 0 199 [.ref v0, .int v1] (I, R, J) P := by
  show zy_V X M_X11_left 8 P 0 [.ref v0, .int v1] [] (I, R, J)
  unfold f_X11_left at hf
  refine zv_aload_n (pc := 0) d_X11_left_0 rfl ?_
  refine zv_iload_n (pc := 1) d_X11_left_1 rfl ?_
  obtain ⟨g1, hf⟩ := zw_gcE hf (by decide)
  obtain ⟨q2, hq2, hf⟩ := zw_bdE hf
  refine zx_callV (pc := 2) (As := [.int v1]) (o := v0) (st := []) (d2 := 1) (M2 := M_X11_isKnown) (P2 := (fun r S => r = (some (.int q2)) ∧ S = (I, R, J))) d_X11_left_2 (zw_mG (List.mem_of_getElem? (i := 1701) (by decide +kernel)) rfl) ce_X11_isKnown (zw_RvK g1 rfl rfl) (Nat.le_of_ble_eq_true rfl) rfl (Nat.le_of_ble_eq_true rfl) (by decide) (c_X11_isKnown X v0 v1 I R J _ hq2 ⟨rfl, rfl⟩) ?_
  rintro _ _ ⟨rfl, rfl⟩
  show zy_V X M_X11_left 8 P (2 + 3) [.ref v0, .int v1] [.int q2] (I, R, J)
  rcases zw_ifE hf with ⟨c3, hf⟩ | ⟨c3, hf⟩
  · refine zv_if_eq (pc := 5) (tg := 16) d_X11_left_5 (by decide) (fun _ => ?_) (fun q => absurd c3 q)
    refine zv_iconst (pc := 16) d_X11_left_16 zc_i_m1 ?_
    cases hf
    exact zx_iret (pc := 17) d_X11_left_17 rfl hk
  · refine zv_if_eq (pc := 5) (tg := 16) d_X11_left_5 (by decide) (fun q => absurd q c3) (fun _ => ?_)
    refine zv_aload_n (pc := 8) d_X11_left_8 rfl ?_
    refine zv_iload_n (pc := 9) d_X11_left_9 rfl ?_
    obtain ⟨q4, hq4, hf⟩ := zw_bdE hf
    refine zx_callV (pc := 10) (As := [.int v1]) (o := v0) (st := []) (d2 := 7) (M2 := M_X11_leftBy) (P2 := (fun r S => r = (some (.int q4.1)) ∧ S = (q4.2, R, J))) d_X11_left_10 (zw_mG (List.mem_of_getElem? (i := 1717) (by decide +kernel)) rfl) ce_X11_leftBy (zw_RvK g1 rfl rfl) (Nat.le_of_ble_eq_true rfl) rfl (Nat.le_of_ble_eq_true rfl) (by decide) (c_X11_leftBy X v0 v1 I R J _ hq4 ⟨rfl, rfl⟩) ?_
    rintro _ _ ⟨rfl, rfl⟩
    show zy_V X M_X11_left 8 P (10 + 3) [.ref v0, .int v1] [.int q4.1] (q4.2, R, J)
    refine zv_goto (pc := 13) (tg := 17) d_X11_left_13 (by decide) ?_
    cases hf
    exact zx_iret (pc := 17) d_X11_left_17 rfl hk
abbrev M_X11_next : zw_M := (⟨"CutStonesModel", "next", "(I)I"⟩, prog_13_method_87_code, 11, (Option.some Jvm.ClassFile.FieldType.int))
theorem d_X11_next_0 : decode M_X11_next.2.1 0 = .ok (.aload_n 0, 1) := by decide +kernel
theorem d_X11_next_1 : decode M_X11_next.2.1 1 = .ok (.iload_n 1, 1) := by decide +kernel
theorem d_X11_next_2 : decode M_X11_next.2.1 2 = .ok (.invokevirtual 449, 3) := by decide +kernel
theorem d_X11_next_5 : decode M_X11_next.2.1 5 = .ok (.ifCond .ne 5, 3) := by decide +kernel
theorem d_X11_next_8 : decode M_X11_next.2.1 8 = .ok (.iconst (-1), 1) := by decide +kernel
theorem d_X11_next_9 : decode M_X11_next.2.1 9 = .ok (.ireturn, 1) := by decide +kernel
theorem d_X11_next_10 : decode M_X11_next.2.1 10 = .ok (.aload_n 0, 1) := by decide +kernel
theorem d_X11_next_11 : decode M_X11_next.2.1 11 = .ok (.iload_n 1, 1) := by decide +kernel
theorem d_X11_next_12 : decode M_X11_next.2.1 12 = .ok (.invokevirtual 455, 3) := by decide +kernel
theorem d_X11_next_15 : decode M_X11_next.2.1 15 = .ok (.istore_n 2, 1) := by decide +kernel
theorem d_X11_next_16 : decode M_X11_next.2.1 16 = .ok (.iload_n 2, 1) := by decide +kernel
theorem d_X11_next_17 : decode M_X11_next.2.1 17 = .ok (.iload_n 2, 1) := by decide +kernel
theorem d_X11_next_18 : decode M_X11_next.2.1 18 = .ok (.iconst 1, 1) := by decide +kernel
theorem d_X11_next_19 : decode M_X11_next.2.1 19 = .ok (.isub, 1) := by decide +kernel
theorem d_X11_next_20 : decode M_X11_next.2.1 20 = .ok (.iand, 1) := by decide +kernel
theorem d_X11_next_21 : decode M_X11_next.2.1 21 = .ok (.ifCond .ne 6, 3) := by decide +kernel
theorem d_X11_next_24 : decode M_X11_next.2.1 24 = .ok (.bipush (-2), 2) := by decide +kernel
theorem d_X11_next_26 : decode M_X11_next.2.1 26 = .ok (.ireturn, 1) := by decide +kernel
theorem d_X11_next_27 : decode M_X11_next.2.1 27 = .ok (.bipush (-2), 2) := by decide +kernel
theorem d_X11_next_29 : decode M_X11_next.2.1 29 = .ok (.istore_n 3, 1) := by decide +kernel
theorem d_X11_next_30 : decode M_X11_next.2.1 30 = .ok (.iconst (-1), 1) := by decide +kernel
theorem d_X11_next_31 : decode M_X11_next.2.1 31 = .ok (.istore 4, 2) := by decide +kernel
theorem d_X11_next_33 : decode M_X11_next.2.1 33 = .ok (.iconst 0, 1) := by decide +kernel
theorem d_X11_next_34 : decode M_X11_next.2.1 34 = .ok (.istore 5, 2) := by decide +kernel
theorem d_X11_next_36 : decode M_X11_next.2.1 36 = .ok (.iload 5, 2) := by decide +kernel
theorem d_X11_next_38 : decode M_X11_next.2.1 38 = .ok (.aload_n 0, 1) := by decide +kernel
theorem d_X11_next_39 : decode M_X11_next.2.1 39 = .ok (.getfield 58, 3) := by decide +kernel
theorem d_X11_next_42 : decode M_X11_next.2.1 42 = .ok (.aload_n 0, 1) := by decide +kernel
theorem d_X11_next_43 : decode M_X11_next.2.1 43 = .ok (.getfield 248, 3) := by decide +kernel
theorem d_X11_next_46 : decode M_X11_next.2.1 46 = .ok (.iaload, 1) := by decide +kernel
theorem d_X11_next_47 : decode M_X11_next.2.1 47 = .ok (.if_icmp .ge 132, 3) := by decide +kernel
theorem d_X11_next_50 : decode M_X11_next.2.1 50 = .ok (.iconst 0, 1) := by decide +kernel
theorem d_X11_next_51 : decode M_X11_next.2.1 51 = .ok (.istore 6, 2) := by decide +kernel
theorem d_X11_next_53 : decode M_X11_next.2.1 53 = .ok (.iload 6, 2) := by decide +kernel
theorem d_X11_next_55 : decode M_X11_next.2.1 55 = .ok (.iconst 4, 1) := by decide +kernel
theorem d_X11_next_56 : decode M_X11_next.2.1 56 = .ok (.if_icmp .ge 117, 3) := by decide +kernel
theorem d_X11_next_59 : decode M_X11_next.2.1 59 = .ok (.iconst (-1), 1) := by decide +kernel
theorem d_X11_next_60 : decode M_X11_next.2.1 60 = .ok (.istore 7, 2) := by decide +kernel
theorem d_X11_next_62 : decode M_X11_next.2.1 62 = .ok (.iconst (-1), 1) := by decide +kernel
theorem d_X11_next_63 : decode M_X11_next.2.1 63 = .ok (.istore 8, 2) := by decide +kernel
theorem d_X11_next_65 : decode M_X11_next.2.1 65 = .ok (.iconst 0, 1) := by decide +kernel
theorem d_X11_next_66 : decode M_X11_next.2.1 66 = .ok (.istore 9, 2) := by decide +kernel
theorem d_X11_next_68 : decode M_X11_next.2.1 68 = .ok (.iload 9, 2) := by decide +kernel
theorem d_X11_next_70 : decode M_X11_next.2.1 70 = .ok (.aload_n 0, 1) := by decide +kernel
theorem d_X11_next_71 : decode M_X11_next.2.1 71 = .ok (.getfield 46, 3) := by decide +kernel
theorem d_X11_next_74 : decode M_X11_next.2.1 74 = .ok (.aload_n 0, 1) := by decide +kernel
theorem d_X11_next_75 : decode M_X11_next.2.1 75 = .ok (.getfield 248, 3) := by decide +kernel
theorem d_X11_next_78 : decode M_X11_next.2.1 78 = .ok (.iaload, 1) := by decide +kernel
theorem d_X11_next_79 : decode M_X11_next.2.1 79 = .ok (.if_icmp .ge 60, 3) := by decide +kernel
theorem d_X11_next_82 : decode M_X11_next.2.1 82 = .ok (.iload_n 2, 1) := by decide +kernel
theorem d_X11_next_83 : decode M_X11_next.2.1 83 = .ok (.iload 9, 2) := by decide +kernel
theorem d_X11_next_85 : decode M_X11_next.2.1 85 = .ok (.ishr, 1) := by decide +kernel
theorem d_X11_next_86 : decode M_X11_next.2.1 86 = .ok (.iconst 1, 1) := by decide +kernel
theorem d_X11_next_87 : decode M_X11_next.2.1 87 = .ok (.iand, 1) := by decide +kernel
theorem d_X11_next_88 : decode M_X11_next.2.1 88 = .ok (.ifCond .ne 6, 3) := by decide +kernel
theorem d_X11_next_91 : decode M_X11_next.2.1 91 = .ok (.goto 42, 3) := by decide +kernel
theorem d_X11_next_94 : decode M_X11_next.2.1 94 = .ok (.aload_n 0, 1) := by decide +kernel
theorem d_X11_next_95 : decode M_X11_next.2.1 95 = .ok (.iload 5, 2) := by decide +kernel
theorem d_X11_next_97 : decode M_X11_next.2.1 97 = .ok (.iload 9, 2) := by decide +kernel
theorem d_X11_next_99 : decode M_X11_next.2.1 99 = .ok (.iload 6, 2) := by decide +kernel
theorem d_X11_next_101 : decode M_X11_next.2.1 101 = .ok (.invokevirtual 443, 3) := by decide +kernel
theorem d_X11_next_104 : decode M_X11_next.2.1 104 = .ok (.istore 10, 2) := by decide +kernel
theorem d_X11_next_106 : decode M_X11_next.2.1 106 = .ok (.iload 7, 2) := by decide +kernel
theorem d_X11_next_108 : decode M_X11_next.2.1 108 = .ok (.ifCond .lt 10, 3) := by decide +kernel
theorem d_X11_next_111 : decode M_X11_next.2.1 111 = .ok (.iload 10, 2) := by decide +kernel
theorem d_X11_next_113 : decode M_X11_next.2.1 113 = .ok (.iload 7, 2) := by decide +kernel
theorem d_X11_next_115 : decode M_X11_next.2.1 115 = .ok (.if_icmp .ge 7, 3) := by decide +kernel
theorem d_X11_next_118 : decode M_X11_next.2.1 118 = .ok (.iload 10, 2) := by decide +kernel
theorem d_X11_next_120 : decode M_X11_next.2.1 120 = .ok (.istore 7, 2) := by decide +kernel
theorem d_X11_next_122 : decode M_X11_next.2.1 122 = .ok (.iload 10, 2) := by decide +kernel
theorem d_X11_next_124 : decode M_X11_next.2.1 124 = .ok (.iload 8, 2) := by decide +kernel
theorem d_X11_next_126 : decode M_X11_next.2.1 126 = .ok (.if_icmp .le 7, 3) := by decide +kernel
theorem d_X11_next_129 : decode M_X11_next.2.1 129 = .ok (.iload 10, 2) := by decide +kernel
theorem d_X11_next_131 : decode M_X11_next.2.1 131 = .ok (.istore 8, 2) := by decide +kernel
theorem d_X11_next_133 : decode M_X11_next.2.1 133 = .ok (.iinc 9 1, 3) := by decide +kernel
theorem d_X11_next_136 : decode M_X11_next.2.1 136 = .ok (.goto (-68), 3) := by decide +kernel
theorem d_X11_next_139 : decode M_X11_next.2.1 139 = .ok (.iload 8, 2) := by decide +kernel
theorem d_X11_next_141 : decode M_X11_next.2.1 141 = .ok (.iload 7, 2) := by decide +kernel
theorem d_X11_next_143 : decode M_X11_next.2.1 143 = .ok (.isub, 1) := by decide +kernel
theorem d_X11_next_144 : decode M_X11_next.2.1 144 = .ok (.iload 4, 2) := by decide +kernel
theorem d_X11_next_146 : decode M_X11_next.2.1 146 = .ok (.if_icmp .gt 6, 3) := by decide +kernel
theorem d_X11_next_149 : decode M_X11_next.2.1 149 = .ok (.goto 18, 3) := by decide +kernel
theorem d_X11_next_152 : decode M_X11_next.2.1 152 = .ok (.iload 8, 2) := by decide +kernel
theorem d_X11_next_154 : decode M_X11_next.2.1 154 = .ok (.iload 7, 2) := by decide +kernel
theorem d_X11_next_156 : decode M_X11_next.2.1 156 = .ok (.isub, 1) := by decide +kernel
theorem d_X11_next_157 : decode M_X11_next.2.1 157 = .ok (.istore 4, 2) := by decide +kernel
theorem d_X11_next_159 : decode M_X11_next.2.1 159 = .ok (.iconst 4, 1) := by decide +kernel
theorem d_X11_next_160 : decode M_X11_next.2.1 160 = .ok (.iload 5, 2) := by decide +kernel
theorem d_X11_next_162 : decode M_X11_next.2.1 162 = .ok (.imul, 1) := by decide +kernel
theorem d_X11_next_163 : decode M_X11_next.2.1 163 = .ok (.iload 6, 2) := by decide +kernel
theorem d_X11_next_165 : decode M_X11_next.2.1 165 = .ok (.iadd, 1) := by decide +kernel
theorem d_X11_next_166 : decode M_X11_next.2.1 166 = .ok (.istore_n 3, 1) := by decide +kernel
theorem d_X11_next_167 : decode M_X11_next.2.1 167 = .ok (.iinc 6 1, 3) := by decide +kernel
theorem d_X11_next_170 : decode M_X11_next.2.1 170 = .ok (.goto (-117), 3) := by decide +kernel
theorem d_X11_next_173 : decode M_X11_next.2.1 173 = .ok (.iinc 5 1, 3) := by decide +kernel
theorem d_X11_next_176 : decode M_X11_next.2.1 176 = .ok (.goto (-140), 3) := by decide +kernel
theorem d_X11_next_179 : decode M_X11_next.2.1 179 = .ok (.iload_n 3, 1) := by decide +kernel
theorem d_X11_next_180 : decode M_X11_next.2.1 180 = .ok (.ireturn, 1) := by decide +kernel
theorem ce_X11_next : zw_CeV M_X11_next 1 := ⟨⟨⟨by decide +kernel, by decide +kernel, by decide +kernel⟩, (zw_mG (List.mem_of_getElem? (i := 1724) (by decide +kernel)) rfl), (zw_mG (List.mem_of_getElem? (i := 108) (by decide +kernel)) rfl), by decide, by decide +kernel⟩, (zw_mG (List.mem_of_getElem? (i := 1722) (by decide +kernel)) rfl), (zw_mG (List.mem_of_getElem? (i := 1723) (by decide +kernel)) rfl)⟩
def j_X11_next_133_68 (v0 : Nat) (v2 : Int32) (v3 : Int32) (v4 : Int32) (v5 : Int32) (v6 : Int32) (v7 : Int32) (v8 : Int32) (v9 : Int32) (I : zI) (R : zR) : Option ((Int32 × Int32 × Int32 × zI) ⊕ (Int32 × Int32 × zI)) :=
  zw_let (v9 + 1 : Int32) fun x19 => (some (.inl (v7, v8, x19, I)))
theorem j_X11_next_133_68_ok (X : zw_X) (P : Option Value → aS → Prop) (v0 : Nat) (v2 : Int32) (v3 : Int32) (v4 : Int32) (v5 : Int32) (v6 : Int32) (v7 : Int32) (v8 : Int32) (v9 : Int32) (I : zI) (R : zR) (J : zJ) (o : (Int32 × Int32 × Int32 × zI) ⊕ (Int32 × Int32 × zI)) (hf : j_X11_next_133_68 v0 v2 v3 v4 v5 v6 v7 v8 v9 I R = some o) (hk : (zw_se (fun t => zy_V X M_X11_next 8 P 68 [.ref v0, .null, .int v2, .int v3, .int v4, .int v5, .int v6, .int t.1, .int t.2.1, .int t.2.2.1, .null] [] (t.2.2.2, R, J)) (fun r => zy_V X M_X11_next 8 P 139 [.ref v0, .null, .int v2, .int v3, .int v4, .int v5, .int v6, .int r.1, .int r.2.1, .null, .null] [] (r.2.2, R, J)) o)) : zy_V X M_X11_next 8 P 133 [.ref v0, .null, .int v2, .int v3, .int v4, .int v5, .int v6, .int v7, .int v8, .int v9, .null] [] (I, R, J) := by
  unfold j_X11_next_133_68 at hf
  obtain ⟨x19, ex19, hf⟩ := zw_letE hf
  refine zx_iinc (pc := 133) (x2 := x19) (L2 := [.ref v0, .null, .int v2, .int v3, .int v4, .int v5, .int v6, .int v7, .int v8, .int x19, .null]) d_X11_next_133 (by decide) rfl zc_i_1 ex19 rfl ?_
  refine zv_goto (pc := 136) (tg := 68) d_X11_next_136 (by decide) ?_
  cases hf
  exact zx_weak (zw_leS (zw_leN (zw_leS (zw_leS (zw_leS (zw_leS (zw_leS (zw_leS (zw_leS (zw_leS (zw_leN zw_leZ))))))))))) hk
def j_X11_next_122_68 (v0 : Nat) (v2 : Int32) (v3 : Int32) (v4 : Int32) (v5 : Int32) (v6 : Int32) (v7 : Int32) (v8 : Int32) (v9 : Int32) (v10 : Int32) (I : zI) (R : zR) : Option ((Int32 × Int32 × Int32 × zI) ⊕ (Int32 × Int32 × zI)) :=
  if v10 ≤ v8 then j_X11_next_133_68 v0 v2 v3 v4 v5 v6 v7 v8 v9 I R else j_X11_next_133_68 v0 v2 v3 v4 v5 v6 v7 v10 v9 I R
theorem j_X11_next_122_68_ok (X : zw_X) (P : Option Value → aS → Prop) (v0 : Nat) (v2 : Int32) (v3 : Int32) (v4 : Int32) (v5 : Int32) (v6 : Int32) (v7 : Int32) (v8 : Int32) (v9 : Int32) (v10 : Int32) (I : zI) (R : zR) (J : zJ) (o : (Int32 × Int32 × Int32 × zI) ⊕ (Int32 × Int32 × zI)) (hf : j_X11_next_122_68 v0 v2 v3 v4 v5 v6 v7 v8 v9 v10 I R = some o) (hk : (zw_se (fun t => zy_V X M_X11_next 8 P 68 [.ref v0, .null, .int v2, .int v3, .int v4, .int v5, .int v6, .int t.1, .int t.2.1, .int t.2.2.1, .null] [] (t.2.2.2, R, J)) (fun r => zy_V X M_X11_next 8 P 139 [.ref v0, .null, .int v2, .int v3, .int v4, .int v5, .int v6, .int r.1, .int r.2.1, .null, .null] [] (r.2.2, R, J)) o)) : zy_V X M_X11_next 8 P 122 [.ref v0, .null, .int v2, .int v3, .int v4, .int v5, .int v6, .int v7, .int v8, .int v9, .int v10] [] (I, R, J) := by
  unfold j_X11_next_122_68 at hf
  refine zv_iload (pc := 122) d_X11_next_122 rfl ?_
  refine zv_iload (pc := 124) d_X11_next_124 rfl ?_
  rcases zw_ifE hf with ⟨c18, hf⟩ | ⟨c18, hf⟩
  · refine zv_icmp_le (pc := 126) (tg := 133) d_X11_next_126 (by decide) (fun _ => ?_) (fun q => absurd c18 q)
    exact zx_weak (zw_leS (zw_leN (zw_leS (zw_leS (zw_leS (zw_leS (zw_leS (zw_leS (zw_leS (zw_leS (zw_leN zw_leZ))))))))))) (j_X11_next_133_68_ok X P v0 v2 v3 v4 v5 v6 v7 v8 v9 I R J _ hf hk)
  · refine zv_icmp_le (pc := 126) (tg := 133) d_X11_next_126 (by decide) (fun q => absurd q c18) (fun _ => ?_)
    refine zv_iload (pc := 129) d_X11_next_129 rfl ?_
    refine zx_istore (pc := 131) (x2 := v10) (L2 := [.ref v0, .null, .int v2, .int v3, .int v4, .int v5, .int v6, .int v7, .int v10, .int v9, .int v10]) d_X11_next_131 (by decide) rfl rfl ?_
    exact zx_weak (zw_leS (zw_leN (zw_leS (zw_leS (zw_leS (zw_leS (zw_leS (zw_leS (zw_leS (zw_leS (zw_leN zw_leZ))))))))))) (j_X11_next_133_68_ok X P v0 v2 v3 v4 v5 v6 v7 v10 v9 I R J _ hf hk)
def j_X11_next_118_68 (v0 : Nat) (v2 : Int32) (v3 : Int32) (v4 : Int32) (v5 : Int32) (v6 : Int32) (v8 : Int32) (v9 : Int32) (v10 : Int32) (I : zI) (R : zR) : Option ((Int32 × Int32 × Int32 × zI) ⊕ (Int32 × Int32 × zI)) :=
  j_X11_next_122_68 v0 v2 v3 v4 v5 v6 v10 v8 v9 v10 I R
theorem j_X11_next_118_68_ok (X : zw_X) (P : Option Value → aS → Prop) (v0 : Nat) (v2 : Int32) (v3 : Int32) (v4 : Int32) (v5 : Int32) (v6 : Int32) (v8 : Int32) (v9 : Int32) (v10 : Int32) (I : zI) (R : zR) (J : zJ) (o : (Int32 × Int32 × Int32 × zI) ⊕ (Int32 × Int32 × zI)) (hf : j_X11_next_118_68 v0 v2 v3 v4 v5 v6 v8 v9 v10 I R = some o) (hk : (zw_se (fun t => zy_V X M_X11_next 8 P 68 [.ref v0, .null, .int v2, .int v3, .int v4, .int v5, .int v6, .int t.1, .int t.2.1, .int t.2.2.1, .null] [] (t.2.2.2, R, J)) (fun r => zy_V X M_X11_next 8 P 139 [.ref v0, .null, .int v2, .int v3, .int v4, .int v5, .int v6, .int r.1, .int r.2.1, .null, .null] [] (r.2.2, R, J)) o)) : zy_V X M_X11_next 8 P 118 [.ref v0, .null, .int v2, .int v3, .int v4, .int v5, .int v6, .null, .int v8, .int v9, .int v10] [] (I, R, J) := by
  unfold j_X11_next_118_68 at hf
  refine zv_iload (pc := 118) d_X11_next_118 rfl ?_
  refine zx_istore (pc := 120) (x2 := v10) (L2 := [.ref v0, .null, .int v2, .int v3, .int v4, .int v5, .int v6, .int v10, .int v8, .int v9, .int v10]) d_X11_next_120 (by decide) rfl rfl ?_
  exact zx_weak (zw_leS (zw_leN (zw_leS (zw_leS (zw_leS (zw_leS (zw_leS (zw_leS (zw_leS (zw_leS (zw_leS zw_leZ))))))))))) (j_X11_next_122_68_ok X P v0 v2 v3 v4 v5 v6 v10 v8 v9 v10 I R J _ hf hk)
def s_X11_next_68 (v0 : Nat) (v2 : Int32) (v3 : Int32) (v4 : Int32) (v5 : Int32) (v6 : Int32) (R : zR) (s : Int32 × Int32 × Int32 × zI) : Option ((Int32 × Int32 × Int32 × zI) ⊕ (Int32 × Int32 × zI)) :=
  zw_g (zw_gc v0 11) (zw_g (zw_gc (R v0 22) 13) (zw_g (zw_in (s.2.2.2 v0 18) (zw_SH (R v0 22)).2) (if (s.2.2.2 (R v0 22) (Int32.toNatClampNeg (s.2.2.2 v0 18))) ≤ s.2.2.1 then some (.inr (s.1, s.2.1, s.2.2.2)) else if ¬ ((v2 >>> (s.2.2.1 &&& 31)) &&& 1) = 0 then (f_X11_brightOf v0 v5 s.2.2.1 v6 s.2.2.2 R).bind fun q16 => (if s.1 < 0 then j_X11_next_118_68 v0 v2 v3 v4 v5 v6 s.2.1 s.2.2.1 q16.1 q16.2 R else if s.1 ≤ q16.1 then j_X11_next_122_68 v0 v2 v3 v4 v5 v6 s.1 s.2.1 s.2.2.1 q16.1 q16.2 R else j_X11_next_118_68 v0 v2 v3 v4 v5 v6 s.2.1 s.2.2.1 q16.1 q16.2 R) else j_X11_next_133_68 v0 v2 v3 v4 v5 v6 s.1 s.2.1 s.2.2.1 s.2.2.2 R)))
theorem s_X11_next_68_ok (X : zw_X) (P : Option Value → aS → Prop) (v0 : Nat) (v2 : Int32) (v3 : Int32) (v4 : Int32) (v5 : Int32) (v6 : Int32) (R : zR) (J : zJ) (s : Int32 × Int32 × Int32 × zI) (o : (Int32 × Int32 × Int32 × zI) ⊕ (Int32 × Int32 × zI)) (hf : s_X11_next_68 v0 v2 v3 v4 v5 v6 R s = some o) (hk : (zw_se (fun t => zy_V X M_X11_next 8 P 68 [.ref v0, .null, .int v2, .int v3, .int v4, .int v5, .int v6, .int t.1, .int t.2.1, .int t.2.2.1, .null] [] (t.2.2.2, R, J)) (fun r => zy_V X M_X11_next 8 P 139 [.ref v0, .null, .int v2, .int v3, .int v4, .int v5, .int v6, .int r.1, .int r.2.1, .null, .null] [] (r.2.2, R, J)) o)) : zy_V X M_X11_next 8 P 68 [.ref v0, .null, .int v2, .int v3, .int v4, .int v5, .int v6, .int s.1, .int s.2.1, .int s.2.2.1, .null] [] (s.2.2.2, R, J) := by
  unfold s_X11_next_68 at hf
  refine zv_iload (pc := 68) d_X11_next_68 rfl ?_
  refine zv_aload_n (pc := 70) d_X11_next_70 rfl ?_
  obtain ⟨g11, hf⟩ := zw_gcE hf (by decide)
  obtain ⟨g12, hf⟩ := zw_gcE hf (by decide)
  refine zx_getR (pc := 71) d_X11_next_71 lk_CutStonesModel_46 (by decide) g11 g12 ?_
  refine zv_aload_n (pc := 74) d_X11_next_74 rfl ?_
  refine zx_getI (pc := 75) d_X11_next_75 lk_CutStonesModel_248 (by decide) g11 ?_
  obtain ⟨i13, hf⟩ := zw_inE hf
  refine zx_iald (pc := 78) d_X11_next_78 g12 i13 ?_
  rcases zw_ifE hf with ⟨c14, hf⟩ | ⟨c14, hf⟩
  · refine zv_icmp_ge (pc := 79) (tg := 139) d_X11_next_79 (by decide) (fun _ => ?_) (fun q => absurd c14 q)
    cases hf
    exact zx_weak (zw_leS (zw_leN (zw_leS (zw_leS (zw_leS (zw_leS (zw_leS (zw_leS (zw_leS (zw_leN (zw_leN zw_leZ))))))))))) hk
  · refine zv_icmp_ge (pc := 79) (tg := 139) d_X11_next_79 (by decide) (fun q => absurd q c14) (fun _ => ?_)
    refine zv_iload_n (pc := 82) d_X11_next_82 rfl ?_
    refine zv_iload (pc := 83) d_X11_next_83 rfl ?_
    refine zv_ishr (pc := 85) d_X11_next_85 ?_
    refine zv_iconst (pc := 86) d_X11_next_86 zc_i_1 ?_
    refine zv_iand (pc := 87) d_X11_next_87 ?_
    rcases zw_ifE hf with ⟨c15, hf⟩ | ⟨c15, hf⟩
    · refine zv_if_ne (pc := 88) (tg := 94) d_X11_next_88 (by decide) (fun _ => ?_) (fun q => absurd q c15)
      refine zv_aload_n (pc := 94) d_X11_next_94 rfl ?_
      refine zv_iload (pc := 95) d_X11_next_95 rfl ?_
      refine zv_iload (pc := 97) d_X11_next_97 rfl ?_
      refine zv_iload (pc := 99) d_X11_next_99 rfl ?_
      obtain ⟨q16, hq16, hf⟩ := zw_bdE hf
      refine zx_callV (pc := 101) (As := [.int v5, .int s.2.2.1, .int v6]) (o := v0) (st := []) (d2 := 5) (M2 := M_X11_brightOf) (P2 := (fun r S => r = (some (.int q16.1)) ∧ S = (q16.2, R, J))) d_X11_next_101 (zw_mG (List.mem_of_getElem? (i := 1693) (by decide +kernel)) rfl) ce_X11_brightOf (zw_RvK g11 rfl rfl) (Nat.le_of_ble_eq_true rfl) rfl (Nat.le_of_ble_eq_true rfl) (by decide) (c_X11_brightOf X v0 v5 s.2.2.1 v6 s.2.2.2 R J _ hq16 ⟨rfl, rfl⟩) ?_
      rintro _ _ ⟨rfl, rfl⟩
      show zy_V X M_X11_next 8 P (101 + 3) [.ref v0, .null, .int v2, .int v3, .int v4, .int v5, .int v6, .int s.1, .int s.2.1, .int s.2.2.1, .null] [.int q16.1] (q16.2, R, J)
      refine zx_istore (pc := 104) (x2 := q16.1) (L2 := [.ref v0, .null, .int v2, .int v3, .int v4, .int v5, .int v6, .int s.1, .int s.2.1, .int s.2.2.1, .int q16.1]) d_X11_next_104 (by decide) rfl rfl ?_
      refine zv_iload (pc := 106) d_X11_next_106 rfl ?_
      rcases zw_ifE hf with ⟨c17, hf⟩ | ⟨c17, hf⟩
      · refine zv_if_lt (pc := 108) (tg := 118) d_X11_next_108 (by decide) (fun _ => ?_) (fun q => absurd c17 q)
        exact zx_weak (zw_leS (zw_leN (zw_leS (zw_leS (zw_leS (zw_leS (zw_leS (zw_leN (zw_leS (zw_leS (zw_leS zw_leZ))))))))))) (j_X11_next_118_68_ok X P v0 v2 v3 v4 v5 v6 s.2.1 s.2.2.1 q16.1 q16.2 R J _ hf hk)
      · refine zv_if_lt (pc := 108) (tg := 118) d_X11_next_108 (by decide) (fun q => absurd q c17) (fun _ => ?_)
        refine zv_iload (pc := 111) d_X11_next_111 rfl ?_
        refine zv_iload (pc := 113) d_X11_next_113 rfl ?_
        rcases zw_ifE hf with ⟨c20, hf⟩ | ⟨c20, hf⟩
        · refine zv_icmp_ge (pc := 115) (tg := 122) d_X11_next_115 (by decide) (fun _ => ?_) (fun q => absurd c20 q)
          exact zx_weak (zw_leS (zw_leN (zw_leS (zw_leS (zw_leS (zw_leS (zw_leS (zw_leS (zw_leS (zw_leS (zw_leS zw_leZ))))))))))) (j_X11_next_122_68_ok X P v0 v2 v3 v4 v5 v6 s.1 s.2.1 s.2.2.1 q16.1 q16.2 R J _ hf hk)
        · refine zv_icmp_ge (pc := 115) (tg := 122) d_X11_next_115 (by decide) (fun q => absurd q c20) (fun _ => ?_)
          exact zx_weak (zw_leS (zw_leN (zw_leS (zw_leS (zw_leS (zw_leS (zw_leS (zw_leN (zw_leS (zw_leS (zw_leS zw_leZ))))))))))) (j_X11_next_118_68_ok X P v0 v2 v3 v4 v5 v6 s.2.1 s.2.2.1 q16.1 q16.2 R J _ hf hk)
    · refine zv_if_ne (pc := 88) (tg := 94) d_X11_next_88 (by decide) (fun q => absurd q c15) (fun _ => ?_)
      refine zv_goto (pc := 91) (tg := 133) d_X11_next_91 (by decide) ?_
      exact zx_weak (zw_leS (zw_leN (zw_leS (zw_leS (zw_leS (zw_leS (zw_leS (zw_leS (zw_leS (zw_leS (zw_leN zw_leZ))))))))))) (j_X11_next_133_68_ok X P v0 v2 v3 v4 v5 v6 s.1 s.2.1 s.2.2.1 s.2.2.2 R J _ hf hk)
theorem s_X11_next_68_lp (X : zw_X) (P : Option Value → aS → Prop) (v0 : Nat) (v2 : Int32) (v3 : Int32) (v4 : Int32) (v5 : Int32) (v6 : Int32) (R : zR) (J : zJ) (n : Nat) (s : Int32 × Int32 × Int32 × zI) (r : Int32 × Int32 × zI) (h : zw_it (s_X11_next_68 v0 v2 v3 v4 v5 v6 R) n s = some r) (hq : zy_V X M_X11_next 8 P 139 [.ref v0, .null, .int v2, .int v3, .int v4, .int v5, .int v6, .int r.1, .int r.2.1, .null, .null] [] (r.2.2, R, J)) : zy_V X M_X11_next 8 P 68 [.ref v0, .null, .int v2, .int v3, .int v4, .int v5, .int v6, .int s.1, .int s.2.1, .int s.2.2.1, .null] [] (s.2.2.2, R, J) :=
  zw_itE (A := (fun t : Int32 × Int32 × Int32 × zI => zy_V X M_X11_next 8 P 68 [.ref v0, .null, .int v2, .int v3, .int v4, .int v5, .int v6, .int t.1, .int t.2.1, .int t.2.2.1, .null] [] (t.2.2.2, R, J))) (Q := (fun r : Int32 × Int32 × zI => zy_V X M_X11_next 8 P 139 [.ref v0, .null, .int v2, .int v3, .int v4, .int v5, .int v6, .int r.1, .int r.2.1, .null, .null] [] (r.2.2, R, J))) (fun s o h1 h2 => s_X11_next_68_ok X P v0 v2 v3 v4 v5 v6 R J s o h1 h2) n s r h hq
def j_X11_next_167_53 (v0 : Nat) (v2 : Int32) (v3 : Int32) (v4 : Int32) (v5 : Int32) (v6 : Int32) (I : zI) (R : zR) : Option ((Int32 × Int32 × Int32 × zI) ⊕ (Int32 × Int32 × zI)) :=
  zw_let (v6 + 1 : Int32) fun x25 => (some (.inl (v3, v4, x25, I)))
theorem j_X11_next_167_53_ok (X : zw_X) (P : Option Value → aS → Prop) (v0 : Nat) (v2 : Int32) (v3 : Int32) (v4 : Int32) (v5 : Int32) (v6 : Int32) (I : zI) (R : zR) (J : zJ) (o : (Int32 × Int32 × Int32 × zI) ⊕ (Int32 × Int32 × zI)) (hf : j_X11_next_167_53 v0 v2 v3 v4 v5 v6 I R = some o) (hk : (zw_se (fun t => zy_V X M_X11_next 8 P 53 [.ref v0, .null, .int v2, .int t.1, .int t.2.1, .int v5, .int t.2.2.1, .null, .null, .null, .null] [] (t.2.2.2, R, J)) (fun r => zy_V X M_X11_next 8 P 173 [.ref v0, .null, .int v2, .int r.1, .int r.2.1, .int v5, .null, .null, .null, .null, .null] [] (r.2.2, R, J)) o)) : zy_V X M_X11_next 8 P 167 [.ref v0, .null, .int v2, .int v3, .int v4, .int v5, .int v6, .null, .null, .null, .null] [] (I, R, J) := by
  unfold j_X11_next_167_53 at hf
  obtain ⟨x25, ex25, hf⟩ := zw_letE hf
  refine zx_iinc (pc := 167) (x2 := x25) (L2 := [.ref v0, .null, .int v2, .int v3, .int v4, .int v5, .int x25, .null, .null, .null, .null]) d_X11_next_167 (by decide) rfl zc_i_1 ex25 rfl ?_
  refine zv_goto (pc := 170) (tg := 53) d_X11_next_170 (by decide) ?_
  cases hf
  exact zx_weak (zw_leS (zw_leN (zw_leS (zw_leS (zw_leS (zw_leS (zw_leS (zw_leN (zw_leN (zw_leN (zw_leN zw_leZ))))))))))) hk
def s_X11_next_53 (v0 : Nat) (v2 : Int32) (v5 : Int32) (R : zR) (s : Int32 × Int32 × Int32 × zI) : Option ((Int32 × Int32 × Int32 × zI) ⊕ (Int32 × Int32 × zI)) :=
  if 4 ≤ s.2.2.1 then some (.inr (s.1, s.2.1, s.2.2.2)) else (zw_it (s_X11_next_68 v0 v2 s.1 s.2.1 v5 s.2.2.1 R) 1000000 ((-1), (-1), 0, s.2.2.2)).bind fun q21 => (if s.2.1 < (q21.2.1 - q21.1) then zw_let ((q21.2.1 - q21.1) : Int32) fun x23 => (zw_let (((4 * v5) + s.2.2.1) : Int32) fun x24 => (j_X11_next_167_53 v0 v2 x24 x23 v5 s.2.2.1 q21.2.2 R)) else j_X11_next_167_53 v0 v2 s.1 s.2.1 v5 s.2.2.1 q21.2.2 R)
theorem s_X11_next_53_ok (X : zw_X) (P : Option Value → aS → Prop) (v0 : Nat) (v2 : Int32) (v5 : Int32) (R : zR) (J : zJ) (s : Int32 × Int32 × Int32 × zI) (o : (Int32 × Int32 × Int32 × zI) ⊕ (Int32 × Int32 × zI)) (hf : s_X11_next_53 v0 v2 v5 R s = some o) (hk : (zw_se (fun t => zy_V X M_X11_next 8 P 53 [.ref v0, .null, .int v2, .int t.1, .int t.2.1, .int v5, .int t.2.2.1, .null, .null, .null, .null] [] (t.2.2.2, R, J)) (fun r => zy_V X M_X11_next 8 P 173 [.ref v0, .null, .int v2, .int r.1, .int r.2.1, .int v5, .null, .null, .null, .null, .null] [] (r.2.2, R, J)) o)) : zy_V X M_X11_next 8 P 53 [.ref v0, .null, .int v2, .int s.1, .int s.2.1, .int v5, .int s.2.2.1, .null, .null, .null, .null] [] (s.2.2.2, R, J) := by
  unfold s_X11_next_53 at hf
  refine zv_iload (pc := 53) d_X11_next_53 rfl ?_
  refine zv_iconst (pc := 55) d_X11_next_55 zc_i_4 ?_
  rcases zw_ifE hf with ⟨c10, hf⟩ | ⟨c10, hf⟩
  · refine zv_icmp_ge (pc := 56) (tg := 173) d_X11_next_56 (by decide) (fun _ => ?_) (fun q => absurd c10 q)
    cases hf
    exact zx_weak (zw_leS (zw_leN (zw_leS (zw_leS (zw_leS (zw_leS (zw_leN (zw_leN (zw_leN (zw_leN (zw_leN zw_leZ))))))))))) hk
  · refine zv_icmp_ge (pc := 56) (tg := 173) d_X11_next_56 (by decide) (fun q => absurd q c10) (fun _ => ?_)
    refine zv_iconst (pc := 59) d_X11_next_59 zc_i_m1 ?_
    refine zx_istore (pc := 60) (x2 := (-1)) (L2 := [.ref v0, .null, .int v2, .int s.1, .int s.2.1, .int v5, .int s.2.2.1, .int (-1), .null, .null, .null]) d_X11_next_60 (by decide) rfl rfl ?_
    refine zv_iconst (pc := 62) d_X11_next_62 zc_i_m1 ?_
    refine zx_istore (pc := 63) (x2 := (-1)) (L2 := [.ref v0, .null, .int v2, .int s.1, .int s.2.1, .int v5, .int s.2.2.1, .int (-1), .int (-1), .null, .null]) d_X11_next_63 (by decide) rfl rfl ?_
    refine zv_iconst (pc := 65) d_X11_next_65 zc_i_0 ?_
    refine zx_istore (pc := 66) (x2 := 0) (L2 := [.ref v0, .null, .int v2, .int s.1, .int s.2.1, .int v5, .int s.2.2.1, .int (-1), .int (-1), .int 0, .null]) d_X11_next_66 (by decide) rfl rfl ?_
    obtain ⟨q21, hq21, hf⟩ := zw_bdE hf
    refine zx_weak (L' := [.ref v0, .null, .int v2, .int s.1, .int s.2.1, .int v5, .int s.2.2.1, .int (-1), .int (-1), .int 0, .null]) (zw_leS (zw_leN (zw_leS (zw_leS (zw_leS (zw_leS (zw_leS (zw_leS (zw_leS (zw_leS (zw_leN zw_leZ))))))))))) (s_X11_next_68_lp X P v0 v2 s.1 s.2.1 v5 s.2.2.1 R J _ _ _ hq21 ?_)
    show zy_V X M_X11_next 8 P 139 [.ref v0, .null, .int v2, .int s.1, .int s.2.1, .int v5, .int s.2.2.1, .int q21.1, .int q21.2.1, .null, .null] [] (q21.2.2, R, J)
    refine zv_iload (pc := 139) d_X11_next_139 rfl ?_
    refine zv_iload (pc := 141) d_X11_next_141 rfl ?_
    refine zv_isub (pc := 143) d_X11_next_143 ?_
    refine zv_iload (pc := 144) d_X11_next_144 rfl ?_
    rcases zw_ifE hf with ⟨c22, hf⟩ | ⟨c22, hf⟩
    · refine zv_icmp_gt (pc := 146) (tg := 152) d_X11_next_146 (by decide) (fun _ => ?_) (fun q => absurd c22 q)
      refine zv_iload (pc := 152) d_X11_next_152 rfl ?_
      refine zv_iload (pc := 154) d_X11_next_154 rfl ?_
      refine zv_isub (pc := 156) d_X11_next_156 ?_
      obtain ⟨x23, ex23, hf⟩ := zw_letE hf
      refine zx_istore (pc := 157) (x2 := x23) (L2 := [.ref v0, .null, .int v2, .int s.1, .int x23, .int v5, .int s.2.2.1, .int q21.1, .int q21.2.1, .null, .null]) d_X11_next_157 (by decide) ex23 rfl ?_
      refine zv_iconst (pc := 159) d_X11_next_159 zc_i_4 ?_
      refine zv_iload (pc := 160) d_X11_next_160 rfl ?_
      refine zv_imul (pc := 162) d_X11_next_162 ?_
      refine zv_iload (pc := 163) d_X11_next_163 rfl ?_
      refine zv_iadd (pc := 165) d_X11_next_165 ?_
      obtain ⟨x24, ex24, hf⟩ := zw_letE hf
      refine zx_istore_n (pc := 166) (x2 := x24) (L2 := [.ref v0, .null, .int v2, .int x24, .int x23, .int v5, .int s.2.2.1, .int q21.1, .int q21.2.1, .null, .null]) d_X11_next_166 (by decide) ex24 rfl ?_
      exact zx_weak (zw_leS (zw_leN (zw_leS (zw_leS (zw_leS (zw_leS (zw_leS (zw_leN (zw_leN (zw_leN (zw_leN zw_leZ))))))))))) (j_X11_next_167_53_ok X P v0 v2 x24 x23 v5 s.2.2.1 q21.2.2 R J _ hf hk)
    · refine zv_icmp_gt (pc := 146) (tg := 152) d_X11_next_146 (by decide) (fun q => absurd q c22) (fun _ => ?_)
      refine zv_goto (pc := 149) (tg := 167) d_X11_next_149 (by decide) ?_
      exact zx_weak (zw_leS (zw_leN (zw_leS (zw_leS (zw_leS (zw_leS (zw_leS (zw_leN (zw_leN (zw_leN (zw_leN zw_leZ))))))))))) (j_X11_next_167_53_ok X P v0 v2 s.1 s.2.1 v5 s.2.2.1 q21.2.2 R J _ hf hk)
theorem s_X11_next_53_lp (X : zw_X) (P : Option Value → aS → Prop) (v0 : Nat) (v2 : Int32) (v5 : Int32) (R : zR) (J : zJ) (n : Nat) (s : Int32 × Int32 × Int32 × zI) (r : Int32 × Int32 × zI) (h : zw_it (s_X11_next_53 v0 v2 v5 R) n s = some r) (hq : zy_V X M_X11_next 8 P 173 [.ref v0, .null, .int v2, .int r.1, .int r.2.1, .int v5, .null, .null, .null, .null, .null] [] (r.2.2, R, J)) : zy_V X M_X11_next 8 P 53 [.ref v0, .null, .int v2, .int s.1, .int s.2.1, .int v5, .int s.2.2.1, .null, .null, .null, .null] [] (s.2.2.2, R, J) :=
  zw_itE (A := (fun t : Int32 × Int32 × Int32 × zI => zy_V X M_X11_next 8 P 53 [.ref v0, .null, .int v2, .int t.1, .int t.2.1, .int v5, .int t.2.2.1, .null, .null, .null, .null] [] (t.2.2.2, R, J))) (Q := (fun r : Int32 × Int32 × zI => zy_V X M_X11_next 8 P 173 [.ref v0, .null, .int v2, .int r.1, .int r.2.1, .int v5, .null, .null, .null, .null, .null] [] (r.2.2, R, J))) (fun s o h1 h2 => s_X11_next_53_ok X P v0 v2 v5 R J s o h1 h2) n s r h hq
def s_X11_next_36 (v0 : Nat) (v2 : Int32) (R : zR) (s : Int32 × Int32 × Int32 × zI) : Option ((Int32 × Int32 × Int32 × zI) ⊕ (Int32 × zI)) :=
  zw_g (zw_gc v0 11) (zw_g (zw_gc (R v0 26) 13) (zw_g (zw_in (s.2.2.2 v0 18) (zw_SH (R v0 26)).2) (if (s.2.2.2 (R v0 26) (Int32.toNatClampNeg (s.2.2.2 v0 18))) ≤ s.2.2.1 then some (.inr (s.1, s.2.2.2)) else (zw_it (s_X11_next_53 v0 v2 s.2.2.1 R) 1000000 (s.1, s.2.1, 0, s.2.2.2)).bind fun q26 => (zw_let (s.2.2.1 + 1 : Int32) fun x27 => (some (.inl (q26.1, q26.2.1, x27, q26.2.2)))))))
theorem s_X11_next_36_ok (X : zw_X) (P : Option Value → aS → Prop) (v0 : Nat) (v2 : Int32) (R : zR) (J : zJ) (s : Int32 × Int32 × Int32 × zI) (o : (Int32 × Int32 × Int32 × zI) ⊕ (Int32 × zI)) (hf : s_X11_next_36 v0 v2 R s = some o) (hk : (zw_se (fun t => zy_V X M_X11_next 8 P 36 [.ref v0, .null, .int v2, .int t.1, .int t.2.1, .int t.2.2.1, .null, .null, .null, .null, .null] [] (t.2.2.2, R, J)) (fun r => zy_V X M_X11_next 8 P 179 [.null, .null, .null, .int r.1, .null, .null, .null, .null, .null, .null, .null] [] (r.2, R, J)) o)) : zy_V X M_X11_next 8 P 36 [.ref v0, .null, .int v2, .int s.1, .int s.2.1, .int s.2.2.1, .null, .null, .null, .null, .null] [] (s.2.2.2, R, J) := by
  unfold s_X11_next_36 at hf
  refine zv_iload (pc := 36) d_X11_next_36 rfl ?_
  refine zv_aload_n (pc := 38) d_X11_next_38 rfl ?_
  obtain ⟨g6, hf⟩ := zw_gcE hf (by decide)
  obtain ⟨g7, hf⟩ := zw_gcE hf (by decide)
  refine zx_getR (pc := 39) d_X11_next_39 lk_CutStonesModel_58 (by decide) g6 g7 ?_
  refine zv_aload_n (pc := 42) d_X11_next_42 rfl ?_
  refine zx_getI (pc := 43) d_X11_next_43 lk_CutStonesModel_248 (by decide) g6 ?_
  obtain ⟨i8, hf⟩ := zw_inE hf
  refine zx_iald (pc := 46) d_X11_next_46 g7 i8 ?_
  rcases zw_ifE hf with ⟨c9, hf⟩ | ⟨c9, hf⟩
  · refine zv_icmp_ge (pc := 47) (tg := 179) d_X11_next_47 (by decide) (fun _ => ?_) (fun q => absurd c9 q)
    cases hf
    exact zx_weak (zw_leN (zw_leN (zw_leN (zw_leS (zw_leN (zw_leN (zw_leN (zw_leN (zw_leN (zw_leN (zw_leN zw_leZ))))))))))) hk
  · refine zv_icmp_ge (pc := 47) (tg := 179) d_X11_next_47 (by decide) (fun q => absurd q c9) (fun _ => ?_)
    refine zv_iconst (pc := 50) d_X11_next_50 zc_i_0 ?_
    refine zx_istore (pc := 51) (x2 := 0) (L2 := [.ref v0, .null, .int v2, .int s.1, .int s.2.1, .int s.2.2.1, .int 0, .null, .null, .null, .null]) d_X11_next_51 (by decide) rfl rfl ?_
    obtain ⟨q26, hq26, hf⟩ := zw_bdE hf
    refine zx_weak (L' := [.ref v0, .null, .int v2, .int s.1, .int s.2.1, .int s.2.2.1, .int 0, .null, .null, .null, .null]) (zw_leS (zw_leN (zw_leS (zw_leS (zw_leS (zw_leS (zw_leS (zw_leN (zw_leN (zw_leN (zw_leN zw_leZ))))))))))) (s_X11_next_53_lp X P v0 v2 s.2.2.1 R J _ _ _ hq26 ?_)
    show zy_V X M_X11_next 8 P 173 [.ref v0, .null, .int v2, .int q26.1, .int q26.2.1, .int s.2.2.1, .null, .null, .null, .null, .null] [] (q26.2.2, R, J)
    obtain ⟨x27, ex27, hf⟩ := zw_letE hf
    refine zx_iinc (pc := 173) (x2 := x27) (L2 := [.ref v0, .null, .int v2, .int q26.1, .int q26.2.1, .int x27, .null, .null, .null, .null, .null]) d_X11_next_173 (by decide) rfl zc_i_1 ex27 rfl ?_
    refine zv_goto (pc := 176) (tg := 36) d_X11_next_176 (by decide) ?_
    cases hf
    exact zx_weak (zw_leS (zw_leN (zw_leS (zw_leS (zw_leS (zw_leS (zw_leN (zw_leN (zw_leN (zw_leN (zw_leN zw_leZ))))))))))) hk
theorem s_X11_next_36_lp (X : zw_X) (P : Option Value → aS → Prop) (v0 : Nat) (v2 : Int32) (R : zR) (J : zJ) (n : Nat) (s : Int32 × Int32 × Int32 × zI) (r : Int32 × zI) (h : zw_it (s_X11_next_36 v0 v2 R) n s = some r) (hq : zy_V X M_X11_next 8 P 179 [.null, .null, .null, .int r.1, .null, .null, .null, .null, .null, .null, .null] [] (r.2, R, J)) : zy_V X M_X11_next 8 P 36 [.ref v0, .null, .int v2, .int s.1, .int s.2.1, .int s.2.2.1, .null, .null, .null, .null, .null] [] (s.2.2.2, R, J) :=
  zw_itE (A := (fun t : Int32 × Int32 × Int32 × zI => zy_V X M_X11_next 8 P 36 [.ref v0, .null, .int v2, .int t.1, .int t.2.1, .int t.2.2.1, .null, .null, .null, .null, .null] [] (t.2.2.2, R, J))) (Q := (fun r : Int32 × zI => zy_V X M_X11_next 8 P 179 [.null, .null, .null, .int r.1, .null, .null, .null, .null, .null, .null, .null] [] (r.2, R, J))) (fun s o h1 h2 => s_X11_next_36_ok X P v0 v2 R J s o h1 h2) n s r h hq
def f_X11_next (v0 : Nat) (v1 : Int32) (I : zI) (R : zR) : Option (Int32 × zI) :=
  zw_g (zw_gc v0 11) ((f_X11_isKnown v0 v1 I).bind fun q2 => (if ¬ q2 = 0 then (f_X11_leftBy v0 v1 I R).bind fun q4 => (if ¬ (q4.1 &&& (q4.1 - 1)) = 0 then (zw_it (s_X11_next_36 v0 q4.1 R) 1000000 ((-2), (-1), 0, q4.2)).bind fun q28 => (some (q28.1, q28.2)) else some ((-2), q4.2)) else some ((-1), I)))
theorem c_X11_next (X : zw_X) (v0 : Nat) (v1 : Int32) (I : zI) (R : zR) (J : zJ) {P : Option Value → aS → Prop} (o : Int32 × zI) (hf : f_X11_next v0 v1 I R = some o) (hk : P (some (.int o.1)) (o.2, R, J)) : zw_C X M_X11_next 8 0 0 199 [.ref v0, .int v1] (I, R, J) P := by
  show zy_V X M_X11_next 8 P 0 [.ref v0, .int v1, .null, .null, .null, .null, .null, .null, .null, .null, .null] [] (I, R, J)
  unfold f_X11_next at hf
  refine zv_aload_n (pc := 0) d_X11_next_0 rfl ?_
  refine zv_iload_n (pc := 1) d_X11_next_1 rfl ?_
  obtain ⟨g1, hf⟩ := zw_gcE hf (by decide)
  obtain ⟨q2, hq2, hf⟩ := zw_bdE hf
  refine zx_callV (pc := 2) (As := [.int v1]) (o := v0) (st := []) (d2 := 1) (M2 := M_X11_isKnown) (P2 := (fun r S => r = (some (.int q2)) ∧ S = (I, R, J))) d_X11_next_2 (zw_mG (List.mem_of_getElem? (i := 1701) (by decide +kernel)) rfl) ce_X11_isKnown (zw_RvK g1 rfl rfl) (Nat.le_of_ble_eq_true rfl) rfl (Nat.le_of_ble_eq_true rfl) (by decide) (c_X11_isKnown X v0 v1 I R J _ hq2 ⟨rfl, rfl⟩) ?_
  rintro _ _ ⟨rfl, rfl⟩
  show zy_V X M_X11_next 8 P (2 + 3) [.ref v0, .int v1, .null, .null, .null, .null, .null, .null, .null, .null, .null] [.int q2] (I, R, J)
  rcases zw_ifE hf with ⟨c3, hf⟩ | ⟨c3, hf⟩
  · refine zv_if_ne (pc := 5) (tg := 10) d_X11_next_5 (by decide) (fun _ => ?_) (fun q => absurd q c3)
    refine zv_aload_n (pc := 10) d_X11_next_10 rfl ?_
    refine zv_iload_n (pc := 11) d_X11_next_11 rfl ?_
    obtain ⟨q4, hq4, hf⟩ := zw_bdE hf
    refine zx_callV (pc := 12) (As := [.int v1]) (o := v0) (st := []) (d2 := 7) (M2 := M_X11_leftBy) (P2 := (fun r S => r = (some (.int q4.1)) ∧ S = (q4.2, R, J))) d_X11_next_12 (zw_mG (List.mem_of_getElem? (i := 1717) (by decide +kernel)) rfl) ce_X11_leftBy (zw_RvK g1 rfl rfl) (Nat.le_of_ble_eq_true rfl) rfl (Nat.le_of_ble_eq_true rfl) (by decide) (c_X11_leftBy X v0 v1 I R J _ hq4 ⟨rfl, rfl⟩) ?_
    rintro _ _ ⟨rfl, rfl⟩
    show zy_V X M_X11_next 8 P (12 + 3) [.ref v0, .int v1, .null, .null, .null, .null, .null, .null, .null, .null, .null] [.int q4.1] (q4.2, R, J)
    refine zx_istore_n (pc := 15) (x2 := q4.1) (L2 := [.ref v0, .int v1, .int q4.1, .null, .null, .null, .null, .null, .null, .null, .null]) d_X11_next_15 (by decide) rfl rfl ?_
    refine zv_iload_n (pc := 16) d_X11_next_16 rfl ?_
    refine zv_iload_n (pc := 17) d_X11_next_17 rfl ?_
    refine zv_iconst (pc := 18) d_X11_next_18 zc_i_1 ?_
    refine zv_isub (pc := 19) d_X11_next_19 ?_
    refine zv_iand (pc := 20) d_X11_next_20 ?_
    rcases zw_ifE hf with ⟨c5, hf⟩ | ⟨c5, hf⟩
    · refine zv_if_ne (pc := 21) (tg := 27) d_X11_next_21 (by decide) (fun _ => ?_) (fun q => absurd q c5)
      refine zv_bipush (pc := 27) d_X11_next_27 zc_b_m2 ?_
      refine zx_istore_n (pc := 29) (x2 := (-2)) (L2 := [.ref v0, .int v1, .int q4.1, .int (-2), .null, .null, .null, .null, .null, .null, .null]) d_X11_next_29 (by decide) rfl rfl ?_
      refine zv_iconst (pc := 30) d_X11_next_30 zc_i_m1 ?_
      refine zx_istore (pc := 31) (x2 := (-1)) (L2 := [.ref v0, .int v1, .int q4.1, .int (-2), .int (-1), .null, .null, .null, .null, .null, .null]) d_X11_next_31 (by decide) rfl rfl ?_
      refine zv_iconst (pc := 33) d_X11_next_33 zc_i_0 ?_
      refine zx_istore (pc := 34) (x2 := 0) (L2 := [.ref v0, .int v1, .int q4.1, .int (-2), .int (-1), .int 0, .null, .null, .null, .null, .null]) d_X11_next_34 (by decide) rfl rfl ?_
      obtain ⟨q28, hq28, hf⟩ := zw_bdE hf
      refine zx_weak (L' := [.ref v0, .null, .int q4.1, .int (-2), .int (-1), .int 0, .null, .null, .null, .null, .null]) (zw_leS (zw_leN (zw_leS (zw_leS (zw_leS (zw_leS (zw_leN (zw_leN (zw_leN (zw_leN (zw_leN zw_leZ))))))))))) (s_X11_next_36_lp X P v0 q4.1 R J _ _ _ hq28 ?_)
      show zy_V X M_X11_next 8 P 179 [.null, .null, .null, .int q28.1, .null, .null, .null, .null, .null, .null, .null] [] (q28.2, R, J)
      refine zv_iload_n (pc := 179) d_X11_next_179 rfl ?_
      cases hf
      exact zx_iret (pc := 180) d_X11_next_180 rfl hk
    · refine zv_if_ne (pc := 21) (tg := 27) d_X11_next_21 (by decide) (fun q => absurd q c5) (fun _ => ?_)
      refine zv_bipush (pc := 24) d_X11_next_24 zc_b_m2 ?_
      cases hf
      exact zx_iret (pc := 26) d_X11_next_26 rfl hk
  · refine zv_if_ne (pc := 5) (tg := 10) d_X11_next_5 (by decide) (fun q => absurd q c3) (fun _ => ?_)
    refine zv_iconst (pc := 8) d_X11_next_8 zc_i_m1 ?_
    cases hf
    exact zx_iret (pc := 9) d_X11_next_9 rfl hk
abbrev M_X8_scanToken : zw_M := (⟨"CutStones$Tape", "scanToken", "(II)I"⟩, prog_10_method_6_code, 5, (Option.some Jvm.ClassFile.FieldType.int))
theorem d_X8_scanToken_0 : decode M_X8_scanToken.2.1 0 = .ok (.aload_n 0, 1) := by decide +kernel
theorem d_X8_scanToken_1 : decode M_X8_scanToken.2.1 1 = .ok (.iload_n 2, 1) := by decide +kernel
theorem d_X8_scanToken_2 : decode M_X8_scanToken.2.1 2 = .ok (.invokevirtual 38, 3) := by decide +kernel
theorem d_X8_scanToken_5 : decode M_X8_scanToken.2.1 5 = .ok (.istore_n 3, 1) := by decide +kernel
theorem d_X8_scanToken_6 : decode M_X8_scanToken.2.1 6 = .ok (.iload_n 2, 1) := by decide +kernel
theorem d_X8_scanToken_7 : decode M_X8_scanToken.2.1 7 = .ok (.iconst 1, 1) := by decide +kernel
theorem d_X8_scanToken_8 : decode M_X8_scanToken.2.1 8 = .ok (.iadd, 1) := by decide +kernel
theorem d_X8_scanToken_9 : decode M_X8_scanToken.2.1 9 = .ok (.istore 4, 2) := by decide +kernel
theorem d_X8_scanToken_11 : decode M_X8_scanToken.2.1 11 = .ok (.iload_n 3, 1) := by decide +kernel
theorem d_X8_scanToken_12 : decode M_X8_scanToken.2.1 12 = .ok (.invokestatic 45, 3) := by decide +kernel
theorem d_X8_scanToken_15 : decode M_X8_scanToken.2.1 15 = .ok (.ifCond .eq 41, 3) := by decide +kernel
theorem d_X8_scanToken_18 : decode M_X8_scanToken.2.1 18 = .ok (.iload 4, 2) := by decide +kernel
theorem d_X8_scanToken_20 : decode M_X8_scanToken.2.1 20 = .ok (.aload_n 0, 1) := by decide +kernel
theorem d_X8_scanToken_21 : decode M_X8_scanToken.2.1 21 = .ok (.getfield 15, 3) := by decide +kernel
theorem d_X8_scanToken_24 : decode M_X8_scanToken.2.1 24 = .ok (.if_icmp .ge 21, 3) := by decide +kernel
theorem d_X8_scanToken_27 : decode M_X8_scanToken.2.1 27 = .ok (.aload_n 0, 1) := by decide +kernel
theorem d_X8_scanToken_28 : decode M_X8_scanToken.2.1 28 = .ok (.iload 4, 2) := by decide +kernel
theorem d_X8_scanToken_30 : decode M_X8_scanToken.2.1 30 = .ok (.invokevirtual 38, 3) := by decide +kernel
theorem d_X8_scanToken_33 : decode M_X8_scanToken.2.1 33 = .ok (.invokestatic 45, 3) := by decide +kernel
theorem d_X8_scanToken_36 : decode M_X8_scanToken.2.1 36 = .ok (.ifCond .eq 9, 3) := by decide +kernel
theorem d_X8_scanToken_39 : decode M_X8_scanToken.2.1 39 = .ok (.iinc 4 1, 3) := by decide +kernel
theorem d_X8_scanToken_42 : decode M_X8_scanToken.2.1 42 = .ok (.goto (-24), 3) := by decide +kernel
theorem d_X8_scanToken_45 : decode M_X8_scanToken.2.1 45 = .ok (.aload_n 0, 1) := by decide +kernel
theorem d_X8_scanToken_46 : decode M_X8_scanToken.2.1 46 = .ok (.iload_n 1, 1) := by decide +kernel
theorem d_X8_scanToken_47 : decode M_X8_scanToken.2.1 47 = .ok (.iload_n 2, 1) := by decide +kernel
theorem d_X8_scanToken_48 : decode M_X8_scanToken.2.1 48 = .ok (.iload 4, 2) := by decide +kernel
theorem d_X8_scanToken_50 : decode M_X8_scanToken.2.1 50 = .ok (.invokevirtual 48, 3) := by decide +kernel
theorem d_X8_scanToken_53 : decode M_X8_scanToken.2.1 53 = .ok (.goto 141, 3) := by decide +kernel
theorem d_X8_scanToken_56 : decode M_X8_scanToken.2.1 56 = .ok (.iload_n 3, 1) := by decide +kernel
theorem d_X8_scanToken_57 : decode M_X8_scanToken.2.1 57 = .ok (.invokestatic 52, 3) := by decide +kernel
theorem d_X8_scanToken_60 : decode M_X8_scanToken.2.1 60 = .ok (.ifCond .eq 41, 3) := by decide +kernel
theorem d_X8_scanToken_63 : decode M_X8_scanToken.2.1 63 = .ok (.iload 4, 2) := by decide +kernel
theorem d_X8_scanToken_65 : decode M_X8_scanToken.2.1 65 = .ok (.aload_n 0, 1) := by decide +kernel
theorem d_X8_scanToken_66 : decode M_X8_scanToken.2.1 66 = .ok (.getfield 15, 3) := by decide +kernel
theorem d_X8_scanToken_69 : decode M_X8_scanToken.2.1 69 = .ok (.if_icmp .ge 21, 3) := by decide +kernel
theorem d_X8_scanToken_72 : decode M_X8_scanToken.2.1 72 = .ok (.aload_n 0, 1) := by decide +kernel
theorem d_X8_scanToken_73 : decode M_X8_scanToken.2.1 73 = .ok (.iload 4, 2) := by decide +kernel
theorem d_X8_scanToken_75 : decode M_X8_scanToken.2.1 75 = .ok (.invokevirtual 38, 3) := by decide +kernel
theorem d_X8_scanToken_78 : decode M_X8_scanToken.2.1 78 = .ok (.invokestatic 52, 3) := by decide +kernel
theorem d_X8_scanToken_81 : decode M_X8_scanToken.2.1 81 = .ok (.ifCond .eq 9, 3) := by decide +kernel
theorem d_X8_scanToken_84 : decode M_X8_scanToken.2.1 84 = .ok (.iinc 4 1, 3) := by decide +kernel
theorem d_X8_scanToken_87 : decode M_X8_scanToken.2.1 87 = .ok (.goto (-24), 3) := by decide +kernel
theorem d_X8_scanToken_90 : decode M_X8_scanToken.2.1 90 = .ok (.aload_n 0, 1) := by decide +kernel
theorem d_X8_scanToken_91 : decode M_X8_scanToken.2.1 91 = .ok (.iload_n 1, 1) := by decide +kernel
theorem d_X8_scanToken_92 : decode M_X8_scanToken.2.1 92 = .ok (.iload_n 2, 1) := by decide +kernel
theorem d_X8_scanToken_93 : decode M_X8_scanToken.2.1 93 = .ok (.iload 4, 2) := by decide +kernel
theorem d_X8_scanToken_95 : decode M_X8_scanToken.2.1 95 = .ok (.invokevirtual 55, 3) := by decide +kernel
theorem d_X8_scanToken_98 : decode M_X8_scanToken.2.1 98 = .ok (.goto 96, 3) := by decide +kernel
theorem d_X8_scanToken_101 : decode M_X8_scanToken.2.1 101 = .ok (.iload_n 3, 1) := by decide +kernel
theorem d_X8_scanToken_102 : decode M_X8_scanToken.2.1 102 = .ok (.bipush 39, 2) := by decide +kernel
theorem d_X8_scanToken_104 : decode M_X8_scanToken.2.1 104 = .ok (.if_icmp .ne 82, 3) := by decide +kernel
theorem d_X8_scanToken_107 : decode M_X8_scanToken.2.1 107 = .ok (.iload 4, 2) := by decide +kernel
theorem d_X8_scanToken_109 : decode M_X8_scanToken.2.1 109 = .ok (.aload_n 0, 1) := by decide +kernel
theorem d_X8_scanToken_110 : decode M_X8_scanToken.2.1 110 = .ok (.getfield 15, 3) := by decide +kernel
theorem d_X8_scanToken_113 : decode M_X8_scanToken.2.1 113 = .ok (.if_icmp .ge 22, 3) := by decide +kernel
theorem d_X8_scanToken_116 : decode M_X8_scanToken.2.1 116 = .ok (.aload_n 0, 1) := by decide +kernel
theorem d_X8_scanToken_117 : decode M_X8_scanToken.2.1 117 = .ok (.iload 4, 2) := by decide +kernel
theorem d_X8_scanToken_119 : decode M_X8_scanToken.2.1 119 = .ok (.invokevirtual 38, 3) := by decide +kernel
theorem d_X8_scanToken_122 : decode M_X8_scanToken.2.1 122 = .ok (.invokestatic 58, 3) := by decide +kernel
theorem d_X8_scanToken_125 : decode M_X8_scanToken.2.1 125 = .ok (.iconst (-1), 1) := by decide +kernel
theorem d_X8_scanToken_126 : decode M_X8_scanToken.2.1 126 = .ok (.if_icmp .eq 9, 3) := by decide +kernel
theorem d_X8_scanToken_129 : decode M_X8_scanToken.2.1 129 = .ok (.iinc 4 1, 3) := by decide +kernel
theorem d_X8_scanToken_132 : decode M_X8_scanToken.2.1 132 = .ok (.goto (-25), 3) := by decide +kernel
theorem d_X8_scanToken_135 : decode M_X8_scanToken.2.1 135 = .ok (.aload_n 0, 1) := by decide +kernel
theorem d_X8_scanToken_136 : decode M_X8_scanToken.2.1 136 = .ok (.getfield 26, 3) := by decide +kernel
theorem d_X8_scanToken_139 : decode M_X8_scanToken.2.1 139 = .ok (.iload_n 1, 1) := by decide +kernel
theorem d_X8_scanToken_140 : decode M_X8_scanToken.2.1 140 = .ok (.iload 4, 2) := by decide +kernel
theorem d_X8_scanToken_142 : decode M_X8_scanToken.2.1 142 = .ok (.iload_n 2, 1) := by decide +kernel
theorem d_X8_scanToken_143 : decode M_X8_scanToken.2.1 143 = .ok (.isub, 1) := by decide +kernel
theorem d_X8_scanToken_144 : decode M_X8_scanToken.2.1 144 = .ok (.iconst 1, 1) := by decide +kernel
theorem d_X8_scanToken_145 : decode M_X8_scanToken.2.1 145 = .ok (.isub, 1) := by decide +kernel
theorem d_X8_scanToken_146 : decode M_X8_scanToken.2.1 146 = .ok (.i2l, 1) := by decide +kernel
theorem d_X8_scanToken_147 : decode M_X8_scanToken.2.1 147 = .ok (.lastore, 1) := by decide +kernel
theorem d_X8_scanToken_148 : decode M_X8_scanToken.2.1 148 = .ok (.aload_n 0, 1) := by decide +kernel
theorem d_X8_scanToken_149 : decode M_X8_scanToken.2.1 149 = .ok (.getfield 19, 3) := by decide +kernel
theorem d_X8_scanToken_152 : decode M_X8_scanToken.2.1 152 = .ok (.iload_n 1, 1) := by decide +kernel
theorem d_X8_scanToken_153 : decode M_X8_scanToken.2.1 153 = .ok (.aload_n 0, 1) := by decide +kernel
theorem d_X8_scanToken_154 : decode M_X8_scanToken.2.1 154 = .ok (.getfield 26, 3) := by decide +kernel
theorem d_X8_scanToken_157 : decode M_X8_scanToken.2.1 157 = .ok (.iload_n 1, 1) := by decide +kernel
theorem d_X8_scanToken_158 : decode M_X8_scanToken.2.1 158 = .ok (.laload, 1) := by decide +kernel
theorem d_X8_scanToken_159 : decode M_X8_scanToken.2.1 159 = .ok (.lconst 1, 1) := by decide +kernel
theorem d_X8_scanToken_160 : decode M_X8_scanToken.2.1 160 = .ok (.lcmp, 1) := by decide +kernel
theorem d_X8_scanToken_161 : decode M_X8_scanToken.2.1 161 = .ok (.ifCond .lt 20, 3) := by decide +kernel
theorem d_X8_scanToken_164 : decode M_X8_scanToken.2.1 164 = .ok (.aload_n 0, 1) := by decide +kernel
theorem d_X8_scanToken_165 : decode M_X8_scanToken.2.1 165 = .ok (.getfield 26, 3) := by decide +kernel
theorem d_X8_scanToken_168 : decode M_X8_scanToken.2.1 168 = .ok (.iload_n 1, 1) := by decide +kernel
theorem d_X8_scanToken_169 : decode M_X8_scanToken.2.1 169 = .ok (.laload, 1) := by decide +kernel
theorem d_X8_scanToken_170 : decode M_X8_scanToken.2.1 170 = .ok (.ldc2_w 61, 3) := by decide +kernel
theorem d_X8_scanToken_173 : decode M_X8_scanToken.2.1 173 = .ok (.lcmp, 1) := by decide +kernel
theorem d_X8_scanToken_174 : decode M_X8_scanToken.2.1 174 = .ok (.ifCond .gt 7, 3) := by decide +kernel
theorem d_X8_scanToken_177 : decode M_X8_scanToken.2.1 177 = .ok (.iconst 4, 1) := by decide +kernel
theorem d_X8_scanToken_178 : decode M_X8_scanToken.2.1 178 = .ok (.goto 4, 3) := by decide +kernel
theorem d_X8_scanToken_181 : decode M_X8_scanToken.2.1 181 = .ok (.iconst 1, 1) := by decide +kernel
theorem d_X8_scanToken_182 : decode M_X8_scanToken.2.1 182 = .ok (.iastore, 1) := by decide +kernel
theorem d_X8_scanToken_183 : decode M_X8_scanToken.2.1 183 = .ok (.goto 11, 3) := by decide +kernel
theorem d_X8_scanToken_186 : decode M_X8_scanToken.2.1 186 = .ok (.aload_n 0, 1) := by decide +kernel
theorem d_X8_scanToken_187 : decode M_X8_scanToken.2.1 187 = .ok (.iload_n 1, 1) := by decide +kernel
theorem d_X8_scanToken_188 : decode M_X8_scanToken.2.1 188 = .ok (.iload_n 2, 1) := by decide +kernel
theorem d_X8_scanToken_189 : decode M_X8_scanToken.2.1 189 = .ok (.invokevirtual 63, 3) := by decide +kernel
theorem d_X8_scanToken_192 : decode M_X8_scanToken.2.1 192 = .ok (.istore 4, 2) := by decide +kernel
theorem d_X8_scanToken_194 : decode M_X8_scanToken.2.1 194 = .ok (.iload 4, 2) := by decide +kernel
theorem d_X8_scanToken_196 : decode M_X8_scanToken.2.1 196 = .ok (.ireturn, 1) := by decide +kernel
theorem ce_X8_scanToken : zw_CeV M_X8_scanToken 2 := ⟨⟨⟨by decide +kernel, by decide +kernel, by decide +kernel⟩, (zw_mG (List.mem_of_getElem? (i := 555) (by decide +kernel)) rfl), (zw_mG (List.mem_of_getElem? (i := 97) (by decide +kernel)) rfl), by decide, by decide +kernel⟩, (zw_mG (List.mem_of_getElem? (i := 554) (by decide +kernel)) rfl), (zw_mG (List.mem_of_getElem? (i := 1) (by decide +kernel)) rfl)⟩
def s_X8_scanToken_107 (v0 : Nat) (v1 : Int32) (v2 : Int32) (I : zI) (R : zR) (J : zJ) (s : Int32) : Option ((Int32) ⊕ (Int32)) :=
  zw_g (zw_gc v0 8) (if (I v0 1) ≤ s then some (.inr s) else (f_X8_byteAt v0 s I R).bind fun q12 => ((f_X10_cellOf q12).bind fun q13 => (if q13 = (-1) then some (.inr s) else zw_let (s + 1 : Int32) fun x15 => (some (.inl x15)))))
theorem s_X8_scanToken_107_ok (X : zw_X) (P : Option Value → aS → Prop) (v0 : Nat) (v1 : Int32) (v2 : Int32) (I : zI) (R : zR) (J : zJ) (s : Int32) (o : (Int32) ⊕ (Int32)) (hf : s_X8_scanToken_107 v0 v1 v2 I R J s = some o) (hk : (zw_se (fun t => zy_V X M_X8_scanToken 8 P 107 [.ref v0, .int v1, .int v2, .null, .int t] [] (I, R, J)) (fun r => zy_V X M_X8_scanToken 8 P 135 [.ref v0, .int v1, .int v2, .null, .int r] [] (I, R, J)) o)) : zy_V X M_X8_scanToken 8 P 107 [.ref v0, .int v1, .int v2, .null, .int s] [] (I, R, J) := by
  unfold s_X8_scanToken_107 at hf
  refine zv_iload (pc := 107) d_X8_scanToken_107 rfl ?_
  refine zv_aload_n (pc := 109) d_X8_scanToken_109 rfl ?_
  obtain ⟨g10, hf⟩ := zw_gcE hf (by decide)
  refine zx_getI (pc := 110) d_X8_scanToken_110 lk_CutStones_Tape_15 (by decide) g10 ?_
  rcases zw_ifE hf with ⟨c11, hf⟩ | ⟨c11, hf⟩
  · refine zv_icmp_ge (pc := 113) (tg := 135) d_X8_scanToken_113 (by decide) (fun _ => ?_) (fun q => absurd c11 q)
    cases hf
    exact zx_weak (zw_leS (zw_leS (zw_leS (zw_leN (zw_leS zw_leZ))))) hk
  · refine zv_icmp_ge (pc := 113) (tg := 135) d_X8_scanToken_113 (by decide) (fun q => absurd q c11) (fun _ => ?_)
    refine zv_aload_n (pc := 116) d_X8_scanToken_116 rfl ?_
    refine zv_iload (pc := 117) d_X8_scanToken_117 rfl ?_
    obtain ⟨q12, hq12, hf⟩ := zw_bdE hf
    refine zx_callV (pc := 119) (As := [.int s]) (o := v0) (st := []) (d2 := 0) (M2 := M_X8_byteAt) (P2 := (fun r S => r = (some (.int q12)) ∧ S = (I, R, J))) d_X8_scanToken_119 (zw_mG (List.mem_of_getElem? (i := 545) (by decide +kernel)) rfl) ce_X8_byteAt (zw_RvK g10 rfl rfl) (Nat.le_of_ble_eq_true rfl) rfl (Nat.le_of_ble_eq_true rfl) (by decide) (c_X8_byteAt X v0 s I R J _ hq12 ⟨rfl, rfl⟩) ?_
    rintro _ _ ⟨rfl, rfl⟩
    show zy_V X M_X8_scanToken 8 P (119 + 3) [.ref v0, .int v1, .int v2, .null, .int s] [.int q12] (I, R, J)
    obtain ⟨q13, hq13, hf⟩ := zw_bdE hf
    refine zx_callSN (pc := 122) (As := [.int q12]) (st := []) (d2 := 7) (M2 := M_X10_cellOf) (P2 := (fun r S => r = (some (.int q13)) ∧ S = (I, R, J))) d_X8_scanToken_122 (by decide +kernel) ce_X10_cellOf (Nat.le_of_ble_eq_true rfl) rfl (Nat.le_of_ble_eq_true rfl) (by decide) (c_X10_cellOf X q12 I R J _ hq13 ⟨rfl, rfl⟩) ?_
    rintro _ _ ⟨rfl, rfl⟩
    show zy_V X M_X8_scanToken 8 P (122 + 3) [.ref v0, .int v1, .int v2, .null, .int s] [.int q13] (I, R, J)
    refine zv_iconst (pc := 125) d_X8_scanToken_125 zc_i_m1 ?_
    rcases zw_ifE hf with ⟨c14, hf⟩ | ⟨c14, hf⟩
    · refine zv_icmp_eq (pc := 126) (tg := 135) d_X8_scanToken_126 (by decide) (fun _ => ?_) (fun q => absurd c14 q)
      cases hf
      exact zx_weak (zw_leS (zw_leS (zw_leS (zw_leN (zw_leS zw_leZ))))) hk
    · refine zv_icmp_eq (pc := 126) (tg := 135) d_X8_scanToken_126 (by decide) (fun q => absurd q c14) (fun _ => ?_)
      obtain ⟨x15, ex15, hf⟩ := zw_letE hf
      refine zx_iinc (pc := 129) (x2 := x15) (L2 := [.ref v0, .int v1, .int v2, .null, .int x15]) d_X8_scanToken_129 (by decide) rfl zc_i_1 ex15 rfl ?_
      refine zv_goto (pc := 132) (tg := 107) d_X8_scanToken_132 (by decide) ?_
      cases hf
      exact zx_weak (zw_leS (zw_leS (zw_leS (zw_leN (zw_leS zw_leZ))))) hk
theorem s_X8_scanToken_107_lp (X : zw_X) (P : Option Value → aS → Prop) (v0 : Nat) (v1 : Int32) (v2 : Int32) (I : zI) (R : zR) (J : zJ) (n : Nat) (s : Int32) (r : Int32) (h : zw_it (s_X8_scanToken_107 v0 v1 v2 I R J) n s = some r) (hq : zy_V X M_X8_scanToken 8 P 135 [.ref v0, .int v1, .int v2, .null, .int r] [] (I, R, J)) : zy_V X M_X8_scanToken 8 P 107 [.ref v0, .int v1, .int v2, .null, .int s] [] (I, R, J) :=
  zw_itE (A := (fun t : Int32 => zy_V X M_X8_scanToken 8 P 107 [.ref v0, .int v1, .int v2, .null, .int t] [] (I, R, J))) (Q := (fun r : Int32 => zy_V X M_X8_scanToken 8 P 135 [.ref v0, .int v1, .int v2, .null, .int r] [] (I, R, J))) (fun s o h1 h2 => s_X8_scanToken_107_ok X P v0 v1 v2 I R J s o h1 h2) n s r h hq
def j_X8_scanToken_182 (v4 : Int32) (s0 : Nat) (s1 : Int32) (s2 : Int32) (I : zI) (R : zR) (J : zJ) : Option (Int32 × zI × zJ) :=
  zw_g (zw_gc s0 13) (zw_g (zw_in s1 (zw_SH s0).2) (zw_let (zw_u I s0 (Int32.toNatClampNeg s1) s2 : zI) fun I26 => (some (v4, I26, J))))
theorem j_X8_scanToken_182_ok (X : zw_X) (P : Option Value → aS → Prop) (v4 : Int32) (s0 : Nat) (s1 : Int32) (s2 : Int32) (I : zI) (R : zR) (J : zJ) (o : Int32 × zI × zJ) (hf : j_X8_scanToken_182 v4 s0 s1 s2 I R J = some o) (hk : P (some (.int o.1)) (o.2.1, R, o.2.2)) : zy_V X M_X8_scanToken 8 P 182 [.null, .null, .null, .null, .int v4] [.int s2, .int s1, .ref s0] (I, R, J) := by
  unfold j_X8_scanToken_182 at hf
  obtain ⟨g24, hf⟩ := zw_gcE hf (by decide)
  obtain ⟨i25, hf⟩ := zw_inE hf
  obtain ⟨I26, eI26, hf⟩ := zw_letE hf
  refine zx_iast (pc := 182) (I2 := I26) d_X8_scanToken_182 g24 i25 eI26 ?_
  refine zv_goto (pc := 183) (tg := 194) d_X8_scanToken_183 (by decide) ?_
  refine zv_iload (pc := 194) d_X8_scanToken_194 rfl ?_
  cases hf
  exact zx_iret (pc := 196) d_X8_scanToken_196 rfl hk
def j_X8_scanToken_181 (v4 : Int32) (s0 : Nat) (s1 : Int32) (I : zI) (R : zR) (J : zJ) : Option (Int32 × zI × zJ) :=
  j_X8_scanToken_182 v4 s0 s1 1 I R J
theorem j_X8_scanToken_181_ok (X : zw_X) (P : Option Value → aS → Prop) (v4 : Int32) (s0 : Nat) (s1 : Int32) (I : zI) (R : zR) (J : zJ) (o : Int32 × zI × zJ) (hf : j_X8_scanToken_181 v4 s0 s1 I R J = some o) (hk : P (some (.int o.1)) (o.2.1, R, o.2.2)) : zy_V X M_X8_scanToken 8 P 181 [.null, .null, .null, .null, .int v4] [.int s1, .ref s0] (I, R, J) := by
  unfold j_X8_scanToken_181 at hf
  refine zv_iconst (pc := 181) d_X8_scanToken_181 zc_i_1 ?_
  exact zx_weak (zw_leN (zw_leN (zw_leN (zw_leN (zw_leS zw_leZ))))) (j_X8_scanToken_182_ok X P v4 s0 s1 1 I R J _ hf hk)
def j_X8_scanToken_135 (v0 : Nat) (v1 : Int32) (v2 : Int32) (v4 : Int32) (I : zI) (R : zR) (J : zJ) : Option (Int32 × zI × zJ) :=
  zw_g (zw_gc v0 8) (zw_g (zw_gc (R v0 4) 14) (zw_g (zw_in v1 (zw_SH (R v0 4)).2) (zw_let (zw_u J (R v0 4) (Int32.toNatClampNeg v1) (Int32.toInt64 ((v4 - v2) - 1)) : zJ) fun J20 => (zw_g (zw_gc (R v0 2) 13) (zw_g (zw_in v1 (zw_SH (R v0 4)).2) (if (lg_cmp (J20 (R v0 4) (Int32.toNatClampNeg v1)) 1) < 0 then j_X8_scanToken_181 v4 (R v0 2) v1 I R J20 else zw_g (zw_in v1 (zw_SH (R v0 4)).2) (if 0 < (lg_cmp (J20 (R v0 4) (Int32.toNatClampNeg v1)) 12) then j_X8_scanToken_181 v4 (R v0 2) v1 I R J20 else j_X8_scanToken_182 v4 (R v0 2) v1 4 I R J20)))))))
theorem j_X8_scanToken_135_ok (X : zw_X) (P : Option Value → aS → Prop) (v0 : Nat) (v1 : Int32) (v2 : Int32) (v4 : Int32) (I : zI) (R : zR) (J : zJ) (o : Int32 × zI × zJ) (hf : j_X8_scanToken_135 v0 v1 v2 v4 I R J = some o) (hk : P (some (.int o.1)) (o.2.1, R, o.2.2)) : zy_V X M_X8_scanToken 8 P 135 [.ref v0, .int v1, .int v2, .null, .int v4] [] (I, R, J) := by
  unfold j_X8_scanToken_135 at hf
  refine zv_aload_n (pc := 135) d_X8_scanToken_135 rfl ?_
  obtain ⟨g17, hf⟩ := zw_gcE hf (by decide)
  obtain ⟨g18, hf⟩ := zw_gcE hf (by decide)
  refine zx_getR (pc := 136) d_X8_scanToken_136 lk_CutStones_Tape_26 (by decide) g17 g18 ?_
  refine zv_iload_n (pc := 139) d_X8_scanToken_139 rfl ?_
  refine zv_iload (pc := 140) d_X8_scanToken_140 rfl ?_
  refine zv_iload_n (pc := 142) d_X8_scanToken_142 rfl ?_
  refine zv_isub (pc := 143) d_X8_scanToken_143 ?_
  refine zv_iconst (pc := 144) d_X8_scanToken_144 zc_i_1 ?_
  refine zv_isub (pc := 145) d_X8_scanToken_145 ?_
  refine zv_i2l (pc := 146) d_X8_scanToken_146 ?_
  obtain ⟨i19, hf⟩ := zw_inE hf
  obtain ⟨J20, eJ20, hf⟩ := zw_letE hf
  refine zx_last (pc := 147) (J2 := J20) d_X8_scanToken_147 g18 i19 eJ20 ?_
  refine zv_aload_n (pc := 148) d_X8_scanToken_148 rfl ?_
  obtain ⟨g21, hf⟩ := zw_gcE hf (by decide)
  refine zx_getR (pc := 149) d_X8_scanToken_149 lk_CutStones_Tape_19 (by decide) g17 g21 ?_
  refine zv_iload_n (pc := 152) d_X8_scanToken_152 rfl ?_
  refine zv_aload_n (pc := 153) d_X8_scanToken_153 rfl ?_
  refine zx_getR (pc := 154) d_X8_scanToken_154 lk_CutStones_Tape_26 (by decide) g17 g18 ?_
  refine zv_iload_n (pc := 157) d_X8_scanToken_157 rfl ?_
  obtain ⟨i22, hf⟩ := zw_inE hf
  refine zx_lald (pc := 158) d_X8_scanToken_158 g18 i22 ?_
  refine zv_lconst (pc := 159) d_X8_scanToken_159 zc_l_1 ?_
  refine zv_lcmp (pc := 160) d_X8_scanToken_160 ?_
  rcases zw_ifE hf with ⟨c23, hf⟩ | ⟨c23, hf⟩
  · refine zv_if_lt (pc := 161) (tg := 181) d_X8_scanToken_161 (by decide) (fun _ => ?_) (fun q => absurd c23 q)
    exact zx_weak (zw_leN (zw_leN (zw_leN (zw_leN (zw_leS zw_leZ))))) (j_X8_scanToken_181_ok X P v4 (R v0 2) v1 I R J20 _ hf hk)
  · refine zv_if_lt (pc := 161) (tg := 181) d_X8_scanToken_161 (by decide) (fun q => absurd q c23) (fun _ => ?_)
    refine zv_aload_n (pc := 164) d_X8_scanToken_164 rfl ?_
    refine zx_getR (pc := 165) d_X8_scanToken_165 lk_CutStones_Tape_26 (by decide) g17 g18 ?_
    refine zv_iload_n (pc := 168) d_X8_scanToken_168 rfl ?_
    obtain ⟨i27, hf⟩ := zw_inE hf
    refine zx_lald (pc := 169) d_X8_scanToken_169 g18 i27 ?_
    refine zv_ldc2 (pc := 170) (v := 12) d_X8_scanToken_170 (zw_mG (List.mem_of_getElem? (i := 688) (by decide +kernel)) rfl) ?_
    refine zv_lcmp (pc := 173) d_X8_scanToken_173 ?_
    rcases zw_ifE hf with ⟨c28, hf⟩ | ⟨c28, hf⟩
    · refine zv_if_gt (pc := 174) (tg := 181) d_X8_scanToken_174 (by decide) (fun _ => ?_) (fun q => absurd c28 q)
      exact zx_weak (zw_leN (zw_leN (zw_leN (zw_leN (zw_leS zw_leZ))))) (j_X8_scanToken_181_ok X P v4 (R v0 2) v1 I R J20 _ hf hk)
    · refine zv_if_gt (pc := 174) (tg := 181) d_X8_scanToken_174 (by decide) (fun q => absurd q c28) (fun _ => ?_)
      refine zv_iconst (pc := 177) d_X8_scanToken_177 zc_i_4 ?_
      refine zv_goto (pc := 178) (tg := 182) d_X8_scanToken_178 (by decide) ?_
      exact zx_weak (zw_leN (zw_leN (zw_leN (zw_leN (zw_leS zw_leZ))))) (j_X8_scanToken_182_ok X P v4 (R v0 2) v1 4 I R J20 _ hf hk)
def s_X8_scanToken_63 (v0 : Nat) (v1 : Int32) (v2 : Int32) (I : zI) (R : zR) (J : zJ) (s : Int32) : Option ((Int32) ⊕ (Int32)) :=
  zw_g (zw_gc v0 8) (if (I v0 1) ≤ s then some (.inr s) else (f_X8_byteAt v0 s I R).bind fun q31 => ((f_X8_isDigit q31).bind fun q32 => (if q32 = 0 then some (.inr s) else zw_let (s + 1 : Int32) fun x34 => (some (.inl x34)))))
theorem s_X8_scanToken_63_ok (X : zw_X) (P : Option Value → aS → Prop) (v0 : Nat) (v1 : Int32) (v2 : Int32) (I : zI) (R : zR) (J : zJ) (s : Int32) (o : (Int32) ⊕ (Int32)) (hf : s_X8_scanToken_63 v0 v1 v2 I R J s = some o) (hk : (zw_se (fun t => zy_V X M_X8_scanToken 8 P 63 [.ref v0, .int v1, .int v2, .null, .int t] [] (I, R, J)) (fun r => zy_V X M_X8_scanToken 8 P 90 [.ref v0, .int v1, .int v2, .null, .int r] [] (I, R, J)) o)) : zy_V X M_X8_scanToken 8 P 63 [.ref v0, .int v1, .int v2, .null, .int s] [] (I, R, J) := by
  unfold s_X8_scanToken_63 at hf
  refine zv_iload (pc := 63) d_X8_scanToken_63 rfl ?_
  refine zv_aload_n (pc := 65) d_X8_scanToken_65 rfl ?_
  obtain ⟨g29, hf⟩ := zw_gcE hf (by decide)
  refine zx_getI (pc := 66) d_X8_scanToken_66 lk_CutStones_Tape_15 (by decide) g29 ?_
  rcases zw_ifE hf with ⟨c30, hf⟩ | ⟨c30, hf⟩
  · refine zv_icmp_ge (pc := 69) (tg := 90) d_X8_scanToken_69 (by decide) (fun _ => ?_) (fun q => absurd c30 q)
    cases hf
    exact zx_weak (zw_leS (zw_leS (zw_leS (zw_leN (zw_leS zw_leZ))))) hk
  · refine zv_icmp_ge (pc := 69) (tg := 90) d_X8_scanToken_69 (by decide) (fun q => absurd q c30) (fun _ => ?_)
    refine zv_aload_n (pc := 72) d_X8_scanToken_72 rfl ?_
    refine zv_iload (pc := 73) d_X8_scanToken_73 rfl ?_
    obtain ⟨q31, hq31, hf⟩ := zw_bdE hf
    refine zx_callV (pc := 75) (As := [.int s]) (o := v0) (st := []) (d2 := 0) (M2 := M_X8_byteAt) (P2 := (fun r S => r = (some (.int q31)) ∧ S = (I, R, J))) d_X8_scanToken_75 (zw_mG (List.mem_of_getElem? (i := 545) (by decide +kernel)) rfl) ce_X8_byteAt (zw_RvK g29 rfl rfl) (Nat.le_of_ble_eq_true rfl) rfl (Nat.le_of_ble_eq_true rfl) (by decide) (c_X8_byteAt X v0 s I R J _ hq31 ⟨rfl, rfl⟩) ?_
    rintro _ _ ⟨rfl, rfl⟩
    show zy_V X M_X8_scanToken 8 P (75 + 3) [.ref v0, .int v1, .int v2, .null, .int s] [.int q31] (I, R, J)
    obtain ⟨q32, hq32, hf⟩ := zw_bdE hf
    refine zx_callS (pc := 78) (As := [.int q31]) (st := []) (d2 := 0) (M2 := M_X8_isDigit) (P2 := (fun r S => r = (some (.int q32)) ∧ S = (I, R, J))) d_X8_scanToken_78 (zw_mG (List.mem_of_getElem? (i := 617) (by decide +kernel)) rfl) ce_X8_isDigit (Nat.le_of_ble_eq_true rfl) rfl (Nat.le_of_ble_eq_true rfl) (by decide) (c_X8_isDigit X q31 I R J _ hq32 ⟨rfl, rfl⟩) ?_
    rintro _ _ ⟨rfl, rfl⟩
    show zy_V X M_X8_scanToken 8 P (78 + 3) [.ref v0, .int v1, .int v2, .null, .int s] [.int q32] (I, R, J)
    rcases zw_ifE hf with ⟨c33, hf⟩ | ⟨c33, hf⟩
    · refine zv_if_eq (pc := 81) (tg := 90) d_X8_scanToken_81 (by decide) (fun _ => ?_) (fun q => absurd c33 q)
      cases hf
      exact zx_weak (zw_leS (zw_leS (zw_leS (zw_leN (zw_leS zw_leZ))))) hk
    · refine zv_if_eq (pc := 81) (tg := 90) d_X8_scanToken_81 (by decide) (fun q => absurd q c33) (fun _ => ?_)
      obtain ⟨x34, ex34, hf⟩ := zw_letE hf
      refine zx_iinc (pc := 84) (x2 := x34) (L2 := [.ref v0, .int v1, .int v2, .null, .int x34]) d_X8_scanToken_84 (by decide) rfl zc_i_1 ex34 rfl ?_
      refine zv_goto (pc := 87) (tg := 63) d_X8_scanToken_87 (by decide) ?_
      cases hf
      exact zx_weak (zw_leS (zw_leS (zw_leS (zw_leN (zw_leS zw_leZ))))) hk
theorem s_X8_scanToken_63_lp (X : zw_X) (P : Option Value → aS → Prop) (v0 : Nat) (v1 : Int32) (v2 : Int32) (I : zI) (R : zR) (J : zJ) (n : Nat) (s : Int32) (r : Int32) (h : zw_it (s_X8_scanToken_63 v0 v1 v2 I R J) n s = some r) (hq : zy_V X M_X8_scanToken 8 P 90 [.ref v0, .int v1, .int v2, .null, .int r] [] (I, R, J)) : zy_V X M_X8_scanToken 8 P 63 [.ref v0, .int v1, .int v2, .null, .int s] [] (I, R, J) :=
  zw_itE (A := (fun t : Int32 => zy_V X M_X8_scanToken 8 P 63 [.ref v0, .int v1, .int v2, .null, .int t] [] (I, R, J))) (Q := (fun r : Int32 => zy_V X M_X8_scanToken 8 P 90 [.ref v0, .int v1, .int v2, .null, .int r] [] (I, R, J))) (fun s o h1 h2 => s_X8_scanToken_63_ok X P v0 v1 v2 I R J s o h1 h2) n s r h hq
def j_X8_scanToken_90 (v0 : Nat) (v1 : Int32) (v2 : Int32) (v4 : Int32) (I : zI) (R : zR) (J : zJ) : Option (Int32 × zI × zJ) :=
  zw_g (zw_gc v0 8) ((f_X8_keepInt v0 v1 v2 v4 I R J).bind fun q37 => (some (v4, q37.1, q37.2)))
theorem j_X8_scanToken_90_ok (X : zw_X) (P : Option Value → aS → Prop) (v0 : Nat) (v1 : Int32) (v2 : Int32) (v4 : Int32) (I : zI) (R : zR) (J : zJ) (o : Int32 × zI × zJ) (hf : j_X8_scanToken_90 v0 v1 v2 v4 I R J = some o) (hk : P (some (.int o.1)) (o.2.1, R, o.2.2)) : zy_V X M_X8_scanToken 8 P 90 [.ref v0, .int v1, .int v2, .null, .int v4] [] (I, R, J) := by
  unfold j_X8_scanToken_90 at hf
  refine zv_aload_n (pc := 90) d_X8_scanToken_90 rfl ?_
  refine zv_iload_n (pc := 91) d_X8_scanToken_91 rfl ?_
  refine zv_iload_n (pc := 92) d_X8_scanToken_92 rfl ?_
  refine zv_iload (pc := 93) d_X8_scanToken_93 rfl ?_
  obtain ⟨g36, hf⟩ := zw_gcE hf (by decide)
  obtain ⟨q37, hq37, hf⟩ := zw_bdE hf
  refine zx_callV (pc := 95) (As := [.int v1, .int v2, .int v4]) (o := v0) (st := []) (d2 := 1) (M2 := M_X8_keepInt) (P2 := (fun r S => r = none ∧ S = (q37.1, R, q37.2))) d_X8_scanToken_95 (zw_mG (List.mem_of_getElem? (i := 620) (by decide +kernel)) rfl) ce_X8_keepInt (zw_RvK g36 rfl rfl) (Nat.le_of_ble_eq_true rfl) rfl (Nat.le_of_ble_eq_true rfl) (by decide) (c_X8_keepInt X v0 v1 v2 v4 I R J _ hq37 ⟨rfl, rfl⟩) ?_
  rintro _ _ ⟨rfl, rfl⟩
  show zy_V X M_X8_scanToken 8 P (95 + 3) [.ref v0, .int v1, .int v2, .null, .int v4] [] (q37.1, R, q37.2)
  refine zv_goto (pc := 98) (tg := 194) d_X8_scanToken_98 (by decide) ?_
  refine zv_iload (pc := 194) d_X8_scanToken_194 rfl ?_
  cases hf
  exact zx_iret (pc := 196) d_X8_scanToken_196 rfl hk
def s_X8_scanToken_18 (v0 : Nat) (v1 : Int32) (v2 : Int32) (I : zI) (R : zR) (J : zJ) (s : Int32) : Option ((Int32) ⊕ (Int32)) :=
  zw_g (zw_gc v0 8) (if (I v0 1) ≤ s then some (.inr s) else (f_X8_byteAt v0 s I R).bind fun q40 => ((f_X8_isLetter q40).bind fun q41 => (if q41 = 0 then some (.inr s) else zw_let (s + 1 : Int32) fun x43 => (some (.inl x43)))))
theorem s_X8_scanToken_18_ok (X : zw_X) (P : Option Value → aS → Prop) (v0 : Nat) (v1 : Int32) (v2 : Int32) (I : zI) (R : zR) (J : zJ) (s : Int32) (o : (Int32) ⊕ (Int32)) (hf : s_X8_scanToken_18 v0 v1 v2 I R J s = some o) (hk : (zw_se (fun t => zy_V X M_X8_scanToken 8 P 18 [.ref v0, .int v1, .int v2, .null, .int t] [] (I, R, J)) (fun r => zy_V X M_X8_scanToken 8 P 45 [.ref v0, .int v1, .int v2, .null, .int r] [] (I, R, J)) o)) : zy_V X M_X8_scanToken 8 P 18 [.ref v0, .int v1, .int v2, .null, .int s] [] (I, R, J) := by
  unfold s_X8_scanToken_18 at hf
  refine zv_iload (pc := 18) d_X8_scanToken_18 rfl ?_
  refine zv_aload_n (pc := 20) d_X8_scanToken_20 rfl ?_
  obtain ⟨g38, hf⟩ := zw_gcE hf (by decide)
  refine zx_getI (pc := 21) d_X8_scanToken_21 lk_CutStones_Tape_15 (by decide) g38 ?_
  rcases zw_ifE hf with ⟨c39, hf⟩ | ⟨c39, hf⟩
  · refine zv_icmp_ge (pc := 24) (tg := 45) d_X8_scanToken_24 (by decide) (fun _ => ?_) (fun q => absurd c39 q)
    cases hf
    exact zx_weak (zw_leS (zw_leS (zw_leS (zw_leN (zw_leS zw_leZ))))) hk
  · refine zv_icmp_ge (pc := 24) (tg := 45) d_X8_scanToken_24 (by decide) (fun q => absurd q c39) (fun _ => ?_)
    refine zv_aload_n (pc := 27) d_X8_scanToken_27 rfl ?_
    refine zv_iload (pc := 28) d_X8_scanToken_28 rfl ?_
    obtain ⟨q40, hq40, hf⟩ := zw_bdE hf
    refine zx_callV (pc := 30) (As := [.int s]) (o := v0) (st := []) (d2 := 0) (M2 := M_X8_byteAt) (P2 := (fun r S => r = (some (.int q40)) ∧ S = (I, R, J))) d_X8_scanToken_30 (zw_mG (List.mem_of_getElem? (i := 545) (by decide +kernel)) rfl) ce_X8_byteAt (zw_RvK g38 rfl rfl) (Nat.le_of_ble_eq_true rfl) rfl (Nat.le_of_ble_eq_true rfl) (by decide) (c_X8_byteAt X v0 s I R J _ hq40 ⟨rfl, rfl⟩) ?_
    rintro _ _ ⟨rfl, rfl⟩
    show zy_V X M_X8_scanToken 8 P (30 + 3) [.ref v0, .int v1, .int v2, .null, .int s] [.int q40] (I, R, J)
    obtain ⟨q41, hq41, hf⟩ := zw_bdE hf
    refine zx_callS (pc := 33) (As := [.int q40]) (st := []) (d2 := 0) (M2 := M_X8_isLetter) (P2 := (fun r S => r = (some (.int q41)) ∧ S = (I, R, J))) d_X8_scanToken_33 (zw_mG (List.mem_of_getElem? (i := 556) (by decide +kernel)) rfl) ce_X8_isLetter (Nat.le_of_ble_eq_true rfl) rfl (Nat.le_of_ble_eq_true rfl) (by decide) (c_X8_isLetter X q40 I R J _ hq41 ⟨rfl, rfl⟩) ?_
    rintro _ _ ⟨rfl, rfl⟩
    show zy_V X M_X8_scanToken 8 P (33 + 3) [.ref v0, .int v1, .int v2, .null, .int s] [.int q41] (I, R, J)
    rcases zw_ifE hf with ⟨c42, hf⟩ | ⟨c42, hf⟩
    · refine zv_if_eq (pc := 36) (tg := 45) d_X8_scanToken_36 (by decide) (fun _ => ?_) (fun q => absurd c42 q)
      cases hf
      exact zx_weak (zw_leS (zw_leS (zw_leS (zw_leN (zw_leS zw_leZ))))) hk
    · refine zv_if_eq (pc := 36) (tg := 45) d_X8_scanToken_36 (by decide) (fun q => absurd q c42) (fun _ => ?_)
      obtain ⟨x43, ex43, hf⟩ := zw_letE hf
      refine zx_iinc (pc := 39) (x2 := x43) (L2 := [.ref v0, .int v1, .int v2, .null, .int x43]) d_X8_scanToken_39 (by decide) rfl zc_i_1 ex43 rfl ?_
      refine zv_goto (pc := 42) (tg := 18) d_X8_scanToken_42 (by decide) ?_
      cases hf
      exact zx_weak (zw_leS (zw_leS (zw_leS (zw_leN (zw_leS zw_leZ))))) hk
theorem s_X8_scanToken_18_lp (X : zw_X) (P : Option Value → aS → Prop) (v0 : Nat) (v1 : Int32) (v2 : Int32) (I : zI) (R : zR) (J : zJ) (n : Nat) (s : Int32) (r : Int32) (h : zw_it (s_X8_scanToken_18 v0 v1 v2 I R J) n s = some r) (hq : zy_V X M_X8_scanToken 8 P 45 [.ref v0, .int v1, .int v2, .null, .int r] [] (I, R, J)) : zy_V X M_X8_scanToken 8 P 18 [.ref v0, .int v1, .int v2, .null, .int s] [] (I, R, J) :=
  zw_itE (A := (fun t : Int32 => zy_V X M_X8_scanToken 8 P 18 [.ref v0, .int v1, .int v2, .null, .int t] [] (I, R, J))) (Q := (fun r : Int32 => zy_V X M_X8_scanToken 8 P 45 [.ref v0, .int v1, .int v2, .null, .int r] [] (I, R, J))) (fun s o h1 h2 => s_X8_scanToken_18_ok X P v0 v1 v2 I R J s o h1 h2) n s r h hq
def j_X8_scanToken_45 (v0 : Nat) (v1 : Int32) (v2 : Int32) (v4 : Int32) (I : zI) (R : zR) (J : zJ) : Option (Int32 × zI × zJ) :=
  zw_g (zw_gc v0 8) ((f_X8_keepWord v0 v1 v2 v4 I R J).bind fun q46 => (some (v4, q46.1, q46.2)))
theorem j_X8_scanToken_45_ok (X : zw_X) (P : Option Value → aS → Prop) (v0 : Nat) (v1 : Int32) (v2 : Int32) (v4 : Int32) (I : zI) (R : zR) (J : zJ) (o : Int32 × zI × zJ) (hf : j_X8_scanToken_45 v0 v1 v2 v4 I R J = some o) (hk : P (some (.int o.1)) (o.2.1, R, o.2.2)) : zy_V X M_X8_scanToken 8 P 45 [.ref v0, .int v1, .int v2, .null, .int v4] [] (I, R, J) := by
  unfold j_X8_scanToken_45 at hf
  refine zv_aload_n (pc := 45) d_X8_scanToken_45 rfl ?_
  refine zv_iload_n (pc := 46) d_X8_scanToken_46 rfl ?_
  refine zv_iload_n (pc := 47) d_X8_scanToken_47 rfl ?_
  refine zv_iload (pc := 48) d_X8_scanToken_48 rfl ?_
  obtain ⟨g45, hf⟩ := zw_gcE hf (by decide)
  obtain ⟨q46, hq46, hf⟩ := zw_bdE hf
  refine zx_callV (pc := 50) (As := [.int v1, .int v2, .int v4]) (o := v0) (st := []) (d2 := 6) (M2 := M_X8_keepWord) (P2 := (fun r S => r = none ∧ S = (q46.1, R, q46.2))) d_X8_scanToken_50 (zw_mG (List.mem_of_getElem? (i := 559) (by decide +kernel)) rfl) ce_X8_keepWord (zw_RvK g45 rfl rfl) (Nat.le_of_ble_eq_true rfl) rfl (Nat.le_of_ble_eq_true rfl) (by decide) (c_X8_keepWord X v0 v1 v2 v4 I R J _ hq46 ⟨rfl, rfl⟩) ?_
  rintro _ _ ⟨rfl, rfl⟩
  show zy_V X M_X8_scanToken 8 P (50 + 3) [.ref v0, .int v1, .int v2, .null, .int v4] [] (q46.1, R, q46.2)
  refine zv_goto (pc := 53) (tg := 194) d_X8_scanToken_53 (by decide) ?_
  refine zv_iload (pc := 194) d_X8_scanToken_194 rfl ?_
  cases hf
  exact zx_iret (pc := 196) d_X8_scanToken_196 rfl hk
def f_X8_scanToken (v0 : Nat) (v1 : Int32) (v2 : Int32) (I : zI) (R : zR) (J : zJ) : Option (Int32 × zI × zJ) :=
  zw_g (zw_gc v0 8) ((f_X8_byteAt v0 v2 I R).bind fun q2 => (zw_let ((v2 + 1) : Int32) fun x3 => ((f_X8_isLetter q2).bind fun q4 => (if q4 = 0 then (f_X8_isDigit q2).bind fun q6 => (if q6 = 0 then if ¬ q2 = 39 then (f_X8_keepSign v0 v1 v2 I R).bind fun q9 => (some (q9.1, q9.2, J)) else (zw_it (s_X8_scanToken_107 v0 v1 v2 I R J) 1000000 x3).bind fun q16 => (j_X8_scanToken_135 v0 v1 v2 q16 I R J) else (zw_it (s_X8_scanToken_63 v0 v1 v2 I R J) 1000000 x3).bind fun q35 => (j_X8_scanToken_90 v0 v1 v2 q35 I R J)) else (zw_it (s_X8_scanToken_18 v0 v1 v2 I R J) 1000000 x3).bind fun q44 => (j_X8_scanToken_45 v0 v1 v2 q44 I R J)))))
theorem c_X8_scanToken (X : zw_X) (v0 : Nat) (v1 : Int32) (v2 : Int32) (I : zI) (R : zR) (J : zJ) {P : Option Value → aS → Prop} (o : Int32 × zI × zJ) (hf : f_X8_scanToken v0 v1 v2 I R J = some o) (hk : P (some (.int o.1)) (o.2.1, R, o.2.2)) : zw_C X M_X8_scanToken 8 0 0 199 [.ref v0, .int v1, .int v2] (I, R, J) P := by
  show zy_V X M_X8_scanToken 8 P 0 [.ref v0, .int v1, .int v2, .null, .null] [] (I, R, J)
  unfold f_X8_scanToken at hf
  refine zv_aload_n (pc := 0) d_X8_scanToken_0 rfl ?_
  refine zv_iload_n (pc := 1) d_X8_scanToken_1 rfl ?_
  obtain ⟨g1, hf⟩ := zw_gcE hf (by decide)
  obtain ⟨q2, hq2, hf⟩ := zw_bdE hf
  refine zx_callV (pc := 2) (As := [.int v2]) (o := v0) (st := []) (d2 := 0) (M2 := M_X8_byteAt) (P2 := (fun r S => r = (some (.int q2)) ∧ S = (I, R, J))) d_X8_scanToken_2 (zw_mG (List.mem_of_getElem? (i := 545) (by decide +kernel)) rfl) ce_X8_byteAt (zw_RvK g1 rfl rfl) (Nat.le_of_ble_eq_true rfl) rfl (Nat.le_of_ble_eq_true rfl) (by decide) (c_X8_byteAt X v0 v2 I R J _ hq2 ⟨rfl, rfl⟩) ?_
  rintro _ _ ⟨rfl, rfl⟩
  show zy_V X M_X8_scanToken 8 P (2 + 3) [.ref v0, .int v1, .int v2, .null, .null] [.int q2] (I, R, J)
  refine zx_istore_n (pc := 5) (x2 := q2) (L2 := [.ref v0, .int v1, .int v2, .int q2, .null]) d_X8_scanToken_5 (by decide) rfl rfl ?_
  refine zv_iload_n (pc := 6) d_X8_scanToken_6 rfl ?_
  refine zv_iconst (pc := 7) d_X8_scanToken_7 zc_i_1 ?_
  refine zv_iadd (pc := 8) d_X8_scanToken_8 ?_
  obtain ⟨x3, ex3, hf⟩ := zw_letE hf
  refine zx_istore (pc := 9) (x2 := x3) (L2 := [.ref v0, .int v1, .int v2, .int q2, .int x3]) d_X8_scanToken_9 (by decide) ex3 rfl ?_
  refine zv_iload_n (pc := 11) d_X8_scanToken_11 rfl ?_
  obtain ⟨q4, hq4, hf⟩ := zw_bdE hf
  refine zx_callS (pc := 12) (As := [.int q2]) (st := []) (d2 := 0) (M2 := M_X8_isLetter) (P2 := (fun r S => r = (some (.int q4)) ∧ S = (I, R, J))) d_X8_scanToken_12 (zw_mG (List.mem_of_getElem? (i := 556) (by decide +kernel)) rfl) ce_X8_isLetter (Nat.le_of_ble_eq_true rfl) rfl (Nat.le_of_ble_eq_true rfl) (by decide) (c_X8_isLetter X q2 I R J _ hq4 ⟨rfl, rfl⟩) ?_
  rintro _ _ ⟨rfl, rfl⟩
  show zy_V X M_X8_scanToken 8 P (12 + 3) [.ref v0, .int v1, .int v2, .int q2, .int x3] [.int q4] (I, R, J)
  rcases zw_ifE hf with ⟨c5, hf⟩ | ⟨c5, hf⟩
  · refine zv_if_eq (pc := 15) (tg := 56) d_X8_scanToken_15 (by decide) (fun _ => ?_) (fun q => absurd c5 q)
    refine zv_iload_n (pc := 56) d_X8_scanToken_56 rfl ?_
    obtain ⟨q6, hq6, hf⟩ := zw_bdE hf
    refine zx_callS (pc := 57) (As := [.int q2]) (st := []) (d2 := 0) (M2 := M_X8_isDigit) (P2 := (fun r S => r = (some (.int q6)) ∧ S = (I, R, J))) d_X8_scanToken_57 (zw_mG (List.mem_of_getElem? (i := 617) (by decide +kernel)) rfl) ce_X8_isDigit (Nat.le_of_ble_eq_true rfl) rfl (Nat.le_of_ble_eq_true rfl) (by decide) (c_X8_isDigit X q2 I R J _ hq6 ⟨rfl, rfl⟩) ?_
    rintro _ _ ⟨rfl, rfl⟩
    show zy_V X M_X8_scanToken 8 P (57 + 3) [.ref v0, .int v1, .int v2, .int q2, .int x3] [.int q6] (I, R, J)
    rcases zw_ifE hf with ⟨c7, hf⟩ | ⟨c7, hf⟩
    · refine zv_if_eq (pc := 60) (tg := 101) d_X8_scanToken_60 (by decide) (fun _ => ?_) (fun q => absurd c7 q)
      refine zv_iload_n (pc := 101) d_X8_scanToken_101 rfl ?_
      refine zv_bipush (pc := 102) d_X8_scanToken_102 zc_b_39 ?_
      rcases zw_ifE hf with ⟨c8, hf⟩ | ⟨c8, hf⟩
      · refine zv_icmp_ne (pc := 104) (tg := 186) d_X8_scanToken_104 (by decide) (fun _ => ?_) (fun q => absurd q c8)
        refine zv_aload_n (pc := 186) d_X8_scanToken_186 rfl ?_
        refine zv_iload_n (pc := 187) d_X8_scanToken_187 rfl ?_
        refine zv_iload_n (pc := 188) d_X8_scanToken_188 rfl ?_
        obtain ⟨q9, hq9, hf⟩ := zw_bdE hf
        refine zx_callV (pc := 189) (As := [.int v1, .int v2]) (o := v0) (st := []) (d2 := 7) (M2 := M_X8_keepSign) (P2 := (fun r S => r = (some (.int q9.1)) ∧ S = (q9.2, R, J))) d_X8_scanToken_189 (zw_mG (List.mem_of_getElem? (i := 689) (by decide +kernel)) rfl) ce_X8_keepSign (zw_RvK g1 rfl rfl) (Nat.le_of_ble_eq_true rfl) rfl (Nat.le_of_ble_eq_true rfl) (by decide) (c_X8_keepSign X v0 v1 v2 I R J _ hq9 ⟨rfl, rfl⟩) ?_
        rintro _ _ ⟨rfl, rfl⟩
        show zy_V X M_X8_scanToken 8 P (189 + 3) [.ref v0, .int v1, .int v2, .int q2, .int x3] [.int q9.1] (q9.2, R, J)
        refine zx_istore (pc := 192) (x2 := q9.1) (L2 := [.ref v0, .int v1, .int v2, .int q2, .int q9.1]) d_X8_scanToken_192 (by decide) rfl rfl ?_
        refine zv_iload (pc := 194) d_X8_scanToken_194 rfl ?_
        cases hf
        exact zx_iret (pc := 196) d_X8_scanToken_196 rfl hk
      · refine zv_icmp_ne (pc := 104) (tg := 186) d_X8_scanToken_104 (by decide) (fun q => absurd q c8) (fun _ => ?_)
        obtain ⟨q16, hq16, hf⟩ := zw_bdE hf
        refine zx_weak (L' := [.ref v0, .int v1, .int v2, .null, .int x3]) (zw_leS (zw_leS (zw_leS (zw_leN (zw_leS zw_leZ))))) (s_X8_scanToken_107_lp X P v0 v1 v2 I R J _ _ _ hq16 ?_)
        show zy_V X M_X8_scanToken 8 P 135 [.ref v0, .int v1, .int v2, .null, .int q16] [] (I, R, J)
        exact zx_weak (zw_leS (zw_leS (zw_leS (zw_leN (zw_leS zw_leZ))))) (j_X8_scanToken_135_ok X P v0 v1 v2 q16 I R J _ hf hk)
    · refine zv_if_eq (pc := 60) (tg := 101) d_X8_scanToken_60 (by decide) (fun q => absurd q c7) (fun _ => ?_)
      obtain ⟨q35, hq35, hf⟩ := zw_bdE hf
      refine zx_weak (L' := [.ref v0, .int v1, .int v2, .null, .int x3]) (zw_leS (zw_leS (zw_leS (zw_leN (zw_leS zw_leZ))))) (s_X8_scanToken_63_lp X P v0 v1 v2 I R J _ _ _ hq35 ?_)
      show zy_V X M_X8_scanToken 8 P 90 [.ref v0, .int v1, .int v2, .null, .int q35] [] (I, R, J)
      exact zx_weak (zw_leS (zw_leS (zw_leS (zw_leN (zw_leS zw_leZ))))) (j_X8_scanToken_90_ok X P v0 v1 v2 q35 I R J _ hf hk)
  · refine zv_if_eq (pc := 15) (tg := 56) d_X8_scanToken_15 (by decide) (fun q => absurd q c5) (fun _ => ?_)
    obtain ⟨q44, hq44, hf⟩ := zw_bdE hf
    refine zx_weak (L' := [.ref v0, .int v1, .int v2, .null, .int x3]) (zw_leS (zw_leS (zw_leS (zw_leN (zw_leS zw_leZ))))) (s_X8_scanToken_18_lp X P v0 v1 v2 I R J _ _ _ hq44 ?_)
    show zy_V X M_X8_scanToken 8 P 45 [.ref v0, .int v1, .int v2, .null, .int q44] [] (I, R, J)
    exact zx_weak (zw_leS (zw_leS (zw_leS (zw_leN (zw_leS zw_leZ))))) (j_X8_scanToken_45_ok X P v0 v1 v2 q44 I R J _ hf hk)
