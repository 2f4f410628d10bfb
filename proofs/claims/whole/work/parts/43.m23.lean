abbrev M_X8_keepWord : zw_M := (⟨"CutStones$Tape", "keepWord", "(III)V"⟩, prog_10_method_7_code, 5, (Option.none : Option Jvm.ClassFile.FieldType))
theorem d_X8_keepWord_0 : decode M_X8_keepWord.2.1 0 = .ok (.iload_n 3, 1) := by decide +kernel
theorem d_X8_keepWord_1 : decode M_X8_keepWord.2.1 1 = .ok (.iload_n 2, 1) := by decide +kernel
theorem d_X8_keepWord_2 : decode M_X8_keepWord.2.1 2 = .ok (.isub, 1) := by decide +kernel
theorem d_X8_keepWord_3 : decode M_X8_keepWord.2.1 3 = .ok (.bipush 8, 2) := by decide +kernel
theorem d_X8_keepWord_5 : decode M_X8_keepWord.2.1 5 = .ok (.if_icmp .le 11, 3) := by decide +kernel
theorem d_X8_keepWord_8 : decode M_X8_keepWord.2.1 8 = .ok (.aload_n 0, 1) := by decide +kernel
theorem d_X8_keepWord_9 : decode M_X8_keepWord.2.1 9 = .ok (.getfield 19, 3) := by decide +kernel
theorem d_X8_keepWord_12 : decode M_X8_keepWord.2.1 12 = .ok (.iload_n 1, 1) := by decide +kernel
theorem d_X8_keepWord_13 : decode M_X8_keepWord.2.1 13 = .ok (.iconst 1, 1) := by decide +kernel
theorem d_X8_keepWord_14 : decode M_X8_keepWord.2.1 14 = .ok (.iastore, 1) := by decide +kernel
theorem d_X8_keepWord_15 : decode M_X8_keepWord.2.1 15 = .ok (.return_, 1) := by decide +kernel
theorem d_X8_keepWord_16 : decode M_X8_keepWord.2.1 16 = .ok (.aload_n 0, 1) := by decide +kernel
theorem d_X8_keepWord_17 : decode M_X8_keepWord.2.1 17 = .ok (.getfield 19, 3) := by decide +kernel
theorem d_X8_keepWord_20 : decode M_X8_keepWord.2.1 20 = .ok (.iload_n 1, 1) := by decide +kernel
theorem d_X8_keepWord_21 : decode M_X8_keepWord.2.1 21 = .ok (.aload_n 0, 1) := by decide +kernel
theorem d_X8_keepWord_22 : decode M_X8_keepWord.2.1 22 = .ok (.iload_n 2, 1) := by decide +kernel
theorem d_X8_keepWord_23 : decode M_X8_keepWord.2.1 23 = .ok (.iload_n 3, 1) := by decide +kernel
theorem d_X8_keepWord_24 : decode M_X8_keepWord.2.1 24 = .ok (.invokevirtual 66, 3) := by decide +kernel
theorem d_X8_keepWord_27 : decode M_X8_keepWord.2.1 27 = .ok (.iastore, 1) := by decide +kernel
theorem d_X8_keepWord_28 : decode M_X8_keepWord.2.1 28 = .ok (.iload_n 2, 1) := by decide +kernel
theorem d_X8_keepWord_29 : decode M_X8_keepWord.2.1 29 = .ok (.istore 4, 2) := by decide +kernel
theorem d_X8_keepWord_31 : decode M_X8_keepWord.2.1 31 = .ok (.iload 4, 2) := by decide +kernel
theorem d_X8_keepWord_33 : decode M_X8_keepWord.2.1 33 = .ok (.iload_n 3, 1) := by decide +kernel
theorem d_X8_keepWord_34 : decode M_X8_keepWord.2.1 34 = .ok (.if_icmp .ge 38, 3) := by decide +kernel
theorem d_X8_keepWord_37 : decode M_X8_keepWord.2.1 37 = .ok (.aload_n 0, 1) := by decide +kernel
theorem d_X8_keepWord_38 : decode M_X8_keepWord.2.1 38 = .ok (.getfield 26, 3) := by decide +kernel
theorem d_X8_keepWord_41 : decode M_X8_keepWord.2.1 41 = .ok (.iload_n 1, 1) := by decide +kernel
theorem d_X8_keepWord_42 : decode M_X8_keepWord.2.1 42 = .ok (.aload_n 0, 1) := by decide +kernel
theorem d_X8_keepWord_43 : decode M_X8_keepWord.2.1 43 = .ok (.getfield 26, 3) := by decide +kernel
theorem d_X8_keepWord_46 : decode M_X8_keepWord.2.1 46 = .ok (.iload_n 1, 1) := by decide +kernel
theorem d_X8_keepWord_47 : decode M_X8_keepWord.2.1 47 = .ok (.laload, 1) := by decide +kernel
theorem d_X8_keepWord_48 : decode M_X8_keepWord.2.1 48 = .ok (.ldc2_w 69, 3) := by decide +kernel
theorem d_X8_keepWord_51 : decode M_X8_keepWord.2.1 51 = .ok (.lmul, 1) := by decide +kernel
theorem d_X8_keepWord_52 : decode M_X8_keepWord.2.1 52 = .ok (.aload_n 0, 1) := by decide +kernel
theorem d_X8_keepWord_53 : decode M_X8_keepWord.2.1 53 = .ok (.iload 4, 2) := by decide +kernel
theorem d_X8_keepWord_55 : decode M_X8_keepWord.2.1 55 = .ok (.invokevirtual 38, 3) := by decide +kernel
theorem d_X8_keepWord_58 : decode M_X8_keepWord.2.1 58 = .ok (.bipush 97, 2) := by decide +kernel
theorem d_X8_keepWord_60 : decode M_X8_keepWord.2.1 60 = .ok (.isub, 1) := by decide +kernel
theorem d_X8_keepWord_61 : decode M_X8_keepWord.2.1 61 = .ok (.iconst 1, 1) := by decide +kernel
theorem d_X8_keepWord_62 : decode M_X8_keepWord.2.1 62 = .ok (.iadd, 1) := by decide +kernel
theorem d_X8_keepWord_63 : decode M_X8_keepWord.2.1 63 = .ok (.i2l, 1) := by decide +kernel
theorem d_X8_keepWord_64 : decode M_X8_keepWord.2.1 64 = .ok (.ladd, 1) := by decide +kernel
theorem d_X8_keepWord_65 : decode M_X8_keepWord.2.1 65 = .ok (.lastore, 1) := by decide +kernel
theorem d_X8_keepWord_66 : decode M_X8_keepWord.2.1 66 = .ok (.iinc 4 1, 3) := by decide +kernel
theorem d_X8_keepWord_69 : decode M_X8_keepWord.2.1 69 = .ok (.goto (-38), 3) := by decide +kernel
theorem d_X8_keepWord_72 : decode M_X8_keepWord.2.1 72 = .ok (.return_, 1) := by decide +kernel
theorem ce_X8_keepWord : zw_CeV M_X8_keepWord 3 := ⟨⟨⟨by decide +kernel, by decide +kernel, by decide +kernel⟩, (zw_mG (List.mem_of_getElem? (i := 562) (by decide +kernel)) rfl), (zw_mG (List.mem_of_getElem? (i := 97) (by decide +kernel)) rfl), by decide, by decide +kernel⟩, (zw_mG (List.mem_of_getElem? (i := 561) (by decide +kernel)) rfl), (zw_mG (List.mem_of_getElem? (i := 2) (by decide +kernel)) rfl)⟩
def s_X8_keepWord_31 (v0 : Nat) (v1 : Int32) (v3 : Int32) (I : zI) (R : zR) (s : Int32 × zJ) : Option ((Int32 × zJ) ⊕ (zJ)) :=
  if v3 ≤ s.1 then some (.inr s.2) else zw_g (zw_gc v0 8) (zw_g (zw_gc (R v0 4) 14) (zw_g (zw_in v1 (zw_SH (R v0 4)).2) ((f_X8_byteAt v0 s.1 I R).bind fun q11 => (zw_g (zw_in v1 (zw_SH (R v0 4)).2) (zw_let (zw_u s.2 (R v0 4) (Int32.toNatClampNeg v1) (((s.2 (R v0 4) (Int32.toNatClampNeg v1)) * 32) + (Int32.toInt64 ((q11 - 97) + 1))) : zJ) fun J13 => (zw_let (s.1 + 1 : Int32) fun x14 => (some (.inl (x14, J13)))))))))
theorem s_X8_keepWord_31_ok (X : zw_X) (P : Option Value → aS → Prop) (v0 : Nat) (v1 : Int32) (v3 : Int32) (I : zI) (R : zR) (s : Int32 × zJ) (o : (Int32 × zJ) ⊕ (zJ)) (hf : s_X8_keepWord_31 v0 v1 v3 I R s = some o) (hk : (zw_se (fun t => zy_V X M_X8_keepWord 6 P 31 [.ref v0, .int v1, .null, .int v3, .int t.1] [] (I, R, t.2)) (fun r => zy_V X M_X8_keepWord 6 P 72 [.null, .null, .null, .null, .null] [] (I, R, r)) o)) : zy_V X M_X8_keepWord 6 P 31 [.ref v0, .int v1, .null, .int v3, .int s.1] [] (I, R, s.2) := by
  unfold s_X8_keepWord_31 at hf
  refine zv_iload (pc := 31) d_X8_keepWord_31 rfl ?_
  refine zv_iload_n (pc := 33) d_X8_keepWord_33 rfl ?_
  rcases zw_ifE hf with ⟨c7, hf⟩ | ⟨c7, hf⟩
  · refine zv_icmp_ge (pc := 34) (tg := 72) d_X8_keepWord_34 (by decide) (fun _ => ?_) (fun q => absurd c7 q)
    cases hf
    exact zx_weak (zw_leN (zw_leN (zw_leN (zw_leN (zw_leN zw_leZ))))) hk
  · refine zv_icmp_ge (pc := 34) (tg := 72) d_X8_keepWord_34 (by decide) (fun q => absurd q c7) (fun _ => ?_)
    refine zv_aload_n (pc := 37) d_X8_keepWord_37 rfl ?_
    obtain ⟨g8, hf⟩ := zw_gcE hf (by decide)
    obtain ⟨g9, hf⟩ := zw_gcE hf (by decide)
    refine zx_getR (pc := 38) d_X8_keepWord_38 lk_CutStones_Tape_26 (by decide) g8 g9 ?_
    refine zv_iload_n (pc := 41) d_X8_keepWord_41 rfl ?_
    refine zv_aload_n (pc := 42) d_X8_keepWord_42 rfl ?_
    refine zx_getR (pc := 43) d_X8_keepWord_43 lk_CutStones_Tape_26 (by decide) g8 g9 ?_
    refine zv_iload_n (pc := 46) d_X8_keepWord_46 rfl ?_
    obtain ⟨i10, hf⟩ := zw_inE hf
    refine zx_lald (pc := 47) d_X8_keepWord_47 g9 i10 ?_
    refine zv_ldc2 (pc := 48) (v := 32) d_X8_keepWord_48 (zw_mG (List.mem_of_getElem? (i := 616) (by decide +kernel)) rfl) ?_
    refine zv_lmul (pc := 51) d_X8_keepWord_51 ?_
    refine zv_aload_n (pc := 52) d_X8_keepWord_52 rfl ?_
    refine zv_iload (pc := 53) d_X8_keepWord_53 rfl ?_
    obtain ⟨q11, hq11, hf⟩ := zw_bdE hf
    refine zx_callV (pc := 55) (As := [.int s.1]) (o := v0) (st := [.long ((s.2 (R v0 4) (Int32.toNatClampNeg v1)) * 32), .int v1, .ref (R v0 4)]) (d2 := 0) (M2 := M_X8_byteAt) (P2 := (fun r S => r = (some (.int q11)) ∧ S = (I, R, s.2))) d_X8_keepWord_55 (zw_mG (List.mem_of_getElem? (i := 545) (by decide +kernel)) rfl) ce_X8_byteAt (zw_RvK g8 rfl rfl) (Nat.le_of_ble_eq_true rfl) rfl (Nat.le_of_ble_eq_true rfl) (by decide) (c_X8_byteAt X v0 s.1 I R s.2 _ hq11 ⟨rfl, rfl⟩) ?_
    rintro _ _ ⟨rfl, rfl⟩
    show zy_V X M_X8_keepWord 6 P (55 + 3) [.ref v0, .int v1, .null, .int v3, .int s.1] [.int q11, .long ((s.2 (R v0 4) (Int32.toNatClampNeg v1)) * 32), .int v1, .ref (R v0 4)] (I, R, s.2)
    refine zv_bipush (pc := 58) d_X8_keepWord_58 zc_b_97 ?_
    refine zv_isub (pc := 60) d_X8_keepWord_60 ?_
    refine zv_iconst (pc := 61) d_X8_keepWord_61 zc_i_1 ?_
    refine zv_iadd (pc := 62) d_X8_keepWord_62 ?_
    refine zv_i2l (pc := 63) d_X8_keepWord_63 ?_
    refine zv_ladd (pc := 64) d_X8_keepWord_64 ?_
    obtain ⟨i12, hf⟩ := zw_inE hf
    obtain ⟨J13, eJ13, hf⟩ := zw_letE hf
    refine zx_last (pc := 65) (J2 := J13) d_X8_keepWord_65 g9 i12 eJ13 ?_
    obtain ⟨x14, ex14, hf⟩ := zw_letE hf
    refine zx_iinc (pc := 66) (x2 := x14) (L2 := [.ref v0, .int v1, .null, .int v3, .int x14]) d_X8_keepWord_66 (by decide) rfl zc_i_1 ex14 rfl ?_
    refine zv_goto (pc := 69) (tg := 31) d_X8_keepWord_69 (by decide) ?_
    cases hf
    exact zx_weak (zw_leS (zw_leS (zw_leN (zw_leS (zw_leS zw_leZ))))) hk
theorem s_X8_keepWord_31_lp (X : zw_X) (P : Option Value → aS → Prop) (v0 : Nat) (v1 : Int32) (v3 : Int32) (I : zI) (R : zR) (n : Nat) (s : Int32 × zJ) (r : zJ) (h : zw_it (s_X8_keepWord_31 v0 v1 v3 I R) n s = some r) (hq : zy_V X M_X8_keepWord 6 P 72 [.null, .null, .null, .null, .null] [] (I, R, r)) : zy_V X M_X8_keepWord 6 P 31 [.ref v0, .int v1, .null, .int v3, .int s.1] [] (I, R, s.2) :=
  zw_itE (A := (fun t : Int32 × zJ => zy_V X M_X8_keepWord 6 P 31 [.ref v0, .int v1, .null, .int v3, .int t.1] [] (I, R, t.2))) (Q := (fun r : zJ => zy_V X M_X8_keepWord 6 P 72 [.null, .null, .null, .null, .null] [] (I, R, r))) (fun s o h1 h2 => s_X8_keepWord_31_ok X P v0 v1 v3 I R s o h1 h2) n s r h hq
def f_X8_keepWord (v0 : Nat) (v1 : Int32) (v2 : Int32) (v3 : Int32) (I : zI) (R : zR) (J : zJ) : Option (zI × zJ) :=
  if (v3 - v2) ≤ 8 then zw_g (zw_gc v0 8) (zw_g (zw_gc (R v0 2) 13) ((f_X8_wordKind v0 v2 v3 I R).bind fun q4 => (zw_g (zw_in v1 (zw_SH (R v0 2)).2) (zw_let (zw_u I (R v0 2) (Int32.toNatClampNeg v1) q4 : zI) fun I6 => ((zw_it (s_X8_keepWord_31 v0 v1 v3 I6 R) 1000000 (v2, J)).bind fun q15 => (some (I6, q15))))))) else zw_g (zw_gc v0 8) (zw_g (zw_gc (R v0 2) 13) (zw_g (zw_in v1 (zw_SH (R v0 2)).2) (zw_let (zw_u I (R v0 2) (Int32.toNatClampNeg v1) 1 : zI) fun I19 => (some (I19, J)))))
theorem c_X8_keepWord (X : zw_X) (v0 : Nat) (v1 : Int32) (v2 : Int32) (v3 : Int32) (I : zI) (R : zR) (J : zJ) {P : Option Value → aS → Prop} (o : zI × zJ) (hf : f_X8_keepWord v0 v1 v2 v3 I R J = some o) (hk : P none (o.1, R, o.2)) : zw_C X M_X8_keepWord 6 0 0 199 [.ref v0, .int v1, .int v2, .int v3] (I, R, J) P := by
  show zy_V X M_X8_keepWord 6 P 0 [.ref v0, .int v1, .int v2, .int v3, .null] [] (I, R, J)
  unfold f_X8_keepWord at hf
  refine zv_iload_n (pc := 0) d_X8_keepWord_0 rfl ?_
  refine zv_iload_n (pc := 1) d_X8_keepWord_1 rfl ?_
  refine zv_isub (pc := 2) d_X8_keepWord_2 ?_
  refine zv_bipush (pc := 3) d_X8_keepWord_3 zc_b_8 ?_
  rcases zw_ifE hf with ⟨c1, hf⟩ | ⟨c1, hf⟩
  · refine zv_icmp_le (pc := 5) (tg := 16) d_X8_keepWord_5 (by decide) (fun _ => ?_) (fun q => absurd c1 q)
    refine zv_aload_n (pc := 16) d_X8_keepWord_16 rfl ?_
    obtain ⟨g2, hf⟩ := zw_gcE hf (by decide)
    obtain ⟨g3, hf⟩ := zw_gcE hf (by decide)
    refine zx_getR (pc := 17) d_X8_keepWord_17 lk_CutStones_Tape_19 (by decide) g2 g3 ?_
    refine zv_iload_n (pc := 20) d_X8_keepWord_20 rfl ?_
    refine zv_aload_n (pc := 21) d_X8_keepWord_21 rfl ?_
    refine zv_iload_n (pc := 22) d_X8_keepWord_22 rfl ?_
    refine zv_iload_n (pc := 23) d_X8_keepWord_23 rfl ?_
    obtain ⟨q4, hq4, hf⟩ := zw_bdE hf
    refine zx_callV (pc := 24) (As := [.int v2, .int v3]) (o := v0) (st := [.int v1, .ref (R v0 2)]) (d2 := 5) (M2 := M_X8_wordKind) (P2 := (fun r S => r = (some (.int q4)) ∧ S = (I, R, J))) d_X8_keepWord_24 (zw_mG (List.mem_of_getElem? (i := 563) (by decide +kernel)) rfl) ce_X8_wordKind (zw_RvK g2 rfl rfl) (Nat.le_of_ble_eq_true rfl) rfl (Nat.le_of_ble_eq_true rfl) (by decide) (c_X8_wordKind X v0 v2 v3 I R J _ hq4 ⟨rfl, rfl⟩) ?_
    rintro _ _ ⟨rfl, rfl⟩
    show zy_V X M_X8_keepWord 6 P (24 + 3) [.ref v0, .int v1, .int v2, .int v3, .null] [.int q4, .int v1, .ref (R v0 2)] (I, R, J)
    obtain ⟨i5, hf⟩ := zw_inE hf
    obtain ⟨I6, eI6, hf⟩ := zw_letE hf
    refine zx_iast (pc := 27) (I2 := I6) d_X8_keepWord_27 g3 i5 eI6 ?_
    refine zv_iload_n (pc := 28) d_X8_keepWord_28 rfl ?_
    refine zx_istore (pc := 29) (x2 := v2) (L2 := [.ref v0, .int v1, .int v2, .int v3, .int v2]) d_X8_keepWord_29 (by decide) rfl rfl ?_
    obtain ⟨q15, hq15, hf⟩ := zw_bdE hf
    refine zx_weak (L' := [.ref v0, .int v1, .null, .int v3, .int v2]) (zw_leS (zw_leS (zw_leN (zw_leS (zw_leS zw_leZ))))) (s_X8_keepWord_31_lp X P v0 v1 v3 I6 R _ _ _ hq15 ?_)
    show zy_V X M_X8_keepWord 6 P 72 [.null, .null, .null, .null, .null] [] (I6, R, q15)
    cases hf
    exact zx_vret (pc := 72) d_X8_keepWord_72 rfl hk
  · refine zv_icmp_le (pc := 5) (tg := 16) d_X8_keepWord_5 (by decide) (fun q => absurd q c1) (fun _ => ?_)
    refine zv_aload_n (pc := 8) d_X8_keepWord_8 rfl ?_
    obtain ⟨g16, hf⟩ := zw_gcE hf (by decide)
    obtain ⟨g17, hf⟩ := zw_gcE hf (by decide)
    refine zx_getR (pc := 9) d_X8_keepWord_9 lk_CutStones_Tape_19 (by decide) g16 g17 ?_
    refine zv_iload_n (pc := 12) d_X8_keepWord_12 rfl ?_
    refine zv_iconst (pc := 13) d_X8_keepWord_13 zc_i_1 ?_
    obtain ⟨i18, hf⟩ := zw_inE hf
    obtain ⟨I19, eI19, hf⟩ := zw_letE hf
    refine zx_iast (pc := 14) (I2 := I19) d_X8_keepWord_14 g17 i18 eI19 ?_
    cases hf
    exact zx_vret (pc := 15) d_X8_keepWord_15 rfl hk
abbrev M_X10_cellOf : zw_M := (⟨"CutStones", "cellOf", "(I)I"⟩, prog_1_method_48_code, 1, (Option.some Jvm.ClassFile.FieldType.int))
theorem d_X10_cellOf_0 : decode M_X10_cellOf.2.1 0 = .ok (.ldc_w 319, 3) := by decide +kernel
theorem d_X10_cellOf_3 : decode M_X10_cellOf.2.1 3 = .ok (.iload_n 0, 1) := by decide +kernel
theorem d_X10_cellOf_4 : decode M_X10_cellOf.2.1 4 = .ok (.i2c, 1) := by decide +kernel
theorem d_X10_cellOf_5 : decode M_X10_cellOf.2.1 5 = .ok (.invokevirtual 321, 3) := by decide +kernel
theorem d_X10_cellOf_8 : decode M_X10_cellOf.2.1 8 = .ok (.ireturn, 1) := by decide +kernel
theorem ce_X10_cellOf : zw_CeS M_X10_cellOf 1 := ⟨⟨⟨by decide +kernel, by decide +kernel, by decide +kernel⟩, (zw_mG (List.mem_of_getElem? (i := 627) (by decide +kernel)) rfl), (zw_mG (List.mem_of_getElem? (i := 96) (by decide +kernel)) rfl), by decide, by decide +kernel⟩, (zw_mG (List.mem_of_getElem? (i := 626) (by decide +kernel)) rfl)⟩
def f_X10_cellOf (v0 : Int32)  : Option (Int32) :=
  zw_g (decide (1 < 3)) ((f_J0_indexOf_0f7a4 1 ((Int32.toUInt32 v0 % 65536).toInt32)).bind fun q2 => (some q2))
theorem c_X10_cellOf (X : zw_X) (v0 : Int32) (I : zI) (R : zR) (J : zJ) {P : Option Value → aS → Prop} (o : Int32) (hf : f_X10_cellOf v0  = some o) (hk : P (some (.int o)) (I, R, J)) : zw_C X M_X10_cellOf 7 0 0 199 [.int v0] (I, R, J) P := by
  show zy_V X M_X10_cellOf 7 P 0 [.int v0] [] (I, R, J)
  unfold f_X10_cellOf at hf
  refine zv_ldcwS (pc := 0) (a := 1) d_X10_cellOf_0 (by decide) rfl rfl ?_
  refine zv_iload_n (pc := 3) d_X10_cellOf_3 rfl ?_
  refine zv_i2c (pc := 4) d_X10_cellOf_4 ?_
  obtain ⟨g1, hf⟩ := zw_gE hf
  have g1 := of_decide_eq_true g1
  obtain ⟨q2, hq2, hf⟩ := zw_bdE hf
  refine zx_callV (pc := 5) (As := [.int ((Int32.toUInt32 v0 % 65536).toInt32)]) (o := (1006 + 1)) (st := []) (d2 := 6) (M2 := M_J0_indexOf_0f7a4) (P2 := (fun r S => r = (some (.int q2)) ∧ S = (I, R, J))) d_X10_cellOf_5 (zw_mG (List.mem_of_getElem? (i := 629) (by decide +kernel)) rfl) ce_J0_indexOf_0f7a4 (Or.inr ⟨rfl, 1, g1, rfl⟩) (Nat.le_of_ble_eq_true rfl) rfl (Nat.le_of_ble_eq_true rfl) (by decide) (c_J0_indexOf_0f7a4 X 1 ((Int32.toUInt32 v0 % 65536).toInt32) I R J _ hq2 ⟨rfl, rfl⟩) ?_
  rintro _ _ ⟨rfl, rfl⟩
  show zy_V X M_X10_cellOf 7 P (5 + 3) [.int v0] [.int q2] (I, R, J)
  cases hf
  exact zx_iret (pc := 8) d_X10_cellOf_8 rfl hk
abbrev M_X10_left : zw_M := (⟨"CutStones", "left", "(I)I"⟩, prog_1_method_26_code, 2, (Option.some Jvm.ClassFile.FieldType.int))
theorem d_X10_left_0 : decode M_X10_left.2.1 0 = .ok (.aload_n 0, 1) := by decide +kernel
theorem d_X10_left_1 : decode M_X10_left.2.1 1 = .ok (.getfield 71, 3) := by decide +kernel
theorem d_X10_left_4 : decode M_X10_left.2.1 4 = .ok (.iload_n 1, 1) := by decide +kernel
theorem d_X10_left_5 : decode M_X10_left.2.1 5 = .ok (.invokevirtual 247, 3) := by decide +kernel
theorem d_X10_left_8 : decode M_X10_left.2.1 8 = .ok (.ifCond .eq 11, 3) := by decide +kernel
theorem d_X10_left_11 : decode M_X10_left.2.1 11 = .ok (.aload_n 0, 1) := by decide +kernel
theorem d_X10_left_12 : decode M_X10_left.2.1 12 = .ok (.iload_n 1, 1) := by decide +kernel
theorem d_X10_left_13 : decode M_X10_left.2.1 13 = .ok (.invokevirtual 253, 3) := by decide +kernel
theorem d_X10_left_16 : decode M_X10_left.2.1 16 = .ok (.goto 4, 3) := by decide +kernel
theorem d_X10_left_19 : decode M_X10_left.2.1 19 = .ok (.iconst (-1), 1) := by decide +kernel
theorem d_X10_left_20 : decode M_X10_left.2.1 20 = .ok (.ireturn, 1) := by decide +kernel
theorem ce_X10_left : zw_CeV M_X10_left 1 := ⟨⟨⟨by decide +kernel, by decide +kernel, by decide +kernel⟩, (zw_mG (List.mem_of_getElem? (i := 1118) (by decide +kernel)) rfl), (zw_mG (List.mem_of_getElem? (i := 96) (by decide +kernel)) rfl), by decide, by decide +kernel⟩, (zw_mG (List.mem_of_getElem? (i := 1116) (by decide +kernel)) rfl), (zw_mG (List.mem_of_getElem? (i := 1117) (by decide +kernel)) rfl)⟩
def f_X10_left (v0 : Nat) (v1 : Int32) (I : zI) (R : zR) : Option (Int32 × zI) :=
  zw_g (zw_gc v0 10) (zw_g (zw_gc (R v0 11) 9) ((f_X9_hasFirst (R v0 11) v1 I).bind fun q3 => (if q3 = 0 then some ((-1), I) else (f_X10_openStuffs v0 v1 I R).bind fun q5 => (some (q5.1, q5.2)))))
theorem c_X10_left (X : zw_X) (v0 : Nat) (v1 : Int32) (I : zI) (R : zR) (J : zJ) {P : Option Value → aS → Prop} (o : Int32 × zI) (hf : f_X10_left v0 v1 I R = some o) (hk : P (some (.int o.1)) (o.2, R, J)) : zw_C X M_X10_left 7 0 0 199 [.ref v0, .int v1] (I, R, J) P := by
  show zy_V X M_X10_left 7 P 0 [.ref v0, .int v1] [] (I, R, J)
  unfold f_X10_left at hf
  refine zv_aload_n (pc := 0) d_X10_left_0 rfl ?_
  obtain ⟨g1, hf⟩ := zw_gcE hf (by decide)
  obtain ⟨g2, hf⟩ := zw_gcE hf (by decide)
  refine zx_getR (pc := 1) d_X10_left_1 lk_CutStones_71 (by decide) g1 g2 ?_
  refine zv_iload_n (pc := 4) d_X10_left_4 rfl ?_
  obtain ⟨q3, hq3, hf⟩ := zw_bdE hf
  refine zx_callV (pc := 5) (As := [.int v1]) (o := (R v0 11)) (st := []) (d2 := 0) (M2 := M_X9_hasFirst) (P2 := (fun r S => r = (some (.int q3)) ∧ S = (I, R, J))) d_X10_left_5 (zw_mG (List.mem_of_getElem? (i := 1102) (by decide +kernel)) rfl) ce_X9_hasFirst (zw_RvK g2 rfl rfl) (Nat.le_of_ble_eq_true rfl) rfl (Nat.le_of_ble_eq_true rfl) (by decide) (c_X9_hasFirst X (R v0 11) v1 I R J _ hq3 ⟨rfl, rfl⟩) ?_
  rintro _ _ ⟨rfl, rfl⟩
  show zy_V X M_X10_left 7 P (5 + 3) [.ref v0, .int v1] [.int q3] (I, R, J)
  rcases zw_ifE hf with ⟨c4, hf⟩ | ⟨c4, hf⟩
  · refine zv_if_eq (pc := 8) (tg := 19) d_X10_left_8 (by decide) (fun _ => ?_) (fun q => absurd c4 q)
    refine zv_iconst (pc := 19) d_X10_left_19 zc_i_m1 ?_
    cases hf
    exact zx_iret (pc := 20) d_X10_left_20 rfl hk
  · refine zv_if_eq (pc := 8) (tg := 19) d_X10_left_8 (by decide) (fun q => absurd q c4) (fun _ => ?_)
    refine zv_aload_n (pc := 11) d_X10_left_11 rfl ?_
    refine zv_iload_n (pc := 12) d_X10_left_12 rfl ?_
    obtain ⟨q5, hq5, hf⟩ := zw_bdE hf
    refine zx_callV (pc := 13) (As := [.int v1]) (o := v0) (st := []) (d2 := 6) (M2 := M_X10_openStuffs) (P2 := (fun r S => r = (some (.int q5.1)) ∧ S = (q5.2, R, J))) d_X10_left_13 (zw_mG (List.mem_of_getElem? (i := 1119) (by decide +kernel)) rfl) ce_X10_openStuffs (zw_RvK g1 rfl rfl) (Nat.le_of_ble_eq_true rfl) rfl (Nat.le_of_ble_eq_true rfl) (by decide) (c_X10_openStuffs X v0 v1 I R J _ hq5 ⟨rfl, rfl⟩) ?_
    rintro _ _ ⟨rfl, rfl⟩
    show zy_V X M_X10_left 7 P (13 + 3) [.ref v0, .int v1] [.int q5.1] (q5.2, R, J)
    refine zv_goto (pc := 16) (tg := 20) d_X10_left_16 (by decide) ?_
    cases hf
    exact zx_iret (pc := 20) d_X10_left_20 rfl hk
abbrev M_X10_next : zw_M := (⟨"CutStones", "next", "(I)I"⟩, prog_1_method_27_code, 7, (Option.some Jvm.ClassFile.FieldType.int))
theorem d_X10_next_0 : decode M_X10_next.2.1 0 = .ok (.aload_n 0, 1) := by decide +kernel
theorem d_X10_next_1 : decode M_X10_next.2.1 1 = .ok (.getfield 71, 3) := by decide +kernel
theorem d_X10_next_4 : decode M_X10_next.2.1 4 = .ok (.iload_n 1, 1) := by decide +kernel
theorem d_X10_next_5 : decode M_X10_next.2.1 5 = .ok (.invokevirtual 247, 3) := by decide +kernel
theorem d_X10_next_8 : decode M_X10_next.2.1 8 = .ok (.ifCond .ne 5, 3) := by decide +kernel
theorem d_X10_next_11 : decode M_X10_next.2.1 11 = .ok (.iconst (-1), 1) := by decide +kernel
theorem d_X10_next_12 : decode M_X10_next.2.1 12 = .ok (.ireturn, 1) := by decide +kernel
theorem d_X10_next_13 : decode M_X10_next.2.1 13 = .ok (.aload_n 0, 1) := by decide +kernel
theorem d_X10_next_14 : decode M_X10_next.2.1 14 = .ok (.iload_n 1, 1) := by decide +kernel
theorem d_X10_next_15 : decode M_X10_next.2.1 15 = .ok (.invokevirtual 253, 3) := by decide +kernel
theorem d_X10_next_18 : decode M_X10_next.2.1 18 = .ok (.istore_n 2, 1) := by decide +kernel
theorem d_X10_next_19 : decode M_X10_next.2.1 19 = .ok (.iload_n 2, 1) := by decide +kernel
theorem d_X10_next_20 : decode M_X10_next.2.1 20 = .ok (.invokestatic 256, 3) := by decide +kernel
theorem d_X10_next_23 : decode M_X10_next.2.1 23 = .ok (.iconst 2, 1) := by decide +kernel
theorem d_X10_next_24 : decode M_X10_next.2.1 24 = .ok (.if_icmp .ge 6, 3) := by decide +kernel
theorem d_X10_next_27 : decode M_X10_next.2.1 27 = .ok (.bipush (-2), 2) := by decide +kernel
theorem d_X10_next_29 : decode M_X10_next.2.1 29 = .ok (.ireturn, 1) := by decide +kernel
theorem d_X10_next_30 : decode M_X10_next.2.1 30 = .ok (.bipush (-2), 2) := by decide +kernel
theorem d_X10_next_32 : decode M_X10_next.2.1 32 = .ok (.istore_n 3, 1) := by decide +kernel
theorem d_X10_next_33 : decode M_X10_next.2.1 33 = .ok (.iconst (-1), 1) := by decide +kernel
theorem d_X10_next_34 : decode M_X10_next.2.1 34 = .ok (.istore 4, 2) := by decide +kernel
theorem d_X10_next_36 : decode M_X10_next.2.1 36 = .ok (.iconst 0, 1) := by decide +kernel
theorem d_X10_next_37 : decode M_X10_next.2.1 37 = .ok (.istore 5, 2) := by decide +kernel
theorem d_X10_next_39 : decode M_X10_next.2.1 39 = .ok (.iload 5, 2) := by decide +kernel
theorem d_X10_next_41 : decode M_X10_next.2.1 41 = .ok (.aload_n 0, 1) := by decide +kernel
theorem d_X10_next_42 : decode M_X10_next.2.1 42 = .ok (.getfield 26, 3) := by decide +kernel
theorem d_X10_next_45 : decode M_X10_next.2.1 45 = .ok (.getfield 261, 3) := by decide +kernel
theorem d_X10_next_48 : decode M_X10_next.2.1 48 = .ok (.iconst 4, 1) := by decide +kernel
theorem d_X10_next_49 : decode M_X10_next.2.1 49 = .ok (.imul, 1) := by decide +kernel
theorem d_X10_next_50 : decode M_X10_next.2.1 50 = .ok (.if_icmp .ge 38, 3) := by decide +kernel
theorem d_X10_next_53 : decode M_X10_next.2.1 53 = .ok (.aload_n 0, 1) := by decide +kernel
theorem d_X10_next_54 : decode M_X10_next.2.1 54 = .ok (.iload 5, 2) := by decide +kernel
theorem d_X10_next_56 : decode M_X10_next.2.1 56 = .ok (.iconst 4, 1) := by decide +kernel
theorem d_X10_next_57 : decode M_X10_next.2.1 57 = .ok (.idiv, 1) := by decide +kernel
theorem d_X10_next_58 : decode M_X10_next.2.1 58 = .ok (.iload 5, 2) := by decide +kernel
theorem d_X10_next_60 : decode M_X10_next.2.1 60 = .ok (.iconst 4, 1) := by decide +kernel
theorem d_X10_next_61 : decode M_X10_next.2.1 61 = .ok (.irem, 1) := by decide +kernel
theorem d_X10_next_62 : decode M_X10_next.2.1 62 = .ok (.iload_n 2, 1) := by decide +kernel
theorem d_X10_next_63 : decode M_X10_next.2.1 63 = .ok (.invokevirtual 264, 3) := by decide +kernel
theorem d_X10_next_66 : decode M_X10_next.2.1 66 = .ok (.istore 6, 2) := by decide +kernel
theorem d_X10_next_68 : decode M_X10_next.2.1 68 = .ok (.iload 6, 2) := by decide +kernel
theorem d_X10_next_70 : decode M_X10_next.2.1 70 = .ok (.iload 4, 2) := by decide +kernel
theorem d_X10_next_72 : decode M_X10_next.2.1 72 = .ok (.if_icmp .le 10, 3) := by decide +kernel
theorem d_X10_next_75 : decode M_X10_next.2.1 75 = .ok (.iload 6, 2) := by decide +kernel
theorem d_X10_next_77 : decode M_X10_next.2.1 77 = .ok (.istore 4, 2) := by decide +kernel
theorem d_X10_next_79 : decode M_X10_next.2.1 79 = .ok (.iload 5, 2) := by decide +kernel
theorem d_X10_next_81 : decode M_X10_next.2.1 81 = .ok (.istore_n 3, 1) := by decide +kernel
theorem d_X10_next_82 : decode M_X10_next.2.1 82 = .ok (.iinc 5 1, 3) := by decide +kernel
theorem d_X10_next_85 : decode M_X10_next.2.1 85 = .ok (.goto (-46), 3) := by decide +kernel
theorem d_X10_next_88 : decode M_X10_next.2.1 88 = .ok (.iload_n 3, 1) := by decide +kernel
theorem d_X10_next_89 : decode M_X10_next.2.1 89 = .ok (.ireturn, 1) := by decide +kernel
theorem ce_X10_next : zw_CeV M_X10_next 1 := ⟨⟨⟨by decide +kernel, by decide +kernel, by decide +kernel⟩, (zw_mG (List.mem_of_getElem? (i := 1126) (by decide +kernel)) rfl), (zw_mG (List.mem_of_getElem? (i := 96) (by decide +kernel)) rfl), by decide, by decide +kernel⟩, (zw_mG (List.mem_of_getElem? (i := 1124) (by decide +kernel)) rfl), (zw_mG (List.mem_of_getElem? (i := 1125) (by decide +kernel)) rfl)⟩
def j_X10_next_82_39 (v0 : Nat) (v2 : Int32) (v3 : Int32) (v4 : Int32) (v5 : Int32) (I : zI) (R : zR) : Option ((Int32 × Int32 × Int32 × zI) ⊕ (Int32 × zI)) :=
  zw_let (v5 + 1 : Int32) fun x13 => (some (.inl (v3, v4, x13, I)))
theorem j_X10_next_82_39_ok (X : zw_X) (P : Option Value → aS → Prop) (v0 : Nat) (v2 : Int32) (v3 : Int32) (v4 : Int32) (v5 : Int32) (I : zI) (R : zR) (J : zJ) (o : (Int32 × Int32 × Int32 × zI) ⊕ (Int32 × zI)) (hf : j_X10_next_82_39 v0 v2 v3 v4 v5 I R = some o) (hk : (zw_se (fun t => zy_V X M_X10_next 7 P 39 [.ref v0, .null, .int v2, .int t.1, .int t.2.1, .int t.2.2.1, .null] [] (t.2.2.2, R, J)) (fun r => zy_V X M_X10_next 7 P 88 [.null, .null, .null, .int r.1, .null, .null, .null] [] (r.2, R, J)) o)) : zy_V X M_X10_next 7 P 82 [.ref v0, .null, .int v2, .int v3, .int v4, .int v5, .null] [] (I, R, J) := by
  unfold j_X10_next_82_39 at hf
  obtain ⟨x13, ex13, hf⟩ := zw_letE hf
  refine zx_iinc (pc := 82) (x2 := x13) (L2 := [.ref v0, .null, .int v2, .int v3, .int v4, .int x13, .null]) d_X10_next_82 (by decide) rfl zc_i_1 ex13 rfl ?_
  refine zv_goto (pc := 85) (tg := 39) d_X10_next_85 (by decide) ?_
  cases hf
  exact zx_weak (zw_leS (zw_leN (zw_leS (zw_leS (zw_leS (zw_leS (zw_leN zw_leZ))))))) hk
def s_X10_next_39 (v0 : Nat) (v2 : Int32) (R : zR) (s : Int32 × Int32 × Int32 × zI) : Option ((Int32 × Int32 × Int32 × zI) ⊕ (Int32 × zI)) :=
  zw_g (zw_gc v0 10) (zw_g (zw_gc (R v0 2) 1) (if ((s.2.2.2 (R v0 2) 3) * 4) ≤ s.2.2.1 then some (.inr (s.1, s.2.2.2)) else (f_X10_spread v0 (s.2.2.1 / 4) (s.2.2.1 - s.2.2.1 / 4 * 4) v2 s.2.2.2 R).bind fun q11 => (if q11.1 ≤ s.2.1 then j_X10_next_82_39 v0 v2 s.1 s.2.1 s.2.2.1 q11.2 R else j_X10_next_82_39 v0 v2 s.2.2.1 q11.1 s.2.2.1 q11.2 R)))
theorem s_X10_next_39_ok (X : zw_X) (P : Option Value → aS → Prop) (v0 : Nat) (v2 : Int32) (R : zR) (J : zJ) (s : Int32 × Int32 × Int32 × zI) (o : (Int32 × Int32 × Int32 × zI) ⊕ (Int32 × zI)) (hf : s_X10_next_39 v0 v2 R s = some o) (hk : (zw_se (fun t => zy_V X M_X10_next 7 P 39 [.ref v0, .null, .int v2, .int t.1, .int t.2.1, .int t.2.2.1, .null] [] (t.2.2.2, R, J)) (fun r => zy_V X M_X10_next 7 P 88 [.null, .null, .null, .int r.1, .null, .null, .null] [] (r.2, R, J)) o)) : zy_V X M_X10_next 7 P 39 [.ref v0, .null, .int v2, .int s.1, .int s.2.1, .int s.2.2.1, .null] [] (s.2.2.2, R, J) := by
  unfold s_X10_next_39 at hf
  refine zv_iload (pc := 39) d_X10_next_39 rfl ?_
  refine zv_aload_n (pc := 41) d_X10_next_41 rfl ?_
  obtain ⟨g8, hf⟩ := zw_gcE hf (by decide)
  obtain ⟨g9, hf⟩ := zw_gcE hf (by decide)
  refine zx_getR (pc := 42) d_X10_next_42 lk_CutStones_26 (by decide) g8 g9 ?_
  refine zx_getI (pc := 45) d_X10_next_45 lk_CutStones_261 (by decide) g9 ?_
  refine zv_iconst (pc := 48) d_X10_next_48 zc_i_4 ?_
  refine zv_imul (pc := 49) d_X10_next_49 ?_
  rcases zw_ifE hf with ⟨c10, hf⟩ | ⟨c10, hf⟩
  · refine zv_icmp_ge (pc := 50) (tg := 88) d_X10_next_50 (by decide) (fun _ => ?_) (fun q => absurd c10 q)
    cases hf
    exact zx_weak (zw_leN (zw_leN (zw_leN (zw_leS (zw_leN (zw_leN (zw_leN zw_leZ))))))) hk
  · refine zv_icmp_ge (pc := 50) (tg := 88) d_X10_next_50 (by decide) (fun q => absurd q c10) (fun _ => ?_)
    refine zv_aload_n (pc := 53) d_X10_next_53 rfl ?_
    refine zv_iload (pc := 54) d_X10_next_54 rfl ?_
    refine zv_iconst (pc := 56) d_X10_next_56 zc_i_4 ?_
    refine zv_idiv (pc := 57) d_X10_next_57 (by decide +kernel) ?_
    refine zv_iload (pc := 58) d_X10_next_58 rfl ?_
    refine zv_iconst (pc := 60) d_X10_next_60 zc_i_4 ?_
    refine zv_irem (pc := 61) d_X10_next_61 (by decide +kernel) ?_
    refine zv_iload_n (pc := 62) d_X10_next_62 rfl ?_
    obtain ⟨q11, hq11, hf⟩ := zw_bdE hf
    refine zx_callV (pc := 63) (As := [.int (s.2.2.1 / 4), .int (s.2.2.1 - s.2.2.1 / 4 * 4), .int v2]) (o := v0) (st := []) (d2 := 5) (M2 := M_X10_spread) (P2 := (fun r S => r = (some (.int q11.1)) ∧ S = (q11.2, R, J))) d_X10_next_63 (zw_mG (List.mem_of_getElem? (i := 1133) (by decide +kernel)) rfl) ce_X10_spread (zw_RvK g8 rfl rfl) (Nat.le_of_ble_eq_true rfl) rfl (Nat.le_of_ble_eq_true rfl) (by decide) (c_X10_spread X v0 (s.2.2.1 / 4) (s.2.2.1 - s.2.2.1 / 4 * 4) v2 s.2.2.2 R J _ hq11 ⟨rfl, rfl⟩) ?_
    rintro _ _ ⟨rfl, rfl⟩
    show zy_V X M_X10_next 7 P (63 + 3) [.ref v0, .null, .int v2, .int s.1, .int s.2.1, .int s.2.2.1, .null] [.int q11.1] (q11.2, R, J)
    refine zx_istore (pc := 66) (x2 := q11.1) (L2 := [.ref v0, .null, .int v2, .int s.1, .int s.2.1, .int s.2.2.1, .int q11.1]) d_X10_next_66 (by decide) rfl rfl ?_
    refine zv_iload (pc := 68) d_X10_next_68 rfl ?_
    refine zv_iload (pc := 70) d_X10_next_70 rfl ?_
    rcases zw_ifE hf with ⟨c12, hf⟩ | ⟨c12, hf⟩
    · refine zv_icmp_le (pc := 72) (tg := 82) d_X10_next_72 (by decide) (fun _ => ?_) (fun q => absurd c12 q)
      exact zx_weak (zw_leS (zw_leN (zw_leS (zw_leS (zw_leS (zw_leS (zw_leN zw_leZ))))))) (j_X10_next_82_39_ok X P v0 v2 s.1 s.2.1 s.2.2.1 q11.2 R J _ hf hk)
    · refine zv_icmp_le (pc := 72) (tg := 82) d_X10_next_72 (by decide) (fun q => absurd q c12) (fun _ => ?_)
      refine zv_iload (pc := 75) d_X10_next_75 rfl ?_
      refine zx_istore (pc := 77) (x2 := q11.1) (L2 := [.ref v0, .null, .int v2, .int s.1, .int q11.1, .int s.2.2.1, .int q11.1]) d_X10_next_77 (by decide) rfl rfl ?_
      refine zv_iload (pc := 79) d_X10_next_79 rfl ?_
      refine zx_istore_n (pc := 81) (x2 := s.2.2.1) (L2 := [.ref v0, .null, .int v2, .int s.2.2.1, .int q11.1, .int s.2.2.1, .int q11.1]) d_X10_next_81 (by decide) rfl rfl ?_
      exact zx_weak (zw_leS (zw_leN (zw_leS (zw_leS (zw_leS (zw_leS (zw_leN zw_leZ))))))) (j_X10_next_82_39_ok X P v0 v2 s.2.2.1 q11.1 s.2.2.1 q11.2 R J _ hf hk)
theorem s_X10_next_39_lp (X : zw_X) (P : Option Value → aS → Prop) (v0 : Nat) (v2 : Int32) (R : zR) (J : zJ) (n : Nat) (s : Int32 × Int32 × Int32 × zI) (r : Int32 × zI) (h : zw_it (s_X10_next_39 v0 v2 R) n s = some r) (hq : zy_V X M_X10_next 7 P 88 [.null, .null, .null, .int r.1, .null, .null, .null] [] (r.2, R, J)) : zy_V X M_X10_next 7 P 39 [.ref v0, .null, .int v2, .int s.1, .int s.2.1, .int s.2.2.1, .null] [] (s.2.2.2, R, J) :=
  zw_itE (A := (fun t : Int32 × Int32 × Int32 × zI => zy_V X M_X10_next 7 P 39 [.ref v0, .null, .int v2, .int t.1, .int t.2.1, .int t.2.2.1, .null] [] (t.2.2.2, R, J))) (Q := (fun r : Int32 × zI => zy_V X M_X10_next 7 P 88 [.null, .null, .null, .int r.1, .null, .null, .null] [] (r.2, R, J))) (fun s o h1 h2 => s_X10_next_39_ok X P v0 v2 R J s o h1 h2) n s r h hq
def f_X10_next (v0 : Nat) (v1 : Int32) (I : zI) (R : zR) : Option (Int32 × zI) :=
  zw_g (zw_gc v0 10) (zw_g (zw_gc (R v0 11) 9) ((f_X9_hasFirst (R v0 11) v1 I).bind fun q3 => (if ¬ q3 = 0 then (f_X10_openStuffs v0 v1 I R).bind fun q5 => ((f_J6_bitCount_0f7a4 q5.1).bind fun q6 => (if 2 ≤ q6 then (zw_it (s_X10_next_39 v0 q5.1 R) 1000000 ((-2), (-1), 0, q5.2)).bind fun q14 => (some (q14.1, q14.2)) else some ((-2), q5.2))) else some ((-1), I))))
theorem c_X10_next (X : zw_X) (v0 : Nat) (v1 : Int32) (I : zI) (R : zR) (J : zJ) {P : Option Value → aS → Prop} (o : Int32 × zI) (hf : f_X10_next v0 v1 I R = some o) (hk : P (some (.int o.1)) (o.2, R, J)) : zw_C X M_X10_next 7 0 0 199 [.ref v0, .int v1] (I, R, J) P := by
  show zy_V X M_X10_next 7 P 0 [.ref v0, .int v1, .null, .null, .null, .null, .null] [] (I, R, J)
  unfold f_X10_next at hf
  refine zv_aload_n (pc := 0) d_X10_next_0 rfl ?_
  obtain ⟨g1, hf⟩ := zw_gcE hf (by decide)
  obtain ⟨g2, hf⟩ := zw_gcE hf (by decide)
  refine zx_getR (pc := 1) d_X10_next_1 lk_CutStones_71 (by decide) g1 g2 ?_
  refine zv_iload_n (pc := 4) d_X10_next_4 rfl ?_
  obtain ⟨q3, hq3, hf⟩ := zw_bdE hf
  refine zx_callV (pc := 5) (As := [.int v1]) (o := (R v0 11)) (st := []) (d2 := 0) (M2 := M_X9_hasFirst) (P2 := (fun r S => r = (some (.int q3)) ∧ S = (I, R, J))) d_X10_next_5 (zw_mG (List.mem_of_getElem? (i := 1102) (by decide +kernel)) rfl) ce_X9_hasFirst (zw_RvK g2 rfl rfl) (Nat.le_of_ble_eq_true rfl) rfl (Nat.le_of_ble_eq_true rfl) (by decide) (c_X9_hasFirst X (R v0 11) v1 I R J _ hq3 ⟨rfl, rfl⟩) ?_
  rintro _ _ ⟨rfl, rfl⟩
  show zy_V X M_X10_next 7 P (5 + 3) [.ref v0, .int v1, .null, .null, .null, .null, .null] [.int q3] (I, R, J)
  rcases zw_ifE hf with ⟨c4, hf⟩ | ⟨c4, hf⟩
  · refine zv_if_ne (pc := 8) (tg := 13) d_X10_next_8 (by decide) (fun _ => ?_) (fun q => absurd q c4)
    refine zv_aload_n (pc := 13) d_X10_next_13 rfl ?_
    refine zv_iload_n (pc := 14) d_X10_next_14 rfl ?_
    obtain ⟨q5, hq5, hf⟩ := zw_bdE hf
    refine zx_callV (pc := 15) (As := [.int v1]) (o := v0) (st := []) (d2 := 6) (M2 := M_X10_openStuffs) (P2 := (fun r S => r = (some (.int q5.1)) ∧ S = (q5.2, R, J))) d_X10_next_15 (zw_mG (List.mem_of_getElem? (i := 1119) (by decide +kernel)) rfl) ce_X10_openStuffs (zw_RvK g1 rfl rfl) (Nat.le_of_ble_eq_true rfl) rfl (Nat.le_of_ble_eq_true rfl) (by decide) (c_X10_openStuffs X v0 v1 I R J _ hq5 ⟨rfl, rfl⟩) ?_
    rintro _ _ ⟨rfl, rfl⟩
    show zy_V X M_X10_next 7 P (15 + 3) [.ref v0, .int v1, .null, .null, .null, .null, .null] [.int q5.1] (q5.2, R, J)
    refine zx_istore_n (pc := 18) (x2 := q5.1) (L2 := [.ref v0, .int v1, .int q5.1, .null, .null, .null, .null]) d_X10_next_18 (by decide) rfl rfl ?_
    refine zv_iload_n (pc := 19) d_X10_next_19 rfl ?_
    obtain ⟨q6, hq6, hf⟩ := zw_bdE hf
    refine zx_callS (pc := 20) (As := [.int q5.1]) (st := []) (d2 := 0) (M2 := M_J6_bitCount_0f7a4) (P2 := (fun r S => r = (some (.int q6)) ∧ S = (q5.2, R, J))) d_X10_next_20 (zw_mG (List.mem_of_getElem? (i := 1127) (by decide +kernel)) rfl) ce_J6_bitCount_0f7a4 (Nat.le_of_ble_eq_true rfl) rfl (Nat.le_of_ble_eq_true rfl) (by decide) (c_J6_bitCount_0f7a4 X q5.1 q5.2 R J _ hq6 ⟨rfl, rfl⟩) ?_
    rintro _ _ ⟨rfl, rfl⟩
    show zy_V X M_X10_next 7 P (20 + 3) [.ref v0, .int v1, .int q5.1, .null, .null, .null, .null] [.int q6] (q5.2, R, J)
    refine zv_iconst (pc := 23) d_X10_next_23 zc_i_2 ?_
    rcases zw_ifE hf with ⟨c7, hf⟩ | ⟨c7, hf⟩
    · refine zv_icmp_ge (pc := 24) (tg := 30) d_X10_next_24 (by decide) (fun _ => ?_) (fun q => absurd c7 q)
      refine zv_bipush (pc := 30) d_X10_next_30 zc_b_m2 ?_
      refine zx_istore_n (pc := 32) (x2 := (-2)) (L2 := [.ref v0, .int v1, .int q5.1, .int (-2), .null, .null, .null]) d_X10_next_32 (by decide) rfl rfl ?_
      refine zv_iconst (pc := 33) d_X10_next_33 zc_i_m1 ?_
      refine zx_istore (pc := 34) (x2 := (-1)) (L2 := [.ref v0, .int v1, .int q5.1, .int (-2), .int (-1), .null, .null]) d_X10_next_34 (by decide) rfl rfl ?_
      refine zv_iconst (pc := 36) d_X10_next_36 zc_i_0 ?_
      refine zx_istore (pc := 37) (x2 := 0) (L2 := [.ref v0, .int v1, .int q5.1, .int (-2), .int (-1), .int 0, .null]) d_X10_next_37 (by decide) rfl rfl ?_
      obtain ⟨q14, hq14, hf⟩ := zw_bdE hf
      refine zx_weak (L' := [.ref v0, .null, .int q5.1, .int (-2), .int (-1), .int 0, .null]) (zw_leS (zw_leN (zw_leS (zw_leS (zw_leS (zw_leS (zw_leN zw_leZ))))))) (s_X10_next_39_lp X P v0 q5.1 R J _ _ _ hq14 ?_)
      show zy_V X M_X10_next 7 P 88 [.null, .null, .null, .int q14.1, .null, .null, .null] [] (q14.2, R, J)
      refine zv_iload_n (pc := 88) d_X10_next_88 rfl ?_
      cases hf
      exact zx_iret (pc := 89) d_X10_next_89 rfl hk
    · refine zv_icmp_ge (pc := 24) (tg := 30) d_X10_next_24 (by decide) (fun q => absurd q c7) (fun _ => ?_)
      refine zv_bipush (pc := 27) d_X10_next_27 zc_b_m2 ?_
      cases hf
      exact zx_iret (pc := 29) d_X10_next_29 rfl hk
  · refine zv_if_ne (pc := 8) (tg := 13) d_X10_next_8 (by decide) (fun q => absurd q c4) (fun _ => ?_)
    refine zv_iconst (pc := 11) d_X10_next_11 zc_i_m1 ?_
    cases hf
    exact zx_iret (pc := 12) d_X10_next_12 rfl hk
abbrev M_X11_barred : zw_M := (⟨"CutStonesModel", "barred", "(II)I"⟩, prog_13_method_84_code, 4, (Option.some Jvm.ClassFile.FieldType.int))
theorem d_X11_barred_0 : decode M_X11_barred.2.1 0 = .ok (.aload_n 0, 1) := by decide +kernel
theorem d_X11_barred_1 : decode M_X11_barred.2.1 1 = .ok (.iload_n 1, 1) := by decide +kernel
theorem d_X11_barred_2 : decode M_X11_barred.2.1 2 = .ok (.invokevirtual 393, 3) := by decide +kernel
theorem d_X11_barred_5 : decode M_X11_barred.2.1 5 = .ok (.iconst (-1), 1) := by decide +kernel
theorem d_X11_barred_6 : decode M_X11_barred.2.1 6 = .ok (.if_icmp .eq 11, 3) := by decide +kernel
theorem d_X11_barred_9 : decode M_X11_barred.2.1 9 = .ok (.aload_n 0, 1) := by decide +kernel
theorem d_X11_barred_10 : decode M_X11_barred.2.1 10 = .ok (.iload_n 2, 1) := by decide +kernel
theorem d_X11_barred_11 : decode M_X11_barred.2.1 11 = .ok (.invokevirtual 449, 3) := by decide +kernel
theorem d_X11_barred_14 : decode M_X11_barred.2.1 14 = .ok (.ifCond .ne 5, 3) := by decide +kernel
theorem d_X11_barred_17 : decode M_X11_barred.2.1 17 = .ok (.iconst (-1), 1) := by decide +kernel
theorem d_X11_barred_18 : decode M_X11_barred.2.1 18 = .ok (.ireturn, 1) := by decide +kernel
theorem d_X11_barred_19 : decode M_X11_barred.2.1 19 = .ok (.aload_n 0, 1) := by decide +kernel
theorem d_X11_barred_20 : decode M_X11_barred.2.1 20 = .ok (.iload_n 1, 1) := by decide +kernel
theorem d_X11_barred_21 : decode M_X11_barred.2.1 21 = .ok (.iload_n 2, 1) := by decide +kernel
theorem d_X11_barred_22 : decode M_X11_barred.2.1 22 = .ok (.invokevirtual 452, 3) := by decide +kernel
theorem d_X11_barred_25 : decode M_X11_barred.2.1 25 = .ok (.istore_n 3, 1) := by decide +kernel
theorem d_X11_barred_26 : decode M_X11_barred.2.1 26 = .ok (.iload_n 3, 1) := by decide +kernel
theorem d_X11_barred_27 : decode M_X11_barred.2.1 27 = .ok (.iconst (-1), 1) := by decide +kernel
theorem d_X11_barred_28 : decode M_X11_barred.2.1 28 = .ok (.if_icmp .ne 8, 3) := by decide +kernel
theorem d_X11_barred_31 : decode M_X11_barred.2.1 31 = .ok (.bipush (-2), 2) := by decide +kernel
theorem d_X11_barred_33 : decode M_X11_barred.2.1 33 = .ok (.goto 4, 3) := by decide +kernel
theorem d_X11_barred_36 : decode M_X11_barred.2.1 36 = .ok (.iload_n 3, 1) := by decide +kernel
theorem d_X11_barred_37 : decode M_X11_barred.2.1 37 = .ok (.ireturn, 1) := by decide +kernel
theorem ce_X11_barred : zw_CeV M_X11_barred 2 := ⟨⟨⟨by decide +kernel, by decide +kernel, by decide +kernel⟩, (zw_mG (List.mem_of_getElem? (i := 1700) (by decide +kernel)) rfl), (zw_mG (List.mem_of_getElem? (i := 108) (by decide +kernel)) rfl), by decide, by decide +kernel⟩, (zw_mG (List.mem_of_getElem? (i := 1698) (by decide +kernel)) rfl), (zw_mG (List.mem_of_getElem? (i := 1699) (by decide +kernel)) rfl)⟩
def f_X11_barred (v0 : Nat) (v1 : Int32) (v2 : Int32) (I : zI) (R : zR) : Option (Int32 × zI) :=
  zw_g (zw_gc v0 11) ((f_X11_stuffRow v0 v1 I R).bind fun q2 => (if q2 = (-1) then some ((-1), I) else (f_X11_isKnown v0 v2 I).bind fun q4 => (if ¬ q4 = 0 then (f_X11_barredBy v0 v1 v2 I R).bind fun q6 => (if ¬ q6.1 = (-1) then some (q6.1, q6.2) else some ((-2), q6.2)) else some ((-1), I))))
theorem c_X11_barred (X : zw_X) (v0 : Nat) (v1 : Int32) (v2 : Int32) (I : zI) (R : zR) (J : zJ) {P : Option Value → aS → Prop} (o : Int32 × zI) (hf : f_X11_barred v0 v1 v2 I R = some o) (hk : P (some (.int o.1)) (o.2, R, J)) : zw_C X M_X11_barred 7 0 0 199 [.ref v0, .int v1, .int v2] (I, R, J) P := by
  show zy_V X M_X11_barred 7 P 0 [.ref v0, .int v1, .int v2, .null] [] (I, R, J)
  unfold f_X11_barred at hf
  refine zv_aload_n (pc := 0) d_X11_barred_0 rfl ?_
  refine zv_iload_n (pc := 1) d_X11_barred_1 rfl ?_
  obtain ⟨g1, hf⟩ := zw_gcE hf (by decide)
  obtain ⟨q2, hq2, hf⟩ := zw_bdE hf
  refine zx_callV (pc := 2) (As := [.int v1]) (o := v0) (st := []) (d2 := 1) (M2 := M_X11_stuffRow) (P2 := (fun r S => r = (some (.int q2)) ∧ S = (I, R, J))) d_X11_barred_2 (zw_mG (List.mem_of_getElem? (i := 1552) (by decide +kernel)) rfl) ce_X11_stuffRow (zw_RvK g1 rfl rfl) (Nat.le_of_ble_eq_true rfl) rfl (Nat.le_of_ble_eq_true rfl) (by decide) (c_X11_stuffRow X v0 v1 I R J _ hq2 ⟨rfl, rfl⟩) ?_
  rintro _ _ ⟨rfl, rfl⟩
  show zy_V X M_X11_barred 7 P (2 + 3) [.ref v0, .int v1, .int v2, .null] [.int q2] (I, R, J)
  refine zv_iconst (pc := 5) d_X11_barred_5 zc_i_m1 ?_
  rcases zw_ifE hf with ⟨c3, hf⟩ | ⟨c3, hf⟩
  · refine zv_icmp_eq (pc := 6) (tg := 17) d_X11_barred_6 (by decide) (fun _ => ?_) (fun q => absurd c3 q)
    refine zv_iconst (pc := 17) d_X11_barred_17 zc_i_m1 ?_
    cases hf
    exact zx_iret (pc := 18) d_X11_barred_18 rfl hk
  · refine zv_icmp_eq (pc := 6) (tg := 17) d_X11_barred_6 (by decide) (fun q => absurd q c3) (fun _ => ?_)
    refine zv_aload_n (pc := 9) d_X11_barred_9 rfl ?_
    refine zv_iload_n (pc := 10) d_X11_barred_10 rfl ?_
    obtain ⟨q4, hq4, hf⟩ := zw_bdE hf
    refine zx_callV (pc := 11) (As := [.int v2]) (o := v0) (st := []) (d2 := 1) (M2 := M_X11_isKnown) (P2 := (fun r S => r = (some (.int q4)) ∧ S = (I, R, J))) d_X11_barred_11 (zw_mG (List.mem_of_getElem? (i := 1701) (by decide +kernel)) rfl) ce_X11_isKnown (zw_RvK g1 rfl rfl) (Nat.le_of_ble_eq_true rfl) rfl (Nat.le_of_ble_eq_true rfl) (by decide) (c_X11_isKnown X v0 v2 I R J _ hq4 ⟨rfl, rfl⟩) ?_
    rintro _ _ ⟨rfl, rfl⟩
    show zy_V X M_X11_barred 7 P (11 + 3) [.ref v0, .int v1, .int v2, .null] [.int q4] (I, R, J)
    rcases zw_ifE hf with ⟨c5, hf⟩ | ⟨c5, hf⟩
    · refine zv_if_ne (pc := 14) (tg := 19) d_X11_barred_14 (by decide) (fun _ => ?_) (fun q => absurd q c5)
      refine zv_aload_n (pc := 19) d_X11_barred_19 rfl ?_
      refine zv_iload_n (pc := 20) d_X11_barred_20 rfl ?_
      refine zv_iload_n (pc := 21) d_X11_barred_21 rfl ?_
      obtain ⟨q6, hq6, hf⟩ := zw_bdE hf
      refine zx_callV (pc := 22) (As := [.int v1, .int v2]) (o := v0) (st := []) (d2 := 6) (M2 := M_X11_barredBy) (P2 := (fun r S => r = (some (.int q6.1)) ∧ S = (q6.2, R, J))) d_X11_barred_22 (zw_mG (List.mem_of_getElem? (i := 1705) (by decide +kernel)) rfl) ce_X11_barredBy (zw_RvK g1 rfl rfl) (Nat.le_of_ble_eq_true rfl) rfl (Nat.le_of_ble_eq_true rfl) (by decide) (c_X11_barredBy X v0 v1 v2 I R J _ hq6 ⟨rfl, rfl⟩) ?_
      rintro _ _ ⟨rfl, rfl⟩
      show zy_V X M_X11_barred 7 P (22 + 3) [.ref v0, .int v1, .int v2, .null] [.int q6.1] (q6.2, R, J)
      refine zx_istore_n (pc := 25) (x2 := q6.1) (L2 := [.ref v0, .int v1, .int v2, .int q6.1]) d_X11_barred_25 (by decide) rfl rfl ?_
      refine zv_iload_n (pc := 26) d_X11_barred_26 rfl ?_
      refine zv_iconst (pc := 27) d_X11_barred_27 zc_i_m1 ?_
      rcases zw_ifE hf with ⟨c7, hf⟩ | ⟨c7, hf⟩
      · refine zv_icmp_ne (pc := 28) (tg := 36) d_X11_barred_28 (by decide) (fun _ => ?_) (fun q => absurd q c7)
        refine zv_iload_n (pc := 36) d_X11_barred_36 rfl ?_
        cases hf
        exact zx_iret (pc := 37) d_X11_barred_37 rfl hk
      · refine zv_icmp_ne (pc := 28) (tg := 36) d_X11_barred_28 (by decide) (fun q => absurd q c7) (fun _ => ?_)
        refine zv_bipush (pc := 31) d_X11_barred_31 zc_b_m2 ?_
        refine zv_goto (pc := 33) (tg := 37) d_X11_barred_33 (by decide) ?_
        cases hf
        exact zx_iret (pc := 37) d_X11_barred_37 rfl hk
    · refine zv_if_ne (pc := 14) (tg := 19) d_X11_barred_14 (by decide) (fun q => absurd q c5) (fun _ => ?_)
      refine zv_iconst (pc := 17) d_X11_barred_17 zc_i_m1 ?_
      cases hf
      exact zx_iret (pc := 18) d_X11_barred_18 rfl hk
abbrev M_X11_leftBy : zw_M := (⟨"CutStonesModel", "leftBy", "(I)I"⟩, prog_13_method_85_code, 4, (Option.some Jvm.ClassFile.FieldType.int))
theorem d_X11_leftBy_0 : decode M_X11_leftBy.2.1 0 = .ok (.iconst 0, 1) := by decide +kernel
theorem d_X11_leftBy_1 : decode M_X11_leftBy.2.1 1 = .ok (.istore_n 2, 1) := by decide +kernel
theorem d_X11_leftBy_2 : decode M_X11_leftBy.2.1 2 = .ok (.iconst 0, 1) := by decide +kernel
theorem d_X11_leftBy_3 : decode M_X11_leftBy.2.1 3 = .ok (.istore_n 3, 1) := by decide +kernel
theorem d_X11_leftBy_4 : decode M_X11_leftBy.2.1 4 = .ok (.iload_n 3, 1) := by decide +kernel
theorem d_X11_leftBy_5 : decode M_X11_leftBy.2.1 5 = .ok (.aload_n 0, 1) := by decide +kernel
theorem d_X11_leftBy_6 : decode M_X11_leftBy.2.1 6 = .ok (.getfield 46, 3) := by decide +kernel
theorem d_X11_leftBy_9 : decode M_X11_leftBy.2.1 9 = .ok (.aload_n 0, 1) := by decide +kernel
theorem d_X11_leftBy_10 : decode M_X11_leftBy.2.1 10 = .ok (.getfield 248, 3) := by decide +kernel
theorem d_X11_leftBy_13 : decode M_X11_leftBy.2.1 13 = .ok (.iaload, 1) := by decide +kernel
theorem d_X11_leftBy_14 : decode M_X11_leftBy.2.1 14 = .ok (.if_icmp .ge 25, 3) := by decide +kernel
theorem d_X11_leftBy_17 : decode M_X11_leftBy.2.1 17 = .ok (.aload_n 0, 1) := by decide +kernel
theorem d_X11_leftBy_18 : decode M_X11_leftBy.2.1 18 = .ok (.iload_n 3, 1) := by decide +kernel
theorem d_X11_leftBy_19 : decode M_X11_leftBy.2.1 19 = .ok (.iload_n 1, 1) := by decide +kernel
theorem d_X11_leftBy_20 : decode M_X11_leftBy.2.1 20 = .ok (.invokevirtual 452, 3) := by decide +kernel
theorem d_X11_leftBy_23 : decode M_X11_leftBy.2.1 23 = .ok (.iconst (-1), 1) := by decide +kernel
theorem d_X11_leftBy_24 : decode M_X11_leftBy.2.1 24 = .ok (.if_icmp .ne 9, 3) := by decide +kernel
theorem d_X11_leftBy_27 : decode M_X11_leftBy.2.1 27 = .ok (.iload_n 2, 1) := by decide +kernel
theorem d_X11_leftBy_28 : decode M_X11_leftBy.2.1 28 = .ok (.iconst 1, 1) := by decide +kernel
theorem d_X11_leftBy_29 : decode M_X11_leftBy.2.1 29 = .ok (.iload_n 3, 1) := by decide +kernel
theorem d_X11_leftBy_30 : decode M_X11_leftBy.2.1 30 = .ok (.ishl, 1) := by decide +kernel
theorem d_X11_leftBy_31 : decode M_X11_leftBy.2.1 31 = .ok (.ior, 1) := by decide +kernel
theorem d_X11_leftBy_32 : decode M_X11_leftBy.2.1 32 = .ok (.istore_n 2, 1) := by decide +kernel
theorem d_X11_leftBy_33 : decode M_X11_leftBy.2.1 33 = .ok (.iinc 3 1, 3) := by decide +kernel
theorem d_X11_leftBy_36 : decode M_X11_leftBy.2.1 36 = .ok (.goto (-32), 3) := by decide +kernel
theorem d_X11_leftBy_39 : decode M_X11_leftBy.2.1 39 = .ok (.iload_n 2, 1) := by decide +kernel
theorem d_X11_leftBy_40 : decode M_X11_leftBy.2.1 40 = .ok (.ireturn, 1) := by decide +kernel
theorem ce_X11_leftBy : zw_CeV M_X11_leftBy 1 := ⟨⟨⟨by decide +kernel, by decide +kernel, by decide +kernel⟩, (zw_mG (List.mem_of_getElem? (i := 1720) (by decide +kernel)) rfl), (zw_mG (List.mem_of_getElem? (i := 108) (by decide +kernel)) rfl), by decide, by decide +kernel⟩, (zw_mG (List.mem_of_getElem? (i := 1719) (by decide +kernel)) rfl), (zw_mG (List.mem_of_getElem? (i := 94) (by decide +kernel)) rfl)⟩
def j_X11_leftBy_33_4 (v0 : Nat) (v1 : Int32) (v2 : Int32) (v3 : Int32) (I : zI) (R : zR) : Option ((Int32 × Int32 × zI) ⊕ (Int32 × zI)) :=
  zw_let (v3 + 1 : Int32) fun x7 => (some (.inl (v2, x7, I)))
theorem j_X11_leftBy_33_4_ok (X : zw_X) (P : Option Value → aS → Prop) (v0 : Nat) (v1 : Int32) (v2 : Int32) (v3 : Int32) (I : zI) (R : zR) (J : zJ) (o : (Int32 × Int32 × zI) ⊕ (Int32 × zI)) (hf : j_X11_leftBy_33_4 v0 v1 v2 v3 I R = some o) (hk : (zw_se (fun t => zy_V X M_X11_leftBy 7 P 4 [.ref v0, .int v1, .int t.1, .int t.2.1] [] (t.2.2, R, J)) (fun r => zy_V X M_X11_leftBy 7 P 39 [.null, .null, .int r.1, .null] [] (r.2, R, J)) o)) : zy_V X M_X11_leftBy 7 P 33 [.ref v0, .int v1, .int v2, .int v3] [] (I, R, J) := by
  unfold j_X11_leftBy_33_4 at hf
  obtain ⟨x7, ex7, hf⟩ := zw_letE hf
  refine zx_iinc (pc := 33) (x2 := x7) (L2 := [.ref v0, .int v1, .int v2, .int x7]) d_X11_leftBy_33 (by decide) rfl zc_i_1 ex7 rfl ?_
  refine zv_goto (pc := 36) (tg := 4) d_X11_leftBy_36 (by decide) ?_
  cases hf
  exact zx_weak (zw_leS (zw_leS (zw_leS (zw_leS zw_leZ)))) hk
def s_X11_leftBy_4 (v0 : Nat) (v1 : Int32) (R : zR) (s : Int32 × Int32 × zI) : Option ((Int32 × Int32 × zI) ⊕ (Int32 × zI)) :=
  zw_g (zw_gc v0 11) (zw_g (zw_gc (R v0 22) 13) (zw_g (zw_in (s.2.2 v0 18) (zw_SH (R v0 22)).2) (if (s.2.2 (R v0 22) (Int32.toNatClampNeg (s.2.2 v0 18))) ≤ s.2.1 then some (.inr (s.1, s.2.2)) else (f_X11_barredBy v0 s.2.1 v1 s.2.2 R).bind fun q5 => (if ¬ q5.1 = (-1) then j_X11_leftBy_33_4 v0 v1 s.1 s.2.1 q5.2 R else zw_let ((s.1 ||| (1 <<< (s.2.1 &&& 31))) : Int32) fun x8 => (j_X11_leftBy_33_4 v0 v1 x8 s.2.1 q5.2 R)))))
theorem s_X11_leftBy_4_ok (X : zw_X) (P : Option Value → aS → Prop) (v0 : Nat) (v1 : Int32) (R : zR) (J : zJ) (s : Int32 × Int32 × zI) (o : (Int32 × Int32 × zI) ⊕ (Int32 × zI)) (hf : s_X11_leftBy_4 v0 v1 R s = some o) (hk : (zw_se (fun t => zy_V X M_X11_leftBy 7 P 4 [.ref v0, .int v1, .int t.1, .int t.2.1] [] (t.2.2, R, J)) (fun r => zy_V X M_X11_leftBy 7 P 39 [.null, .null, .int r.1, .null] [] (r.2, R, J)) o)) : zy_V X M_X11_leftBy 7 P 4 [.ref v0, .int v1, .int s.1, .int s.2.1] [] (s.2.2, R, J) := by
  unfold s_X11_leftBy_4 at hf
  refine zv_iload_n (pc := 4) d_X11_leftBy_4 rfl ?_
  refine zv_aload_n (pc := 5) d_X11_leftBy_5 rfl ?_
  obtain ⟨g1, hf⟩ := zw_gcE hf (by decide)
  obtain ⟨g2, hf⟩ := zw_gcE hf (by decide)
  refine zx_getR (pc := 6) d_X11_leftBy_6 lk_CutStonesModel_46 (by decide) g1 g2 ?_
  refine zv_aload_n (pc := 9) d_X11_leftBy_9 rfl ?_
  refine zx_getI (pc := 10) d_X11_leftBy_10 lk_CutStonesModel_248 (by decide) g1 ?_
  obtain ⟨i3, hf⟩ := zw_inE hf
  refine zx_iald (pc := 13) d_X11_leftBy_13 g2 i3 ?_
  rcases zw_ifE hf with ⟨c4, hf⟩ | ⟨c4, hf⟩
  · refine zv_icmp_ge (pc := 14) (tg := 39) d_X11_leftBy_14 (by decide) (fun _ => ?_) (fun q => absurd c4 q)
    cases hf
    exact zx_weak (zw_leN (zw_leN (zw_leS (zw_leN zw_leZ)))) hk
  · refine zv_icmp_ge (pc := 14) (tg := 39) d_X11_leftBy_14 (by decide) (fun q => absurd q c4) (fun _ => ?_)
    refine zv_aload_n (pc := 17) d_X11_leftBy_17 rfl ?_
    refine zv_iload_n (pc := 18) d_X11_leftBy_18 rfl ?_
    refine zv_iload_n (pc := 19) d_X11_leftBy_19 rfl ?_
    obtain ⟨q5, hq5, hf⟩ := zw_bdE hf
    refine zx_callV (pc := 20) (As := [.int s.2.1, .int v1]) (o := v0) (st := []) (d2 := 6) (M2 := M_X11_barredBy) (P2 := (fun r S => r = (some (.int q5.1)) ∧ S = (q5.2, R, J))) d_X11_leftBy_20 (zw_mG (List.mem_of_getElem? (i := 1705) (by decide +kernel)) rfl) ce_X11_barredBy (zw_RvK g1 rfl rfl) (Nat.le_of_ble_eq_true rfl) rfl (Nat.le_of_ble_eq_true rfl) (by decide) (c_X11_barredBy X v0 s.2.1 v1 s.2.2 R J _ hq5 ⟨rfl, rfl⟩) ?_
    rintro _ _ ⟨rfl, rfl⟩
    show zy_V X M_X11_leftBy 7 P (20 + 3) [.ref v0, .int v1, .int s.1, .int s.2.1] [.int q5.1] (q5.2, R, J)
    refine zv_iconst (pc := 23) d_X11_leftBy_23 zc_i_m1 ?_
    rcases zw_ifE hf with ⟨c6, hf⟩ | ⟨c6, hf⟩
    · refine zv_icmp_ne (pc := 24) (tg := 33) d_X11_leftBy_24 (by decide) (fun _ => ?_) (fun q => absurd q c6)
      exact zx_weak (zw_leS (zw_leS (zw_leS (zw_leS zw_leZ)))) (j_X11_leftBy_33_4_ok X P v0 v1 s.1 s.2.1 q5.2 R J _ hf hk)
    · refine zv_icmp_ne (pc := 24) (tg := 33) d_X11_leftBy_24 (by decide) (fun q => absurd q c6) (fun _ => ?_)
      refine zv_iload_n (pc := 27) d_X11_leftBy_27 rfl ?_
      refine zv_iconst (pc := 28) d_X11_leftBy_28 zc_i_1 ?_
      refine zv_iload_n (pc := 29) d_X11_leftBy_29 rfl ?_
      refine zv_ishl (pc := 30) d_X11_leftBy_30 ?_
      refine zv_ior (pc := 31) d_X11_leftBy_31 ?_
      obtain ⟨x8, ex8, hf⟩ := zw_letE hf
      refine zx_istore_n (pc := 32) (x2 := x8) (L2 := [.ref v0, .int v1, .int x8, .int s.2.1]) d_X11_leftBy_32 (by decide) ex8 rfl ?_
      exact zx_weak (zw_leS (zw_leS (zw_leS (zw_leS zw_leZ)))) (j_X11_leftBy_33_4_ok X P v0 v1 x8 s.2.1 q5.2 R J _ hf hk)
theorem s_X11_leftBy_4_lp (X : zw_X) (P : Option Value → aS → Prop) (v0 : Nat) (v1 : Int32) (R : zR) (J : zJ) (n : Nat) (s : Int32 × Int32 × zI) (r : Int32 × zI) (h : zw_it (s_X11_leftBy_4 v0 v1 R) n s = some r) (hq : zy_V X M_X11_leftBy 7 P 39 [.null, .null, .int r.1, .null] [] (r.2, R, J)) : zy_V X M_X11_leftBy 7 P 4 [.ref v0, .int v1, .int s.1, .int s.2.1] [] (s.2.2, R, J) :=
  zw_itE (A := (fun t : Int32 × Int32 × zI => zy_V X M_X11_leftBy 7 P 4 [.ref v0, .int v1, .int t.1, .int t.2.1] [] (t.2.2, R, J))) (Q := (fun r : Int32 × zI => zy_V X M_X11_leftBy 7 P 39 [.null, .null, .int r.1, .null] [] (r.2, R, J))) (fun s o h1 h2 => s_X11_leftBy_4_ok X P v0 v1 R J s o h1 h2) n s r h hq
def f_X11_leftBy (v0 : Nat) (v1 : Int32) (I : zI) (R : zR) : Option (Int32 × zI) :=
  (zw_it (s_X11_leftBy_4 v0 v1 R) 1000000 (0, 0, I)).bind fun q9 => (some (q9.1, q9.2))
theorem c_X11_leftBy (X : zw_X) (v0 : Nat) (v1 : Int32) (I : zI) (R : zR) (J : zJ) {P : Option Value → aS → Prop} (o : Int32 × zI) (hf : f_X11_leftBy v0 v1 I R = some o) (hk : P (some (.int o.1)) (o.2, R, J)) : zw_C X M_X11_leftBy 7 0 0 199 [.ref v0, .int v1] (I, R, J) P := by
  show zy_V X M_X11_leftBy 7 P 0 [.ref v0, .int v1, .null, .null] [] (I, R, J)
  unfold f_X11_leftBy at hf
  refine zv_iconst (pc := 0) d_X11_leftBy_0 zc_i_0 ?_
  refine zx_istore_n (pc := 1) (x2 := 0) (L2 := [.ref v0, .int v1, .int 0, .null]) d_X11_leftBy_1 (by decide) rfl rfl ?_
  refine zv_iconst (pc := 2) d_X11_leftBy_2 zc_i_0 ?_
  refine zx_istore_n (pc := 3) (x2 := 0) (L2 := [.ref v0, .int v1, .int 0, .int 0]) d_X11_leftBy_3 (by decide) rfl rfl ?_
  obtain ⟨q9, hq9, hf⟩ := zw_bdE hf
  refine zx_weak (L' := [.ref v0, .int v1, .int 0, .int 0]) (zw_leS (zw_leS (zw_leS (zw_leS zw_leZ)))) (s_X11_leftBy_4_lp X P v0 v1 R J _ _ _ hq9 ?_)
  show zy_V X M_X11_leftBy 7 P 39 [.null, .null, .int q9.1, .null] [] (q9.2, R, J)
  refine zv_iload_n (pc := 39) d_X11_leftBy_39 rfl ?_
  cases hf
  exact zx_iret (pc := 40) d_X11_leftBy_40 rfl hk
abbrev M_X11_read : zw_M := (⟨"CutStonesModel", "read", "()I"⟩, prog_13_method_20_code, 2, (Option.some Jvm.ClassFile.FieldType.int))
theorem d_X11_read_0 : decode M_X11_read.2.1 0 = .ok (.aload_n 0, 1) := by decide +kernel
theorem d_X11_read_1 : decode M_X11_read.2.1 1 = .ok (.aload_n 0, 1) := by decide +kernel
theorem d_X11_read_2 : decode M_X11_read.2.1 2 = .ok (.getfield 177, 3) := by decide +kernel
theorem d_X11_read_5 : decode M_X11_read.2.1 5 = .ok (.putfield 184, 3) := by decide +kernel
theorem d_X11_read_8 : decode M_X11_read.2.1 8 = .ok (.iconst 0, 1) := by decide +kernel
theorem d_X11_read_9 : decode M_X11_read.2.1 9 = .ok (.istore_n 1, 1) := by decide +kernel
theorem d_X11_read_10 : decode M_X11_read.2.1 10 = .ok (.iload_n 1, 1) := by decide +kernel
theorem d_X11_read_11 : decode M_X11_read.2.1 11 = .ok (.aload_n 0, 1) := by decide +kernel
theorem d_X11_read_12 : decode M_X11_read.2.1 12 = .ok (.getfield 184, 3) := by decide +kernel
theorem d_X11_read_15 : decode M_X11_read.2.1 15 = .ok (.if_icmp .ge 21, 3) := by decide +kernel
theorem d_X11_read_18 : decode M_X11_read.2.1 18 = .ok (.aload_n 0, 1) := by decide +kernel
theorem d_X11_read_19 : decode M_X11_read.2.1 19 = .ok (.getfield 17, 3) := by decide +kernel
theorem d_X11_read_22 : decode M_X11_read.2.1 22 = .ok (.iload_n 1, 1) := by decide +kernel
theorem d_X11_read_23 : decode M_X11_read.2.1 23 = .ok (.aload_n 0, 1) := by decide +kernel
theorem d_X11_read_24 : decode M_X11_read.2.1 24 = .ok (.getfield 13, 3) := by decide +kernel
theorem d_X11_read_27 : decode M_X11_read.2.1 27 = .ok (.iload_n 1, 1) := by decide +kernel
theorem d_X11_read_28 : decode M_X11_read.2.1 28 = .ok (.baload, 1) := by decide +kernel
theorem d_X11_read_29 : decode M_X11_read.2.1 29 = .ok (.bastore, 1) := by decide +kernel
theorem d_X11_read_30 : decode M_X11_read.2.1 30 = .ok (.iinc 1 1, 3) := by decide +kernel
theorem d_X11_read_33 : decode M_X11_read.2.1 33 = .ok (.goto (-23), 3) := by decide +kernel
theorem d_X11_read_36 : decode M_X11_read.2.1 36 = .ok (.aload_n 0, 1) := by decide +kernel
theorem d_X11_read_37 : decode M_X11_read.2.1 37 = .ok (.iconst 0, 1) := by decide +kernel
theorem d_X11_read_38 : decode M_X11_read.2.1 38 = .ok (.putfield 177, 3) := by decide +kernel
theorem d_X11_read_41 : decode M_X11_read.2.1 41 = .ok (.aload_n 0, 1) := by decide +kernel
theorem d_X11_read_42 : decode M_X11_read.2.1 42 = .ok (.invokevirtual 242, 3) := by decide +kernel
theorem d_X11_read_45 : decode M_X11_read.2.1 45 = .ok (.aload_n 0, 1) := by decide +kernel
theorem d_X11_read_46 : decode M_X11_read.2.1 46 = .ok (.iconst 0, 1) := by decide +kernel
theorem d_X11_read_47 : decode M_X11_read.2.1 47 = .ok (.putfield 221, 3) := by decide +kernel
theorem d_X11_read_50 : decode M_X11_read.2.1 50 = .ok (.aload_n 0, 1) := by decide +kernel
theorem d_X11_read_51 : decode M_X11_read.2.1 51 = .ok (.iconst 0, 1) := by decide +kernel
theorem d_X11_read_52 : decode M_X11_read.2.1 52 = .ok (.putfield 245, 3) := by decide +kernel
theorem d_X11_read_55 : decode M_X11_read.2.1 55 = .ok (.aload_n 0, 1) := by decide +kernel
theorem d_X11_read_56 : decode M_X11_read.2.1 56 = .ok (.iconst 0, 1) := by decide +kernel
theorem d_X11_read_57 : decode M_X11_read.2.1 57 = .ok (.putfield 218, 3) := by decide +kernel
theorem d_X11_read_60 : decode M_X11_read.2.1 60 = .ok (.aload_n 0, 1) := by decide +kernel
theorem d_X11_read_61 : decode M_X11_read.2.1 61 = .ok (.iconst 0, 1) := by decide +kernel
theorem d_X11_read_62 : decode M_X11_read.2.1 62 = .ok (.putfield 227, 3) := by decide +kernel
theorem d_X11_read_65 : decode M_X11_read.2.1 65 = .ok (.aload_n 0, 1) := by decide +kernel
theorem d_X11_read_66 : decode M_X11_read.2.1 66 = .ok (.iconst 1, 1) := by decide +kernel
theorem d_X11_read_67 : decode M_X11_read.2.1 67 = .ok (.aload_n 0, 1) := by decide +kernel
theorem d_X11_read_68 : decode M_X11_read.2.1 68 = .ok (.getfield 248, 3) := by decide +kernel
theorem d_X11_read_71 : decode M_X11_read.2.1 71 = .ok (.isub, 1) := by decide +kernel
theorem d_X11_read_72 : decode M_X11_read.2.1 72 = .ok (.putfield 251, 3) := by decide +kernel
theorem d_X11_read_75 : decode M_X11_read.2.1 75 = .ok (.aload_n 0, 1) := by decide +kernel
theorem d_X11_read_76 : decode M_X11_read.2.1 76 = .ok (.getfield 40, 3) := by decide +kernel
theorem d_X11_read_79 : decode M_X11_read.2.1 79 = .ok (.aload_n 0, 1) := by decide +kernel
theorem d_X11_read_80 : decode M_X11_read.2.1 80 = .ok (.getfield 251, 3) := by decide +kernel
theorem d_X11_read_83 : decode M_X11_read.2.1 83 = .ok (.iconst 0, 1) := by decide +kernel
theorem d_X11_read_84 : decode M_X11_read.2.1 84 = .ok (.iastore, 1) := by decide +kernel
theorem d_X11_read_85 : decode M_X11_read.2.1 85 = .ok (.aload_n 0, 1) := by decide +kernel
theorem d_X11_read_86 : decode M_X11_read.2.1 86 = .ok (.getfield 46, 3) := by decide +kernel
theorem d_X11_read_89 : decode M_X11_read.2.1 89 = .ok (.aload_n 0, 1) := by decide +kernel
theorem d_X11_read_90 : decode M_X11_read.2.1 90 = .ok (.getfield 251, 3) := by decide +kernel
theorem d_X11_read_93 : decode M_X11_read.2.1 93 = .ok (.iconst 0, 1) := by decide +kernel
theorem d_X11_read_94 : decode M_X11_read.2.1 94 = .ok (.iastore, 1) := by decide +kernel
theorem d_X11_read_95 : decode M_X11_read.2.1 95 = .ok (.aload_n 0, 1) := by decide +kernel
theorem d_X11_read_96 : decode M_X11_read.2.1 96 = .ok (.getfield 58, 3) := by decide +kernel
theorem d_X11_read_99 : decode M_X11_read.2.1 99 = .ok (.aload_n 0, 1) := by decide +kernel
theorem d_X11_read_100 : decode M_X11_read.2.1 100 = .ok (.getfield 251, 3) := by decide +kernel
theorem d_X11_read_103 : decode M_X11_read.2.1 103 = .ok (.iconst 0, 1) := by decide +kernel
theorem d_X11_read_104 : decode M_X11_read.2.1 104 = .ok (.iastore, 1) := by decide +kernel
theorem d_X11_read_105 : decode M_X11_read.2.1 105 = .ok (.aload_n 0, 1) := by decide +kernel
theorem d_X11_read_106 : decode M_X11_read.2.1 106 = .ok (.getfield 61, 3) := by decide +kernel
theorem d_X11_read_109 : decode M_X11_read.2.1 109 = .ok (.aload_n 0, 1) := by decide +kernel
theorem d_X11_read_110 : decode M_X11_read.2.1 110 = .ok (.getfield 251, 3) := by decide +kernel
theorem d_X11_read_113 : decode M_X11_read.2.1 113 = .ok (.iconst 0, 1) := by decide +kernel
theorem d_X11_read_114 : decode M_X11_read.2.1 114 = .ok (.iastore, 1) := by decide +kernel
theorem d_X11_read_115 : decode M_X11_read.2.1 115 = .ok (.aload_n 0, 1) := by decide +kernel
theorem d_X11_read_116 : decode M_X11_read.2.1 116 = .ok (.getfield 73, 3) := by decide +kernel
theorem d_X11_read_119 : decode M_X11_read.2.1 119 = .ok (.aload_n 0, 1) := by decide +kernel
theorem d_X11_read_120 : decode M_X11_read.2.1 120 = .ok (.getfield 251, 3) := by decide +kernel
theorem d_X11_read_123 : decode M_X11_read.2.1 123 = .ok (.iconst 0, 1) := by decide +kernel
theorem d_X11_read_124 : decode M_X11_read.2.1 124 = .ok (.iastore, 1) := by decide +kernel
theorem d_X11_read_125 : decode M_X11_read.2.1 125 = .ok (.aload_n 0, 1) := by decide +kernel
theorem d_X11_read_126 : decode M_X11_read.2.1 126 = .ok (.getfield 76, 3) := by decide +kernel
theorem d_X11_read_129 : decode M_X11_read.2.1 129 = .ok (.aload_n 0, 1) := by decide +kernel
theorem d_X11_read_130 : decode M_X11_read.2.1 130 = .ok (.getfield 251, 3) := by decide +kernel
theorem d_X11_read_133 : decode M_X11_read.2.1 133 = .ok (.iconst 0, 1) := by decide +kernel
theorem d_X11_read_134 : decode M_X11_read.2.1 134 = .ok (.iastore, 1) := by decide +kernel
theorem d_X11_read_135 : decode M_X11_read.2.1 135 = .ok (.aload_n 0, 1) := by decide +kernel
theorem d_X11_read_136 : decode M_X11_read.2.1 136 = .ok (.sipush 200, 3) := by decide +kernel
theorem d_X11_read_139 : decode M_X11_read.2.1 139 = .ok (.aload_n 0, 1) := by decide +kernel
theorem d_X11_read_140 : decode M_X11_read.2.1 140 = .ok (.getfield 251, 3) := by decide +kernel
theorem d_X11_read_143 : decode M_X11_read.2.1 143 = .ok (.imul, 1) := by decide +kernel
theorem d_X11_read_144 : decode M_X11_read.2.1 144 = .ok (.putfield 254, 3) := by decide +kernel
theorem d_X11_read_147 : decode M_X11_read.2.1 147 = .ok (.aload_n 0, 1) := by decide +kernel
theorem d_X11_read_148 : decode M_X11_read.2.1 148 = .ok (.sipush 520, 3) := by decide +kernel
theorem d_X11_read_151 : decode M_X11_read.2.1 151 = .ok (.aload_n 0, 1) := by decide +kernel
theorem d_X11_read_152 : decode M_X11_read.2.1 152 = .ok (.getfield 251, 3) := by decide +kernel
theorem d_X11_read_155 : decode M_X11_read.2.1 155 = .ok (.imul, 1) := by decide +kernel
theorem d_X11_read_156 : decode M_X11_read.2.1 156 = .ok (.putfield 257, 3) := by decide +kernel
theorem d_X11_read_159 : decode M_X11_read.2.1 159 = .ok (.aload_n 0, 1) := by decide +kernel
theorem d_X11_read_160 : decode M_X11_read.2.1 160 = .ok (.getfield 218, 3) := by decide +kernel
theorem d_X11_read_163 : decode M_X11_read.2.1 163 = .ok (.ifCond .ne 18, 3) := by decide +kernel
theorem d_X11_read_166 : decode M_X11_read.2.1 166 = .ok (.aload_n 0, 1) := by decide +kernel
theorem d_X11_read_167 : decode M_X11_read.2.1 167 = .ok (.iconst 0, 1) := by decide +kernel
theorem d_X11_read_168 : decode M_X11_read.2.1 168 = .ok (.invokevirtual 236, 3) := by decide +kernel
theorem d_X11_read_171 : decode M_X11_read.2.1 171 = .ok (.ifCond .ne 10, 3) := by decide +kernel
theorem d_X11_read_174 : decode M_X11_read.2.1 174 = .ok (.aload_n 0, 1) := by decide +kernel
theorem d_X11_read_175 : decode M_X11_read.2.1 175 = .ok (.invokevirtual 260, 3) := by decide +kernel
theorem d_X11_read_178 : decode M_X11_read.2.1 178 = .ok (.goto (-19), 3) := by decide +kernel
theorem d_X11_read_181 : decode M_X11_read.2.1 181 = .ok (.aload_n 0, 1) := by decide +kernel
theorem d_X11_read_182 : decode M_X11_read.2.1 182 = .ok (.aload_n 0, 1) := by decide +kernel
theorem d_X11_read_183 : decode M_X11_read.2.1 183 = .ok (.getfield 218, 3) := by decide +kernel
theorem d_X11_read_186 : decode M_X11_read.2.1 186 = .ok (.ifCond .le 10, 3) := by decide +kernel
theorem d_X11_read_189 : decode M_X11_read.2.1 189 = .ok (.aload_n 0, 1) := by decide +kernel
theorem d_X11_read_190 : decode M_X11_read.2.1 190 = .ok (.getfield 224, 3) := by decide +kernel
theorem d_X11_read_193 : decode M_X11_read.2.1 193 = .ok (.goto 18, 3) := by decide +kernel
theorem d_X11_read_196 : decode M_X11_read.2.1 196 = .ok (.aload_n 0, 1) := by decide +kernel
theorem d_X11_read_197 : decode M_X11_read.2.1 197 = .ok (.getfield 227, 3) := by decide +kernel
theorem d_X11_read_200 : decode M_X11_read.2.1 200 = .ok (.ifCond .le 10, 3) := by decide +kernel
theorem d_X11_read_203 : decode M_X11_read.2.1 203 = .ok (.aload_n 0, 1) := by decide +kernel
theorem d_X11_read_204 : decode M_X11_read.2.1 204 = .ok (.getfield 230, 3) := by decide +kernel
theorem d_X11_read_207 : decode M_X11_read.2.1 207 = .ok (.goto 4, 3) := by decide +kernel
theorem d_X11_read_210 : decode M_X11_read.2.1 210 = .ok (.iconst (-1), 1) := by decide +kernel
theorem d_X11_read_211 : decode M_X11_read.2.1 211 = .ok (.putfield 37, 3) := by decide +kernel
theorem d_X11_read_214 : decode M_X11_read.2.1 214 = .ok (.aload_n 0, 1) := by decide +kernel
theorem d_X11_read_215 : decode M_X11_read.2.1 215 = .ok (.getfield 218, 3) := by decide +kernel
theorem d_X11_read_218 : decode M_X11_read.2.1 218 = .ok (.ifCond .le 8, 3) := by decide +kernel
theorem d_X11_read_221 : decode M_X11_read.2.1 221 = .ok (.aload_n 0, 1) := by decide +kernel
theorem d_X11_read_222 : decode M_X11_read.2.1 222 = .ok (.getfield 218, 3) := by decide +kernel
theorem d_X11_read_225 : decode M_X11_read.2.1 225 = .ok (.ireturn, 1) := by decide +kernel
theorem d_X11_read_226 : decode M_X11_read.2.1 226 = .ok (.aload_n 0, 1) := by decide +kernel
theorem d_X11_read_227 : decode M_X11_read.2.1 227 = .ok (.getfield 227, 3) := by decide +kernel
theorem d_X11_read_230 : decode M_X11_read.2.1 230 = .ok (.ifCond .le 8, 3) := by decide +kernel
theorem d_X11_read_233 : decode M_X11_read.2.1 233 = .ok (.aload_n 0, 1) := by decide +kernel
theorem d_X11_read_234 : decode M_X11_read.2.1 234 = .ok (.getfield 227, 3) := by decide +kernel
theorem d_X11_read_237 : decode M_X11_read.2.1 237 = .ok (.ireturn, 1) := by decide +kernel
theorem d_X11_read_238 : decode M_X11_read.2.1 238 = .ok (.aload_n 0, 1) := by decide +kernel
theorem d_X11_read_239 : decode M_X11_read.2.1 239 = .ok (.aload_n 0, 1) := by decide +kernel
theorem d_X11_read_240 : decode M_X11_read.2.1 240 = .ok (.getfield 251, 3) := by decide +kernel
theorem d_X11_read_243 : decode M_X11_read.2.1 243 = .ok (.putfield 248, 3) := by decide +kernel
theorem d_X11_read_246 : decode M_X11_read.2.1 246 = .ok (.aload_n 0, 1) := by decide +kernel
theorem d_X11_read_247 : decode M_X11_read.2.1 247 = .ok (.iconst 0, 1) := by decide +kernel
theorem d_X11_read_248 : decode M_X11_read.2.1 248 = .ok (.putfield 263, 3) := by decide +kernel
theorem d_X11_read_251 : decode M_X11_read.2.1 251 = .ok (.aload_n 0, 1) := by decide +kernel
theorem d_X11_read_252 : decode M_X11_read.2.1 252 = .ok (.iconst 0, 1) := by decide +kernel
theorem d_X11_read_253 : decode M_X11_read.2.1 253 = .ok (.putfield 267, 3) := by decide +kernel
theorem d_X11_read_256 : decode M_X11_read.2.1 256 = .ok (.aload_n 0, 1) := by decide +kernel
theorem d_X11_read_257 : decode M_X11_read.2.1 257 = .ok (.iconst 0, 1) := by decide +kernel
theorem d_X11_read_258 : decode M_X11_read.2.1 258 = .ok (.putfield 270, 3) := by decide +kernel
theorem d_X11_read_261 : decode M_X11_read.2.1 261 = .ok (.aload_n 0, 1) := by decide +kernel
theorem d_X11_read_262 : decode M_X11_read.2.1 262 = .ok (.iconst 0, 1) := by decide +kernel
theorem d_X11_read_263 : decode M_X11_read.2.1 263 = .ok (.putfield 273, 3) := by decide +kernel
theorem d_X11_read_266 : decode M_X11_read.2.1 266 = .ok (.iconst 0, 1) := by decide +kernel
theorem d_X11_read_267 : decode M_X11_read.2.1 267 = .ok (.ireturn, 1) := by decide +kernel
theorem ce_X11_read : zw_CeV M_X11_read 0 := ⟨⟨⟨by decide +kernel, by decide +kernel, by decide +kernel⟩, (zw_mG (List.mem_of_getElem? (i := 1416) (by decide +kernel)) rfl), (zw_mG (List.mem_of_getElem? (i := 108) (by decide +kernel)) rfl), by decide, by decide +kernel⟩, (zw_mG (List.mem_of_getElem? (i := 1414) (by decide +kernel)) rfl), (zw_mG (List.mem_of_getElem? (i := 1415) (by decide +kernel)) rfl)⟩
def s_X11_read_10 (v0 : Nat) (R : zR) (J : zJ) (s : Int32 × zI) : Option ((Int32 × zI) ⊕ (zI)) :=
  zw_g (zw_gc v0 11) (if (s.2 v0 4) ≤ s.1 then some (.inr s.2) else zw_g (zw_gc (R v0 3) 12) (zw_g (zw_gc (R v0 1) 12) (zw_g (zw_in s.1 (zw_SH (R v0 1)).2) (zw_g (zw_in s.1 (zw_SH (R v0 3)).2) (zw_let (zw_u s.2 (R v0 3) (Int32.toNatClampNeg s.1) (Int8.toInt32 (Int32.toInt8 (s.2 (R v0 1) (Int32.toNatClampNeg s.1)))) : zI) fun I9 => (zw_let (s.1 + 1 : Int32) fun x10 => (some (.inl (x10, I9)))))))))
theorem s_X11_read_10_ok (X : zw_X) (P : Option Value → aS → Prop) (v0 : Nat) (R : zR) (J : zJ) (s : Int32 × zI) (o : (Int32 × zI) ⊕ (zI)) (hf : s_X11_read_10 v0 R J s = some o) (hk : (zw_se (fun t => zy_V X M_X11_read 7 P 10 [.ref v0, .int t.1] [] (t.2, R, J)) (fun r => zy_V X M_X11_read 7 P 36 [.ref v0, .null] [] (r, R, J)) o)) : zy_V X M_X11_read 7 P 10 [.ref v0, .int s.1] [] (s.2, R, J) := by
  unfold s_X11_read_10 at hf
  refine zv_iload_n (pc := 10) d_X11_read_10 rfl ?_
  refine zv_aload_n (pc := 11) d_X11_read_11 rfl ?_
  obtain ⟨g3, hf⟩ := zw_gcE hf (by decide)
  refine zx_getI (pc := 12) d_X11_read_12 lk_CutStonesModel_184 (by decide) g3 ?_
  rcases zw_ifE hf with ⟨c4, hf⟩ | ⟨c4, hf⟩
  · refine zv_icmp_ge (pc := 15) (tg := 36) d_X11_read_15 (by decide) (fun _ => ?_) (fun q => absurd c4 q)
    cases hf
    exact zx_weak (zw_leS (zw_leN zw_leZ)) hk
  · refine zv_icmp_ge (pc := 15) (tg := 36) d_X11_read_15 (by decide) (fun q => absurd q c4) (fun _ => ?_)
    refine zv_aload_n (pc := 18) d_X11_read_18 rfl ?_
    obtain ⟨g5, hf⟩ := zw_gcE hf (by decide)
    refine zx_getR (pc := 19) d_X11_read_19 lk_CutStonesModel_17 (by decide) g3 g5 ?_
    refine zv_iload_n (pc := 22) d_X11_read_22 rfl ?_
    refine zv_aload_n (pc := 23) d_X11_read_23 rfl ?_
    obtain ⟨g6, hf⟩ := zw_gcE hf (by decide)
    refine zx_getR (pc := 24) d_X11_read_24 lk_CutStonesModel_13 (by decide) g3 g6 ?_
    refine zv_iload_n (pc := 27) d_X11_read_27 rfl ?_
    obtain ⟨i7, hf⟩ := zw_inE hf
    refine zx_bald (pc := 28) d_X11_read_28 g6 i7 ?_
    obtain ⟨i8, hf⟩ := zw_inE hf
    obtain ⟨I9, eI9, hf⟩ := zw_letE hf
    refine zx_bast (pc := 29) (I2 := I9) d_X11_read_29 g5 i8 eI9 ?_
    obtain ⟨x10, ex10, hf⟩ := zw_letE hf
    refine zx_iinc (pc := 30) (x2 := x10) (L2 := [.ref v0, .int x10]) d_X11_read_30 (by decide) rfl zc_i_1 ex10 rfl ?_
    refine zv_goto (pc := 33) (tg := 10) d_X11_read_33 (by decide) ?_
    cases hf
    exact zx_weak (zw_leS (zw_leS zw_leZ)) hk
theorem s_X11_read_10_lp (X : zw_X) (P : Option Value → aS → Prop) (v0 : Nat) (R : zR) (J : zJ) (n : Nat) (s : Int32 × zI) (r : zI) (h : zw_it (s_X11_read_10 v0 R J) n s = some r) (hq : zy_V X M_X11_read 7 P 36 [.ref v0, .null] [] (r, R, J)) : zy_V X M_X11_read 7 P 10 [.ref v0, .int s.1] [] (s.2, R, J) :=
  zw_itE (A := (fun t : Int32 × zI => zy_V X M_X11_read 7 P 10 [.ref v0, .int t.1] [] (t.2, R, J))) (Q := (fun r : zI => zy_V X M_X11_read 7 P 36 [.ref v0, .null] [] (r, R, J))) (fun s o h1 h2 => s_X11_read_10_ok X P v0 R J s o h1 h2) n s r h hq
def s_X11_read_159 (v0 : Nat) (R : zR) (s : zI × zJ) : Option ((zI × zJ) ⊕ (zI × zJ)) :=
  zw_g (zw_gc v0 11) (if ¬ (s.1 v0 13) = 0 then some (.inr (s.1, s.2)) else (f_X11_is v0 0 s.1 R).bind fun q41 => (if ¬ q41 = 0 then some (.inr (s.1, s.2)) else (f_X11_tell v0 s.1 R s.2).bind fun q43 => (some (.inl (q43.1, q43.2)))))
theorem s_X11_read_159_ok (X : zw_X) (P : Option Value → aS → Prop) (v0 : Nat) (R : zR) (s : zI × zJ) (o : (zI × zJ) ⊕ (zI × zJ)) (hf : s_X11_read_159 v0 R s = some o) (hk : (zw_se (fun t => zy_V X M_X11_read 7 P 159 [.ref v0, .null] [] (t.1, R, t.2)) (fun r => zy_V X M_X11_read 7 P 181 [.ref v0, .null] [] (r.1, R, r.2)) o)) : zy_V X M_X11_read 7 P 159 [.ref v0, .null] [] (s.1, R, s.2) := by
  unfold s_X11_read_159 at hf
  refine zv_aload_n (pc := 159) d_X11_read_159 rfl ?_
  obtain ⟨g39, hf⟩ := zw_gcE hf (by decide)
  refine zx_getI (pc := 160) d_X11_read_160 lk_CutStonesModel_218 (by decide) g39 ?_
  rcases zw_ifE hf with ⟨c40, hf⟩ | ⟨c40, hf⟩
  · refine zv_if_ne (pc := 163) (tg := 181) d_X11_read_163 (by decide) (fun _ => ?_) (fun q => absurd q c40)
    cases hf
    exact zx_weak (zw_leS (zw_leN zw_leZ)) hk
  · refine zv_if_ne (pc := 163) (tg := 181) d_X11_read_163 (by decide) (fun q => absurd q c40) (fun _ => ?_)
    refine zv_aload_n (pc := 166) d_X11_read_166 rfl ?_
    refine zv_iconst (pc := 167) d_X11_read_167 zc_i_0 ?_
    obtain ⟨q41, hq41, hf⟩ := zw_bdE hf
    refine zx_callV (pc := 168) (As := [.int 0]) (o := v0) (st := []) (d2 := 0) (M2 := M_X11_is) (P2 := (fun r S => r = (some (.int q41)) ∧ S = (s.1, R, s.2))) d_X11_read_168 (zw_mG (List.mem_of_getElem? (i := 1442) (by decide +kernel)) rfl) ce_X11_is (zw_RvK g39 rfl rfl) (Nat.le_of_ble_eq_true rfl) rfl (Nat.le_of_ble_eq_true rfl) (by decide) (c_X11_is X v0 0 s.1 R s.2 _ hq41 ⟨rfl, rfl⟩) ?_
    rintro _ _ ⟨rfl, rfl⟩
    show zy_V X M_X11_read 7 P (168 + 3) [.ref v0, .null] [.int q41] (s.1, R, s.2)
    rcases zw_ifE hf with ⟨c42, hf⟩ | ⟨c42, hf⟩
    · refine zv_if_ne (pc := 171) (tg := 181) d_X11_read_171 (by decide) (fun _ => ?_) (fun q => absurd q c42)
      cases hf
      exact zx_weak (zw_leS (zw_leN zw_leZ)) hk
    · refine zv_if_ne (pc := 171) (tg := 181) d_X11_read_171 (by decide) (fun q => absurd q c42) (fun _ => ?_)
      refine zv_aload_n (pc := 174) d_X11_read_174 rfl ?_
      obtain ⟨q43, hq43, hf⟩ := zw_bdE hf
      refine zx_callV (pc := 175) (As := []) (o := v0) (st := []) (d2 := 6) (M2 := M_X11_tell) (P2 := (fun r S => r = none ∧ S = (q43.1, R, q43.2))) d_X11_read_175 (zw_mG (List.mem_of_getElem? (i := 1446) (by decide +kernel)) rfl) ce_X11_tell (zw_RvK g39 rfl rfl) (Nat.le_of_ble_eq_true rfl) rfl (Nat.le_of_ble_eq_true rfl) (by decide) (c_X11_tell X v0 s.1 R s.2 _ hq43 ⟨rfl, rfl⟩) ?_
      rintro _ _ ⟨rfl, rfl⟩
      show zy_V X M_X11_read 7 P (175 + 3) [.ref v0, .null] [] (q43.1, R, q43.2)
      refine zv_goto (pc := 178) (tg := 159) d_X11_read_178 (by decide) ?_
      cases hf
      exact zx_weak (zw_leS (zw_leN zw_leZ)) hk
theorem s_X11_read_159_lp (X : zw_X) (P : Option Value → aS → Prop) (v0 : Nat) (R : zR) (n : Nat) (s : zI × zJ) (r : zI × zJ) (h : zw_it (s_X11_read_159 v0 R) n s = some r) (hq : zy_V X M_X11_read 7 P 181 [.ref v0, .null] [] (r.1, R, r.2)) : zy_V X M_X11_read 7 P 159 [.ref v0, .null] [] (s.1, R, s.2) :=
  zw_itE (A := (fun t : zI × zJ => zy_V X M_X11_read 7 P 159 [.ref v0, .null] [] (t.1, R, t.2))) (Q := (fun r : zI × zJ => zy_V X M_X11_read 7 P 181 [.ref v0, .null] [] (r.1, R, r.2))) (fun s o h1 h2 => s_X11_read_159_ok X P v0 R s o h1 h2) n s r h hq
def j_X11_read_211 (v0 : Nat) (s0 : Nat) (s1 : Int32) (I : zI) (R : zR) (J : zJ) : Option (Int32 × zI × zJ) :=
  zw_g (zw_gc s0 11) (zw_let (zw_u I s0 17 s1 : zI) fun I49 => (zw_g (zw_gc v0 11) (if (I49 v0 13) ≤ 0 then if (I49 v0 15) ≤ 0 then zw_let (zw_u I49 v0 18 (I49 v0 19) : zI) fun I53 => (zw_let (zw_u I53 v0 61 0 : zI) fun I54 => (zw_let (zw_u I54 v0 65 0 : zI) fun I55 => (zw_let (zw_u I55 v0 70 0 : zI) fun I56 => (zw_let (zw_u I56 v0 75 0 : zI) fun I57 => (some (0, I57, J)))))) else some ((I49 v0 15), I49, J) else some ((I49 v0 13), I49, J))))
theorem j_X11_read_211_ok (X : zw_X) (P : Option Value → aS → Prop) (v0 : Nat) (s0 : Nat) (s1 : Int32) (I : zI) (R : zR) (J : zJ) (o : Int32 × zI × zJ) (hf : j_X11_read_211 v0 s0 s1 I R J = some o) (hk : P (some (.int o.1)) (o.2.1, R, o.2.2)) : zy_V X M_X11_read 7 P 211 [.ref v0, .null] [.int s1, .ref s0] (I, R, J) := by
  unfold j_X11_read_211 at hf
  obtain ⟨g48, hf⟩ := zw_gcE hf (by decide)
  obtain ⟨I49, eI49, hf⟩ := zw_letE hf
  refine zx_putI (pc := 211) (I2 := I49) d_X11_read_211 lk_CutStonesModel_37 rfl g48 eI49 ?_
  refine zv_aload_n (pc := 214) d_X11_read_214 rfl ?_
  obtain ⟨g50, hf⟩ := zw_gcE hf (by decide)
  refine zx_getI (pc := 215) d_X11_read_215 lk_CutStonesModel_218 (by decide) g50 ?_
  rcases zw_ifE hf with ⟨c51, hf⟩ | ⟨c51, hf⟩
  · refine zv_if_le (pc := 218) (tg := 226) d_X11_read_218 (by decide) (fun _ => ?_) (fun q => absurd c51 q)
    refine zv_aload_n (pc := 226) d_X11_read_226 rfl ?_
    refine zx_getI (pc := 227) d_X11_read_227 lk_CutStonesModel_227 (by decide) g50 ?_
    rcases zw_ifE hf with ⟨c52, hf⟩ | ⟨c52, hf⟩
    · refine zv_if_le (pc := 230) (tg := 238) d_X11_read_230 (by decide) (fun _ => ?_) (fun q => absurd c52 q)
      refine zv_aload_n (pc := 238) d_X11_read_238 rfl ?_
      refine zv_aload_n (pc := 239) d_X11_read_239 rfl ?_
      refine zx_getI (pc := 240) d_X11_read_240 lk_CutStonesModel_251 (by decide) g50 ?_
      obtain ⟨I53, eI53, hf⟩ := zw_letE hf
      refine zx_putI (pc := 243) (I2 := I53) d_X11_read_243 lk_CutStonesModel_248 rfl g50 eI53 ?_
      refine zv_aload_n (pc := 246) d_X11_read_246 rfl ?_
      refine zv_iconst (pc := 247) d_X11_read_247 zc_i_0 ?_
      obtain ⟨I54, eI54, hf⟩ := zw_letE hf
      refine zx_putZ (pc := 248) (I2 := I54) d_X11_read_248 lk_CutStonesModel_263 rfl (Or.inl rfl) g50 eI54 ?_
      refine zv_aload_n (pc := 251) d_X11_read_251 rfl ?_
      refine zv_iconst (pc := 252) d_X11_read_252 zc_i_0 ?_
      obtain ⟨I55, eI55, hf⟩ := zw_letE hf
      refine zx_putZ (pc := 253) (I2 := I55) d_X11_read_253 lk_CutStonesModel_267 rfl (Or.inl rfl) g50 eI55 ?_
      refine zv_aload_n (pc := 256) d_X11_read_256 rfl ?_
      refine zv_iconst (pc := 257) d_X11_read_257 zc_i_0 ?_
      obtain ⟨I56, eI56, hf⟩ := zw_letE hf
      refine zx_putZ (pc := 258) (I2 := I56) d_X11_read_258 lk_CutStonesModel_270 rfl (Or.inl rfl) g50 eI56 ?_
      refine zv_aload_n (pc := 261) d_X11_read_261 rfl ?_
      refine zv_iconst (pc := 262) d_X11_read_262 zc_i_0 ?_
      obtain ⟨I57, eI57, hf⟩ := zw_letE hf
      refine zx_putI (pc := 263) (I2 := I57) d_X11_read_263 lk_CutStonesModel_273 rfl g50 eI57 ?_
      refine zv_iconst (pc := 266) d_X11_read_266 zc_i_0 ?_
      cases hf
      exact zx_iret (pc := 267) d_X11_read_267 rfl hk
    · refine zv_if_le (pc := 230) (tg := 238) d_X11_read_230 (by decide) (fun q => absurd q c52) (fun _ => ?_)
      refine zv_aload_n (pc := 233) d_X11_read_233 rfl ?_
      refine zx_getI (pc := 234) d_X11_read_234 lk_CutStonesModel_227 (by decide) g50 ?_
      cases hf
      exact zx_iret (pc := 237) d_X11_read_237 rfl hk
  · refine zv_if_le (pc := 218) (tg := 226) d_X11_read_218 (by decide) (fun q => absurd q c51) (fun _ => ?_)
    refine zv_aload_n (pc := 221) d_X11_read_221 rfl ?_
    refine zx_getI (pc := 222) d_X11_read_222 lk_CutStonesModel_218 (by decide) g50 ?_
    cases hf
    exact zx_iret (pc := 225) d_X11_read_225 rfl hk
def j_X11_read_181 (v0 : Nat) (I : zI) (R : zR) (J : zJ) : Option (Int32 × zI × zJ) :=
  zw_g (zw_gc v0 11) (if (I v0 13) ≤ 0 then if (I v0 15) ≤ 0 then j_X11_read_211 v0 v0 (-1) I R J else j_X11_read_211 v0 v0 (I v0 16) I R J else j_X11_read_211 v0 v0 (I v0 14) I R J)
theorem j_X11_read_181_ok (X : zw_X) (P : Option Value → aS → Prop) (v0 : Nat) (I : zI) (R : zR) (J : zJ) (o : Int32 × zI × zJ) (hf : j_X11_read_181 v0 I R J = some o) (hk : P (some (.int o.1)) (o.2.1, R, o.2.2)) : zy_V X M_X11_read 7 P 181 [.ref v0, .null] [] (I, R, J) := by
  unfold j_X11_read_181 at hf
  refine zv_aload_n (pc := 181) d_X11_read_181 rfl ?_
  refine zv_aload_n (pc := 182) d_X11_read_182 rfl ?_
  obtain ⟨g45, hf⟩ := zw_gcE hf (by decide)
  refine zx_getI (pc := 183) d_X11_read_183 lk_CutStonesModel_218 (by decide) g45 ?_
  rcases zw_ifE hf with ⟨c46, hf⟩ | ⟨c46, hf⟩
  · refine zv_if_le (pc := 186) (tg := 196) d_X11_read_186 (by decide) (fun _ => ?_) (fun q => absurd c46 q)
    refine zv_aload_n (pc := 196) d_X11_read_196 rfl ?_
    refine zx_getI (pc := 197) d_X11_read_197 lk_CutStonesModel_227 (by decide) g45 ?_
    rcases zw_ifE hf with ⟨c47, hf⟩ | ⟨c47, hf⟩
    · refine zv_if_le (pc := 200) (tg := 210) d_X11_read_200 (by decide) (fun _ => ?_) (fun q => absurd c47 q)
      refine zv_iconst (pc := 210) d_X11_read_210 zc_i_m1 ?_
      exact zx_weak (zw_leS (zw_leN zw_leZ)) (j_X11_read_211_ok X P v0 v0 (-1) I R J _ hf hk)
    · refine zv_if_le (pc := 200) (tg := 210) d_X11_read_200 (by decide) (fun q => absurd q c47) (fun _ => ?_)
      refine zv_aload_n (pc := 203) d_X11_read_203 rfl ?_
      refine zx_getI (pc := 204) d_X11_read_204 lk_CutStonesModel_230 (by decide) g45 ?_
      refine zv_goto (pc := 207) (tg := 211) d_X11_read_207 (by decide) ?_
      exact zx_weak (zw_leS (zw_leN zw_leZ)) (j_X11_read_211_ok X P v0 v0 (I v0 16) I R J _ hf hk)
  · refine zv_if_le (pc := 186) (tg := 196) d_X11_read_186 (by decide) (fun q => absurd q c46) (fun _ => ?_)
    refine zv_aload_n (pc := 189) d_X11_read_189 rfl ?_
    refine zx_getI (pc := 190) d_X11_read_190 lk_CutStonesModel_224 (by decide) g45 ?_
    refine zv_goto (pc := 193) (tg := 211) d_X11_read_193 (by decide) ?_
    exact zx_weak (zw_leS (zw_leN zw_leZ)) (j_X11_read_211_ok X P v0 v0 (I v0 14) I R J _ hf hk)
def f_X11_read (v0 : Nat) (I : zI) (R : zR) (J : zJ) : Option (Int32 × zI × zJ) :=
  zw_g (zw_gc v0 11) (zw_let (zw_u I v0 4 (I v0 2) : zI) fun I2 => ((zw_it (s_X11_read_10 v0 R J) 1000000 (0, I2)).bind fun q11 => (zw_let (zw_u q11 v0 2 0 : zI) fun I12 => ((f_X11_cut v0 I12 R J).bind fun q13 => (zw_let (zw_u q13.1 v0 11 0 : zI) fun I14 => (zw_let (zw_u I14 v0 12 0 : zI) fun I15 => (zw_let (zw_u I15 v0 13 0 : zI) fun I16 => (zw_let (zw_u I16 v0 15 0 : zI) fun I17 => (zw_let (zw_u I17 v0 19 (1 - (I17 v0 18)) : zI) fun I18 => (zw_g (zw_gc (R v0 20) 13) (zw_g (zw_in (I18 v0 19) (zw_SH (R v0 20)).2) (zw_let (zw_u I18 (R v0 20) (Int32.toNatClampNeg (I18 v0 19)) 0 : zI) fun I21 => (zw_g (zw_gc (R v0 22) 13) (zw_g (zw_in (I21 v0 19) (zw_SH (R v0 22)).2) (zw_let (zw_u I21 (R v0 22) (Int32.toNatClampNeg (I21 v0 19)) 0 : zI) fun I24 => (zw_g (zw_gc (R v0 26) 13) (zw_g (zw_in (I24 v0 19) (zw_SH (R v0 26)).2) (zw_let (zw_u I24 (R v0 26) (Int32.toNatClampNeg (I24 v0 19)) 0 : zI) fun I27 => (zw_g (zw_gc (R v0 27) 13) (zw_g (zw_in (I27 v0 19) (zw_SH (R v0 27)).2) (zw_let (zw_u I27 (R v0 27) (Int32.toNatClampNeg (I27 v0 19)) 0 : zI) fun I30 => (zw_g (zw_gc (R v0 31) 13) (zw_g (zw_in (I30 v0 19) (zw_SH (R v0 31)).2) (zw_let (zw_u I30 (R v0 31) (Int32.toNatClampNeg (I30 v0 19)) 0 : zI) fun I33 => (zw_g (zw_gc (R v0 32) 13) (zw_g (zw_in (I33 v0 19) (zw_SH (R v0 32)).2) (zw_let (zw_u I33 (R v0 32) (Int32.toNatClampNeg (I33 v0 19)) 0 : zI) fun I36 => (zw_let (zw_u I36 v0 37 (200 * (I36 v0 19)) : zI) fun I37 => (zw_let (zw_u I37 v0 44 (520 * (I37 v0 19)) : zI) fun I38 => ((zw_it (s_X11_read_159 v0 R) 1000000 (I38, q13.2)).bind fun q44 => (j_X11_read_181 v0 q44.1 R q44.2)))))))))))))))))))))))))))))))
theorem c_X11_read (X : zw_X) (v0 : Nat) (I : zI) (R : zR) (J : zJ) {P : Option Value → aS → Prop} (o : Int32 × zI × zJ) (hf : f_X11_read v0 I R J = some o) (hk : P (some (.int o.1)) (o.2.1, R, o.2.2)) : zw_C X M_X11_read 7 0 0 199 [.ref v0] (I, R, J) P := by
  show zy_V X M_X11_read 7 P 0 [.ref v0, .null] [] (I, R, J)
  unfold f_X11_read at hf
  refine zv_aload_n (pc := 0) d_X11_read_0 rfl ?_
  refine zv_aload_n (pc := 1) d_X11_read_1 rfl ?_
  obtain ⟨g1, hf⟩ := zw_gcE hf (by decide)
  refine zx_getI (pc := 2) d_X11_read_2 lk_CutStonesModel_177 (by decide) g1 ?_
  obtain ⟨I2, eI2, hf⟩ := zw_letE hf
  refine zx_putI (pc := 5) (I2 := I2) d_X11_read_5 lk_CutStonesModel_184 rfl g1 eI2 ?_
  refine zv_iconst (pc := 8) d_X11_read_8 zc_i_0 ?_
  refine zx_istore_n (pc := 9) (x2 := 0) (L2 := [.ref v0, .int 0]) d_X11_read_9 (by decide) rfl rfl ?_
  obtain ⟨q11, hq11, hf⟩ := zw_bdE hf
  refine zx_weak (L' := [.ref v0, .int 0]) (zw_leS (zw_leS zw_leZ)) (s_X11_read_10_lp X P v0 R J _ _ _ hq11 ?_)
  show zy_V X M_X11_read 7 P 36 [.ref v0, .null] [] (q11, R, J)
  refine zv_aload_n (pc := 36) d_X11_read_36 rfl ?_
  refine zv_iconst (pc := 37) d_X11_read_37 zc_i_0 ?_
  obtain ⟨I12, eI12, hf⟩ := zw_letE hf
  refine zx_putI (pc := 38) (I2 := I12) d_X11_read_38 lk_CutStonesModel_177 rfl g1 eI12 ?_
  refine zv_aload_n (pc := 41) d_X11_read_41 rfl ?_
  obtain ⟨q13, hq13, hf⟩ := zw_bdE hf
  refine zx_callV (pc := 42) (As := []) (o := v0) (st := []) (d2 := 2) (M2 := M_X11_cut) (P2 := (fun r S => r = none ∧ S = (q13.1, R, q13.2))) d_X11_read_42 (zw_mG (List.mem_of_getElem? (i := 1417) (by decide +kernel)) rfl) ce_X11_cut (zw_RvK g1 rfl rfl) (Nat.le_of_ble_eq_true rfl) rfl (Nat.le_of_ble_eq_true rfl) (by decide) (c_X11_cut X v0 I12 R J _ hq13 ⟨rfl, rfl⟩) ?_
  rintro _ _ ⟨rfl, rfl⟩
  show zy_V X M_X11_read 7 P (42 + 3) [.ref v0, .null] [] (q13.1, R, q13.2)
  refine zv_aload_n (pc := 45) d_X11_read_45 rfl ?_
  refine zv_iconst (pc := 46) d_X11_read_46 zc_i_0 ?_
  obtain ⟨I14, eI14, hf⟩ := zw_letE hf
  refine zx_putI (pc := 47) (I2 := I14) d_X11_read_47 lk_CutStonesModel_221 rfl g1 eI14 ?_
  refine zv_aload_n (pc := 50) d_X11_read_50 rfl ?_
  refine zv_iconst (pc := 51) d_X11_read_51 zc_i_0 ?_
  obtain ⟨I15, eI15, hf⟩ := zw_letE hf
  refine zx_putI (pc := 52) (I2 := I15) d_X11_read_52 lk_CutStonesModel_245 rfl g1 eI15 ?_
  refine zv_aload_n (pc := 55) d_X11_read_55 rfl ?_
  refine zv_iconst (pc := 56) d_X11_read_56 zc_i_0 ?_
  obtain ⟨I16, eI16, hf⟩ := zw_letE hf
  refine zx_putI (pc := 57) (I2 := I16) d_X11_read_57 lk_CutStonesModel_218 rfl g1 eI16 ?_
  refine zv_aload_n (pc := 60) d_X11_read_60 rfl ?_
  refine zv_iconst (pc := 61) d_X11_read_61 zc_i_0 ?_
  obtain ⟨I17, eI17, hf⟩ := zw_letE hf
  refine zx_putI (pc := 62) (I2 := I17) d_X11_read_62 lk_CutStonesModel_227 rfl g1 eI17 ?_
  refine zv_aload_n (pc := 65) d_X11_read_65 rfl ?_
  refine zv_iconst (pc := 66) d_X11_read_66 zc_i_1 ?_
  refine zv_aload_n (pc := 67) d_X11_read_67 rfl ?_
  refine zx_getI (pc := 68) d_X11_read_68 lk_CutStonesModel_248 (by decide) g1 ?_
  refine zv_isub (pc := 71) d_X11_read_71 ?_
  obtain ⟨I18, eI18, hf⟩ := zw_letE hf
  refine zx_putI (pc := 72) (I2 := I18) d_X11_read_72 lk_CutStonesModel_251 rfl g1 eI18 ?_
  refine zv_aload_n (pc := 75) d_X11_read_75 rfl ?_
  obtain ⟨g19, hf⟩ := zw_gcE hf (by decide)
  refine zx_getR (pc := 76) d_X11_read_76 lk_CutStonesModel_40 (by decide) g1 g19 ?_
  refine zv_aload_n (pc := 79) d_X11_read_79 rfl ?_
  refine zx_getI (pc := 80) d_X11_read_80 lk_CutStonesModel_251 (by decide) g1 ?_
  refine zv_iconst (pc := 83) d_X11_read_83 zc_i_0 ?_
  obtain ⟨i20, hf⟩ := zw_inE hf
  obtain ⟨I21, eI21, hf⟩ := zw_letE hf
  refine zx_iast (pc := 84) (I2 := I21) d_X11_read_84 g19 i20 eI21 ?_
  refine zv_aload_n (pc := 85) d_X11_read_85 rfl ?_
  obtain ⟨g22, hf⟩ := zw_gcE hf (by decide)
  refine zx_getR (pc := 86) d_X11_read_86 lk_CutStonesModel_46 (by decide) g1 g22 ?_
  refine zv_aload_n (pc := 89) d_X11_read_89 rfl ?_
  refine zx_getI (pc := 90) d_X11_read_90 lk_CutStonesModel_251 (by decide) g1 ?_
  refine zv_iconst (pc := 93) d_X11_read_93 zc_i_0 ?_
  obtain ⟨i23, hf⟩ := zw_inE hf
  obtain ⟨I24, eI24, hf⟩ := zw_letE hf
  refine zx_iast (pc := 94) (I2 := I24) d_X11_read_94 g22 i23 eI24 ?_
  refine zv_aload_n (pc := 95) d_X11_read_95 rfl ?_
  obtain ⟨g25, hf⟩ := zw_gcE hf (by decide)
  refine zx_getR (pc := 96) d_X11_read_96 lk_CutStonesModel_58 (by decide) g1 g25 ?_
  refine zv_aload_n (pc := 99) d_X11_read_99 rfl ?_
  refine zx_getI (pc := 100) d_X11_read_100 lk_CutStonesModel_251 (by decide) g1 ?_
  refine zv_iconst (pc := 103) d_X11_read_103 zc_i_0 ?_
  obtain ⟨i26, hf⟩ := zw_inE hf
  obtain ⟨I27, eI27, hf⟩ := zw_letE hf
  refine zx_iast (pc := 104) (I2 := I27) d_X11_read_104 g25 i26 eI27 ?_
  refine zv_aload_n (pc := 105) d_X11_read_105 rfl ?_
  obtain ⟨g28, hf⟩ := zw_gcE hf (by decide)
  refine zx_getR (pc := 106) d_X11_read_106 lk_CutStonesModel_61 (by decide) g1 g28 ?_
  refine zv_aload_n (pc := 109) d_X11_read_109 rfl ?_
  refine zx_getI (pc := 110) d_X11_read_110 lk_CutStonesModel_251 (by decide) g1 ?_
  refine zv_iconst (pc := 113) d_X11_read_113 zc_i_0 ?_
  obtain ⟨i29, hf⟩ := zw_inE hf
  obtain ⟨I30, eI30, hf⟩ := zw_letE hf
  refine zx_iast (pc := 114) (I2 := I30) d_X11_read_114 g28 i29 eI30 ?_
  refine zv_aload_n (pc := 115) d_X11_read_115 rfl ?_
  obtain ⟨g31, hf⟩ := zw_gcE hf (by decide)
  refine zx_getR (pc := 116) d_X11_read_116 lk_CutStonesModel_73 (by decide) g1 g31 ?_
  refine zv_aload_n (pc := 119) d_X11_read_119 rfl ?_
  refine zx_getI (pc := 120) d_X11_read_120 lk_CutStonesModel_251 (by decide) g1 ?_
  refine zv_iconst (pc := 123) d_X11_read_123 zc_i_0 ?_
  obtain ⟨i32, hf⟩ := zw_inE hf
  obtain ⟨I33, eI33, hf⟩ := zw_letE hf
  refine zx_iast (pc := 124) (I2 := I33) d_X11_read_124 g31 i32 eI33 ?_
  refine zv_aload_n (pc := 125) d_X11_read_125 rfl ?_
  obtain ⟨g34, hf⟩ := zw_gcE hf (by decide)
  refine zx_getR (pc := 126) d_X11_read_126 lk_CutStonesModel_76 (by decide) g1 g34 ?_
  refine zv_aload_n (pc := 129) d_X11_read_129 rfl ?_
  refine zx_getI (pc := 130) d_X11_read_130 lk_CutStonesModel_251 (by decide) g1 ?_
  refine zv_iconst (pc := 133) d_X11_read_133 zc_i_0 ?_
  obtain ⟨i35, hf⟩ := zw_inE hf
  obtain ⟨I36, eI36, hf⟩ := zw_letE hf
  refine zx_iast (pc := 134) (I2 := I36) d_X11_read_134 g34 i35 eI36 ?_
  refine zv_aload_n (pc := 135) d_X11_read_135 rfl ?_
  refine zv_sipush (pc := 136) d_X11_read_136 zc_s_200 ?_
  refine zv_aload_n (pc := 139) d_X11_read_139 rfl ?_
  refine zx_getI (pc := 140) d_X11_read_140 lk_CutStonesModel_251 (by decide) g1 ?_
  refine zv_imul (pc := 143) d_X11_read_143 ?_
  obtain ⟨I37, eI37, hf⟩ := zw_letE hf
  refine zx_putI (pc := 144) (I2 := I37) d_X11_read_144 lk_CutStonesModel_254 rfl g1 eI37 ?_
  refine zv_aload_n (pc := 147) d_X11_read_147 rfl ?_
  refine zv_sipush (pc := 148) d_X11_read_148 zc_s_520 ?_
  refine zv_aload_n (pc := 151) d_X11_read_151 rfl ?_
  refine zx_getI (pc := 152) d_X11_read_152 lk_CutStonesModel_251 (by decide) g1 ?_
  refine zv_imul (pc := 155) d_X11_read_155 ?_
  obtain ⟨I38, eI38, hf⟩ := zw_letE hf
  refine zx_putI (pc := 156) (I2 := I38) d_X11_read_156 lk_CutStonesModel_257 rfl g1 eI38 ?_
  obtain ⟨q44, hq44, hf⟩ := zw_bdE hf
  refine zx_weak (L' := [.ref v0, .null]) (zw_leS (zw_leN zw_leZ)) (s_X11_read_159_lp X P v0 R _ _ _ hq44 ?_)
  show zy_V X M_X11_read 7 P 181 [.ref v0, .null] [] (q44.1, R, q44.2)
  exact zx_weak (zw_leS (zw_leN zw_leZ)) (j_X11_read_181_ok X P v0 q44.1 R q44.2 _ hf hk)
