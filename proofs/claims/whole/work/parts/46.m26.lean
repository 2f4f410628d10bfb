abbrev M_X3_readGrade : zw_M := (⟨"CutStones$Reader", "readGrade", "(LCutStones$Tape;)V"⟩, prog_5_method_14_code, 3, (Option.none : Option Jvm.ClassFile.FieldType))
theorem d_X3_readGrade_0 : decode M_X3_readGrade.2.1 0 = .ok (.aload_n 0, 1) := by decide +kernel
theorem d_X3_readGrade_1 : decode M_X3_readGrade.2.1 1 = .ok (.aload_n 1, 1) := by decide +kernel
theorem d_X3_readGrade_2 : decode M_X3_readGrade.2.1 2 = .ok (.bipush 21, 2) := by decide +kernel
theorem d_X3_readGrade_4 : decode M_X3_readGrade.2.1 4 = .ok (.aload_n 0, 1) := by decide +kernel
theorem d_X3_readGrade_5 : decode M_X3_readGrade.2.1 5 = .ok (.getfield 21, 3) := by decide +kernel
theorem d_X3_readGrade_8 : decode M_X3_readGrade.2.1 8 = .ok (.getfield 143, 3) := by decide +kernel
theorem d_X3_readGrade_11 : decode M_X3_readGrade.2.1 11 = .ok (.bipush 8, 2) := by decide +kernel
theorem d_X3_readGrade_13 : decode M_X3_readGrade.2.1 13 = .ok (.if_icmp .ge 7, 3) := by decide +kernel
theorem d_X3_readGrade_16 : decode M_X3_readGrade.2.1 16 = .ok (.iconst 1, 1) := by decide +kernel
theorem d_X3_readGrade_17 : decode M_X3_readGrade.2.1 17 = .ok (.goto 4, 3) := by decide +kernel
theorem d_X3_readGrade_20 : decode M_X3_readGrade.2.1 20 = .ok (.iconst 0, 1) := by decide +kernel
theorem d_X3_readGrade_21 : decode M_X3_readGrade.2.1 21 = .ok (.invokevirtual 66, 3) := by decide +kernel
theorem d_X3_readGrade_24 : decode M_X3_readGrade.2.1 24 = .ok (.ifCond .ne 4, 3) := by decide +kernel
theorem d_X3_readGrade_27 : decode M_X3_readGrade.2.1 27 = .ok (.return_, 1) := by decide +kernel
theorem d_X3_readGrade_28 : decode M_X3_readGrade.2.1 28 = .ok (.aload_n 0, 1) := by decide +kernel
theorem d_X3_readGrade_29 : decode M_X3_readGrade.2.1 29 = .ok (.aload_n 1, 1) := by decide +kernel
theorem d_X3_readGrade_30 : decode M_X3_readGrade.2.1 30 = .ok (.invokevirtual 81, 3) := by decide +kernel
theorem d_X3_readGrade_33 : decode M_X3_readGrade.2.1 33 = .ok (.aload_n 0, 1) := by decide +kernel
theorem d_X3_readGrade_34 : decode M_X3_readGrade.2.1 34 = .ok (.aload_n 1, 1) := by decide +kernel
theorem d_X3_readGrade_35 : decode M_X3_readGrade.2.1 35 = .ok (.bipush 24, 2) := by decide +kernel
theorem d_X3_readGrade_37 : decode M_X3_readGrade.2.1 37 = .ok (.iconst 1, 1) := by decide +kernel
theorem d_X3_readGrade_38 : decode M_X3_readGrade.2.1 38 = .ok (.invokevirtual 66, 3) := by decide +kernel
theorem d_X3_readGrade_41 : decode M_X3_readGrade.2.1 41 = .ok (.pop, 1) := by decide +kernel
theorem d_X3_readGrade_42 : decode M_X3_readGrade.2.1 42 = .ok (.aload_n 0, 1) := by decide +kernel
theorem d_X3_readGrade_43 : decode M_X3_readGrade.2.1 43 = .ok (.getfield 21, 3) := by decide +kernel
theorem d_X3_readGrade_46 : decode M_X3_readGrade.2.1 46 = .ok (.invokevirtual 146, 3) := by decide +kernel
theorem d_X3_readGrade_49 : decode M_X3_readGrade.2.1 49 = .ok (.astore_n 2, 1) := by decide +kernel
theorem d_X3_readGrade_50 : decode M_X3_readGrade.2.1 50 = .ok (.aload_n 2, 1) := by decide +kernel
theorem d_X3_readGrade_51 : decode M_X3_readGrade.2.1 51 = .ok (.aload_n 0, 1) := by decide +kernel
theorem d_X3_readGrade_52 : decode M_X3_readGrade.2.1 52 = .ok (.getfield 21, 3) := by decide +kernel
theorem d_X3_readGrade_55 : decode M_X3_readGrade.2.1 55 = .ok (.getfield 150, 3) := by decide +kernel
theorem d_X3_readGrade_58 : decode M_X3_readGrade.2.1 58 = .ok (.invokevirtual 153, 3) := by decide +kernel
theorem d_X3_readGrade_61 : decode M_X3_readGrade.2.1 61 = .ok (.aload_n 0, 1) := by decide +kernel
theorem d_X3_readGrade_62 : decode M_X3_readGrade.2.1 62 = .ok (.aload_n 1, 1) := by decide +kernel
theorem d_X3_readGrade_63 : decode M_X3_readGrade.2.1 63 = .ok (.invokevirtual 159, 3) := by decide +kernel
theorem d_X3_readGrade_66 : decode M_X3_readGrade.2.1 66 = .ok (.aload_n 2, 1) := by decide +kernel
theorem d_X3_readGrade_67 : decode M_X3_readGrade.2.1 67 = .ok (.aload_n 0, 1) := by decide +kernel
theorem d_X3_readGrade_68 : decode M_X3_readGrade.2.1 68 = .ok (.getfield 21, 3) := by decide +kernel
theorem d_X3_readGrade_71 : decode M_X3_readGrade.2.1 71 = .ok (.getfield 150, 3) := by decide +kernel
theorem d_X3_readGrade_74 : decode M_X3_readGrade.2.1 74 = .ok (.putfield 162, 3) := by decide +kernel
theorem d_X3_readGrade_77 : decode M_X3_readGrade.2.1 77 = .ok (.aload_n 0, 1) := by decide +kernel
theorem d_X3_readGrade_78 : decode M_X3_readGrade.2.1 78 = .ok (.aload_n 1, 1) := by decide +kernel
theorem d_X3_readGrade_79 : decode M_X3_readGrade.2.1 79 = .ok (.iconst 5, 1) := by decide +kernel
theorem d_X3_readGrade_80 : decode M_X3_readGrade.2.1 80 = .ok (.iconst 1, 1) := by decide +kernel
theorem d_X3_readGrade_81 : decode M_X3_readGrade.2.1 81 = .ok (.invokevirtual 66, 3) := by decide +kernel
theorem d_X3_readGrade_84 : decode M_X3_readGrade.2.1 84 = .ok (.pop, 1) := by decide +kernel
theorem d_X3_readGrade_85 : decode M_X3_readGrade.2.1 85 = .ok (.return_, 1) := by decide +kernel
theorem ce_X3_readGrade : zw_CeV M_X3_readGrade 1 := ⟨⟨⟨by decide +kernel, by decide +kernel, by decide +kernel⟩, (zw_mG (List.mem_of_getElem? (i := 772) (by decide +kernel)) rfl), (zw_mG (List.mem_of_getElem? (i := 98) (by decide +kernel)) rfl), by decide, by decide +kernel⟩, (zw_mG (List.mem_of_getElem? (i := 771) (by decide +kernel)) rfl), (zw_mG (List.mem_of_getElem? (i := 14) (by decide +kernel)) rfl)⟩
def j_X3_readGrade_21 (v0 : Nat) (v1 : Nat) (s0 : Nat) (s1 : Nat) (s2 : Int32) (s3 : Int32) (I : zI) (R : zR) (J : zJ) : Option (zI × zJ) :=
  zw_g (zw_gc s0 3) ((f_X3_take s0 s1 s2 s3 I R).bind fun q5 => (if ¬ q5.1 = 0 then zw_g (zw_gc v0 3) ((f_X3_takeName v0 v1 q5.2 R J).bind fun q8 => ((f_X3_take v0 v1 24 1 q8.1 R).bind fun q9 => (zw_g (zw_gc (R v0 2) 1) ((f_X1_addGrade (R v0 2) q9.2 R).bind fun q11 => (zw_g (zw_gc q11.1 5) ((f_X5_begin q11.1 (q11.2 (R v0 2) 14) q11.2).bind fun q13 => ((f_X3_readCondition v0 v1 q13 R q8.2).bind fun q14 => (zw_let (zw_u q14 q11.1 2 (q14 (R v0 2) 14) : zI) fun I15 => ((f_X3_take v0 v1 5 1 I15 R).bind fun q16 => (some (q16.2, q8.2))))))))))) else some (q5.2, J)))
theorem j_X3_readGrade_21_ok (X : zw_X) (P : Option Value → aS → Prop) (v0 : Nat) (v1 : Nat) (s0 : Nat) (s1 : Nat) (s2 : Int32) (s3 : Int32) (I : zI) (R : zR) (J : zJ) (o : zI × zJ) (hf : j_X3_readGrade_21 v0 v1 s0 s1 s2 s3 I R J = some o) (hk : P none (o.1, R, o.2)) : zy_V X M_X3_readGrade 20 P 21 [.ref v0, .ref v1, .null] [.int s3, .int s2, .ref s1, .ref s0] (I, R, J) := by
  unfold j_X3_readGrade_21 at hf
  obtain ⟨g4, hf⟩ := zw_gcE hf (by decide)
  obtain ⟨q5, hq5, hf⟩ := zw_bdE hf
  refine zx_callV (pc := 21) (As := [.ref s1, .int s2, .int s3]) (o := s0) (st := []) (d2 := 0) (M2 := M_X3_take) (P2 := (fun r S => r = (some (.int q5.1)) ∧ S = (q5.2, R, J))) d_X3_readGrade_21 (zw_mG (List.mem_of_getElem? (i := 707) (by decide +kernel)) rfl) ce_X3_take (zw_RvK g4 rfl rfl) (Nat.le_of_ble_eq_true rfl) rfl (Nat.le_of_ble_eq_true rfl) (by decide) (c_X3_take X s0 s1 s2 s3 I R J _ hq5 ⟨rfl, rfl⟩) ?_
  rintro _ _ ⟨rfl, rfl⟩
  show zy_V X M_X3_readGrade 20 P (21 + 3) [.ref v0, .ref v1, .null] [.int q5.1] (q5.2, R, J)
  rcases zw_ifE hf with ⟨c6, hf⟩ | ⟨c6, hf⟩
  · refine zv_if_ne (pc := 24) (tg := 28) d_X3_readGrade_24 (by decide) (fun _ => ?_) (fun q => absurd q c6)
    refine zv_aload_n (pc := 28) d_X3_readGrade_28 rfl ?_
    refine zv_aload_n (pc := 29) d_X3_readGrade_29 rfl ?_
    obtain ⟨g7, hf⟩ := zw_gcE hf (by decide)
    obtain ⟨q8, hq8, hf⟩ := zw_bdE hf
    refine zx_callV (pc := 30) (As := [.ref v1]) (o := v0) (st := []) (d2 := 1) (M2 := M_X3_takeName) (P2 := (fun r S => r = none ∧ S = (q8.1, R, q8.2))) d_X3_readGrade_30 (zw_mG (List.mem_of_getElem? (i := 723) (by decide +kernel)) rfl) ce_X3_takeName (zw_RvK g7 rfl rfl) (Nat.le_of_ble_eq_true rfl) rfl (Nat.le_of_ble_eq_true rfl) (by decide) (c_X3_takeName X v0 v1 q5.2 R J _ hq8 ⟨rfl, rfl⟩) ?_
    rintro _ _ ⟨rfl, rfl⟩
    show zy_V X M_X3_readGrade 20 P (30 + 3) [.ref v0, .ref v1, .null] [] (q8.1, R, q8.2)
    refine zv_aload_n (pc := 33) d_X3_readGrade_33 rfl ?_
    refine zv_aload_n (pc := 34) d_X3_readGrade_34 rfl ?_
    refine zv_bipush (pc := 35) d_X3_readGrade_35 zc_b_24 ?_
    refine zv_iconst (pc := 37) d_X3_readGrade_37 zc_i_1 ?_
    obtain ⟨q9, hq9, hf⟩ := zw_bdE hf
    refine zx_callV (pc := 38) (As := [.ref v1, .int 24, .int 1]) (o := v0) (st := []) (d2 := 0) (M2 := M_X3_take) (P2 := (fun r S => r = (some (.int q9.1)) ∧ S = (q9.2, R, q8.2))) d_X3_readGrade_38 (zw_mG (List.mem_of_getElem? (i := 707) (by decide +kernel)) rfl) ce_X3_take (zw_RvK g7 rfl rfl) (Nat.le_of_ble_eq_true rfl) rfl (Nat.le_of_ble_eq_true rfl) (by decide) (c_X3_take X v0 v1 24 1 q8.1 R q8.2 _ hq9 ⟨rfl, rfl⟩) ?_
    rintro _ _ ⟨rfl, rfl⟩
    show zy_V X M_X3_readGrade 20 P (38 + 3) [.ref v0, .ref v1, .null] [.int q9.1] (q9.2, R, q8.2)
    refine zv_pop (pc := 41) d_X3_readGrade_41 rfl ?_
    refine zv_aload_n (pc := 42) d_X3_readGrade_42 rfl ?_
    obtain ⟨g10, hf⟩ := zw_gcE hf (by decide)
    refine zx_getR (pc := 43) d_X3_readGrade_43 lk_CutStones_Reader_21 (by decide) g7 g10 ?_
    obtain ⟨q11, hq11, hf⟩ := zw_bdE hf
    refine zx_callV (pc := 46) (As := []) (o := (R v0 2)) (st := []) (d2 := 0) (M2 := M_X1_addGrade) (P2 := (fun r S => r = (some (.ref q11.1)) ∧ S = (q11.2, R, q8.2))) d_X3_readGrade_46 (zw_mG (List.mem_of_getElem? (i := 773) (by decide +kernel)) rfl) ce_X1_addGrade (zw_RvK g10 rfl rfl) (Nat.le_of_ble_eq_true rfl) rfl (Nat.le_of_ble_eq_true rfl) (by decide) (c_X1_addGrade X (R v0 2) q9.2 R q8.2 _ hq11 ⟨rfl, rfl⟩) ?_
    rintro _ _ ⟨rfl, rfl⟩
    show zy_V X M_X3_readGrade 20 P (46 + 3) [.ref v0, .ref v1, .null] [.ref q11.1] (q11.2, R, q8.2)
    refine zx_astore_n (pc := 49) (L2 := [.ref v0, .ref v1, .ref q11.1]) d_X3_readGrade_49 (by decide) rfl ?_
    refine zv_aload_n (pc := 50) d_X3_readGrade_50 rfl ?_
    refine zv_aload_n (pc := 51) d_X3_readGrade_51 rfl ?_
    refine zx_getR (pc := 52) d_X3_readGrade_52 lk_CutStones_Reader_21 (by decide) g7 g10 ?_
    refine zx_getI (pc := 55) d_X3_readGrade_55 lk_CutStones_Reader_150 (by decide) g10 ?_
    obtain ⟨g12, hf⟩ := zw_gcE hf (by decide)
    obtain ⟨q13, hq13, hf⟩ := zw_bdE hf
    refine zx_callV (pc := 58) (As := [.int (q11.2 (R v0 2) 14)]) (o := q11.1) (st := []) (d2 := 0) (M2 := M_X5_begin) (P2 := (fun r S => r = none ∧ S = (q13, R, q8.2))) d_X3_readGrade_58 (zw_mG (List.mem_of_getElem? (i := 777) (by decide +kernel)) rfl) ce_X5_begin (zw_RvK g12 rfl rfl) (Nat.le_of_ble_eq_true rfl) rfl (Nat.le_of_ble_eq_true rfl) (by decide) (c_X5_begin X q11.1 (q11.2 (R v0 2) 14) q11.2 R q8.2 _ hq13 ⟨rfl, rfl⟩) ?_
    rintro _ _ ⟨rfl, rfl⟩
    show zy_V X M_X3_readGrade 20 P (58 + 3) [.ref v0, .ref v1, .ref q11.1] [] (q13, R, q8.2)
    refine zv_aload_n (pc := 61) d_X3_readGrade_61 rfl ?_
    refine zv_aload_n (pc := 62) d_X3_readGrade_62 rfl ?_
    obtain ⟨q14, hq14, hf⟩ := zw_bdE hf
    refine zx_callV (pc := 63) (As := [.ref v1]) (o := v0) (st := []) (d2 := 19) (M2 := M_X3_readCondition) (P2 := (fun r S => r = none ∧ S = (q14, R, q8.2))) d_X3_readGrade_63 (zw_mG (List.mem_of_getElem? (i := 781) (by decide +kernel)) rfl) ce_X3_readCondition (zw_RvK g7 rfl rfl) (Nat.le_of_ble_eq_true rfl) rfl (Nat.le_of_ble_eq_true rfl) (by decide) (c_X3_readCondition X v0 v1 q13 R q8.2 _ hq14 ⟨rfl, rfl⟩) ?_
    rintro _ _ ⟨rfl, rfl⟩
    show zy_V X M_X3_readGrade 20 P (63 + 3) [.ref v0, .ref v1, .ref q11.1] [] (q14, R, q8.2)
    refine zv_aload_n (pc := 66) d_X3_readGrade_66 rfl ?_
    refine zv_aload_n (pc := 67) d_X3_readGrade_67 rfl ?_
    refine zx_getR (pc := 68) d_X3_readGrade_68 lk_CutStones_Reader_21 (by decide) g7 g10 ?_
    refine zx_getI (pc := 71) d_X3_readGrade_71 lk_CutStones_Reader_150 (by decide) g10 ?_
    obtain ⟨I15, eI15, hf⟩ := zw_letE hf
    refine zx_putI (pc := 74) (I2 := I15) d_X3_readGrade_74 lk_CutStones_Reader_162 rfl g12 eI15 ?_
    refine zv_aload_n (pc := 77) d_X3_readGrade_77 rfl ?_
    refine zv_aload_n (pc := 78) d_X3_readGrade_78 rfl ?_
    refine zv_iconst (pc := 79) d_X3_readGrade_79 zc_i_5 ?_
    refine zv_iconst (pc := 80) d_X3_readGrade_80 zc_i_1 ?_
    obtain ⟨q16, hq16, hf⟩ := zw_bdE hf
    refine zx_callV (pc := 81) (As := [.ref v1, .int 5, .int 1]) (o := v0) (st := []) (d2 := 0) (M2 := M_X3_take) (P2 := (fun r S => r = (some (.int q16.1)) ∧ S = (q16.2, R, q8.2))) d_X3_readGrade_81 (zw_mG (List.mem_of_getElem? (i := 707) (by decide +kernel)) rfl) ce_X3_take (zw_RvK g7 rfl rfl) (Nat.le_of_ble_eq_true rfl) rfl (Nat.le_of_ble_eq_true rfl) (by decide) (c_X3_take X v0 v1 5 1 I15 R q8.2 _ hq16 ⟨rfl, rfl⟩) ?_
    rintro _ _ ⟨rfl, rfl⟩
    show zy_V X M_X3_readGrade 20 P (81 + 3) [.ref v0, .ref v1, .ref q11.1] [.int q16.1] (q16.2, R, q8.2)
    refine zv_pop (pc := 84) d_X3_readGrade_84 rfl ?_
    cases hf
    exact zx_vret (pc := 85) d_X3_readGrade_85 rfl hk
  · refine zv_if_ne (pc := 24) (tg := 28) d_X3_readGrade_24 (by decide) (fun q => absurd q c6) (fun _ => ?_)
    cases hf
    exact zx_vret (pc := 27) d_X3_readGrade_27 rfl hk
def f_X3_readGrade (v0 : Nat) (v1 : Nat) (I : zI) (R : zR) (J : zJ) : Option (zI × zJ) :=
  zw_g (zw_gc v0 3) (zw_g (zw_gc (R v0 2) 1) (if 8 ≤ (I (R v0 2) 7) then j_X3_readGrade_21 v0 v1 v0 v1 21 0 I R J else j_X3_readGrade_21 v0 v1 v0 v1 21 1 I R J))
theorem c_X3_readGrade (X : zw_X) (v0 : Nat) (v1 : Nat) (I : zI) (R : zR) (J : zJ) {P : Option Value → aS → Prop} (o : zI × zJ) (hf : f_X3_readGrade v0 v1 I R J = some o) (hk : P none (o.1, R, o.2)) : zw_C X M_X3_readGrade 20 0 0 199 [.ref v0, .ref v1] (I, R, J) P := by
  show zy_V X M_X3_readGrade 20 P 0 [.ref v0, .ref v1, .null] [] (I, R, J)
  unfold f_X3_readGrade at hf
  refine zv_aload_n (pc := 0) d_X3_readGrade_0 rfl ?_
  refine zv_aload_n (pc := 1) d_X3_readGrade_1 rfl ?_
  refine zv_bipush (pc := 2) d_X3_readGrade_2 zc_b_21 ?_
  refine zv_aload_n (pc := 4) d_X3_readGrade_4 rfl ?_
  obtain ⟨g1, hf⟩ := zw_gcE hf (by decide)
  obtain ⟨g2, hf⟩ := zw_gcE hf (by decide)
  refine zx_getR (pc := 5) d_X3_readGrade_5 lk_CutStones_Reader_21 (by decide) g1 g2 ?_
  refine zx_getI (pc := 8) d_X3_readGrade_8 lk_CutStones_Reader_143 (by decide) g2 ?_
  refine zv_bipush (pc := 11) d_X3_readGrade_11 zc_b_8 ?_
  rcases zw_ifE hf with ⟨c3, hf⟩ | ⟨c3, hf⟩
  · refine zv_icmp_ge (pc := 13) (tg := 20) d_X3_readGrade_13 (by decide) (fun _ => ?_) (fun q => absurd c3 q)
    refine zv_iconst (pc := 20) d_X3_readGrade_20 zc_i_0 ?_
    exact zx_weak (zw_leS (zw_leS (zw_leN zw_leZ))) (j_X3_readGrade_21_ok X P v0 v1 v0 v1 21 0 I R J _ hf hk)
  · refine zv_icmp_ge (pc := 13) (tg := 20) d_X3_readGrade_13 (by decide) (fun q => absurd q c3) (fun _ => ?_)
    refine zv_iconst (pc := 16) d_X3_readGrade_16 zc_i_1 ?_
    refine zv_goto (pc := 17) (tg := 21) d_X3_readGrade_17 (by decide) ?_
    exact zx_weak (zw_leS (zw_leS (zw_leN zw_leZ))) (j_X3_readGrade_21_ok X P v0 v1 v0 v1 21 1 I R J _ hf hk)
abbrev M_X3_readPrice : zw_M := (⟨"CutStones$Reader", "readPrice", "(LCutStones$Tape;)V"⟩, prog_5_method_15_code, 3, (Option.none : Option Jvm.ClassFile.FieldType))
theorem d_X3_readPrice_0 : decode M_X3_readPrice.2.1 0 = .ok (.aload_n 0, 1) := by decide +kernel
theorem d_X3_readPrice_1 : decode M_X3_readPrice.2.1 1 = .ok (.aload_n 1, 1) := by decide +kernel
theorem d_X3_readPrice_2 : decode M_X3_readPrice.2.1 2 = .ok (.bipush 22, 2) := by decide +kernel
theorem d_X3_readPrice_4 : decode M_X3_readPrice.2.1 4 = .ok (.aload_n 0, 1) := by decide +kernel
theorem d_X3_readPrice_5 : decode M_X3_readPrice.2.1 5 = .ok (.getfield 21, 3) := by decide +kernel
theorem d_X3_readPrice_8 : decode M_X3_readPrice.2.1 8 = .ok (.getfield 165, 3) := by decide +kernel
theorem d_X3_readPrice_11 : decode M_X3_readPrice.2.1 11 = .ok (.bipush 8, 2) := by decide +kernel
theorem d_X3_readPrice_13 : decode M_X3_readPrice.2.1 13 = .ok (.if_icmp .ge 7, 3) := by decide +kernel
theorem d_X3_readPrice_16 : decode M_X3_readPrice.2.1 16 = .ok (.iconst 1, 1) := by decide +kernel
theorem d_X3_readPrice_17 : decode M_X3_readPrice.2.1 17 = .ok (.goto 4, 3) := by decide +kernel
theorem d_X3_readPrice_20 : decode M_X3_readPrice.2.1 20 = .ok (.iconst 0, 1) := by decide +kernel
theorem d_X3_readPrice_21 : decode M_X3_readPrice.2.1 21 = .ok (.invokevirtual 66, 3) := by decide +kernel
theorem d_X3_readPrice_24 : decode M_X3_readPrice.2.1 24 = .ok (.ifCond .ne 4, 3) := by decide +kernel
theorem d_X3_readPrice_27 : decode M_X3_readPrice.2.1 27 = .ok (.return_, 1) := by decide +kernel
theorem d_X3_readPrice_28 : decode M_X3_readPrice.2.1 28 = .ok (.aload_n 0, 1) := by decide +kernel
theorem d_X3_readPrice_29 : decode M_X3_readPrice.2.1 29 = .ok (.aload_n 1, 1) := by decide +kernel
theorem d_X3_readPrice_30 : decode M_X3_readPrice.2.1 30 = .ok (.invokevirtual 81, 3) := by decide +kernel
theorem d_X3_readPrice_33 : decode M_X3_readPrice.2.1 33 = .ok (.aload_n 0, 1) := by decide +kernel
theorem d_X3_readPrice_34 : decode M_X3_readPrice.2.1 34 = .ok (.getfield 21, 3) := by decide +kernel
theorem d_X3_readPrice_37 : decode M_X3_readPrice.2.1 37 = .ok (.invokevirtual 168, 3) := by decide +kernel
theorem d_X3_readPrice_40 : decode M_X3_readPrice.2.1 40 = .ok (.astore_n 2, 1) := by decide +kernel
theorem d_X3_readPrice_41 : decode M_X3_readPrice.2.1 41 = .ok (.aload_n 2, 1) := by decide +kernel
theorem d_X3_readPrice_42 : decode M_X3_readPrice.2.1 42 = .ok (.aload_n 0, 1) := by decide +kernel
theorem d_X3_readPrice_43 : decode M_X3_readPrice.2.1 43 = .ok (.getfield 21, 3) := by decide +kernel
theorem d_X3_readPrice_46 : decode M_X3_readPrice.2.1 46 = .ok (.getfield 150, 3) := by decide +kernel
theorem d_X3_readPrice_49 : decode M_X3_readPrice.2.1 49 = .ok (.invokevirtual 153, 3) := by decide +kernel
theorem d_X3_readPrice_52 : decode M_X3_readPrice.2.1 52 = .ok (.aload_n 0, 1) := by decide +kernel
theorem d_X3_readPrice_53 : decode M_X3_readPrice.2.1 53 = .ok (.aload_n 1, 1) := by decide +kernel
theorem d_X3_readPrice_54 : decode M_X3_readPrice.2.1 54 = .ok (.iconst 0, 1) := by decide +kernel
theorem d_X3_readPrice_55 : decode M_X3_readPrice.2.1 55 = .ok (.invokevirtual 171, 3) := by decide +kernel
theorem d_X3_readPrice_58 : decode M_X3_readPrice.2.1 58 = .ok (.aload_n 2, 1) := by decide +kernel
theorem d_X3_readPrice_59 : decode M_X3_readPrice.2.1 59 = .ok (.aload_n 0, 1) := by decide +kernel
theorem d_X3_readPrice_60 : decode M_X3_readPrice.2.1 60 = .ok (.getfield 21, 3) := by decide +kernel
theorem d_X3_readPrice_63 : decode M_X3_readPrice.2.1 63 = .ok (.getfield 150, 3) := by decide +kernel
theorem d_X3_readPrice_66 : decode M_X3_readPrice.2.1 66 = .ok (.putfield 175, 3) := by decide +kernel
theorem d_X3_readPrice_69 : decode M_X3_readPrice.2.1 69 = .ok (.aload_n 0, 1) := by decide +kernel
theorem d_X3_readPrice_70 : decode M_X3_readPrice.2.1 70 = .ok (.aload_n 1, 1) := by decide +kernel
theorem d_X3_readPrice_71 : decode M_X3_readPrice.2.1 71 = .ok (.invokevirtual 98, 3) := by decide +kernel
theorem d_X3_readPrice_74 : decode M_X3_readPrice.2.1 74 = .ok (.bipush 24, 2) := by decide +kernel
theorem d_X3_readPrice_76 : decode M_X3_readPrice.2.1 76 = .ok (.if_icmp .ne 19, 3) := by decide +kernel
theorem d_X3_readPrice_79 : decode M_X3_readPrice.2.1 79 = .ok (.aload_n 0, 1) := by decide +kernel
theorem d_X3_readPrice_80 : decode M_X3_readPrice.2.1 80 = .ok (.aload_n 1, 1) := by decide +kernel
theorem d_X3_readPrice_81 : decode M_X3_readPrice.2.1 81 = .ok (.bipush 24, 2) := by decide +kernel
theorem d_X3_readPrice_83 : decode M_X3_readPrice.2.1 83 = .ok (.iconst 1, 1) := by decide +kernel
theorem d_X3_readPrice_84 : decode M_X3_readPrice.2.1 84 = .ok (.invokevirtual 66, 3) := by decide +kernel
theorem d_X3_readPrice_87 : decode M_X3_readPrice.2.1 87 = .ok (.ifCond .eq 8, 3) := by decide +kernel
theorem d_X3_readPrice_90 : decode M_X3_readPrice.2.1 90 = .ok (.aload_n 0, 1) := by decide +kernel
theorem d_X3_readPrice_91 : decode M_X3_readPrice.2.1 91 = .ok (.aload_n 1, 1) := by decide +kernel
theorem d_X3_readPrice_92 : decode M_X3_readPrice.2.1 92 = .ok (.invokevirtual 159, 3) := by decide +kernel
theorem d_X3_readPrice_95 : decode M_X3_readPrice.2.1 95 = .ok (.aload_n 2, 1) := by decide +kernel
theorem d_X3_readPrice_96 : decode M_X3_readPrice.2.1 96 = .ok (.aload_n 0, 1) := by decide +kernel
theorem d_X3_readPrice_97 : decode M_X3_readPrice.2.1 97 = .ok (.getfield 21, 3) := by decide +kernel
theorem d_X3_readPrice_100 : decode M_X3_readPrice.2.1 100 = .ok (.getfield 150, 3) := by decide +kernel
theorem d_X3_readPrice_103 : decode M_X3_readPrice.2.1 103 = .ok (.putfield 162, 3) := by decide +kernel
theorem d_X3_readPrice_106 : decode M_X3_readPrice.2.1 106 = .ok (.aload_n 0, 1) := by decide +kernel
theorem d_X3_readPrice_107 : decode M_X3_readPrice.2.1 107 = .ok (.aload_n 1, 1) := by decide +kernel
theorem d_X3_readPrice_108 : decode M_X3_readPrice.2.1 108 = .ok (.iconst 5, 1) := by decide +kernel
theorem d_X3_readPrice_109 : decode M_X3_readPrice.2.1 109 = .ok (.iconst 1, 1) := by decide +kernel
theorem d_X3_readPrice_110 : decode M_X3_readPrice.2.1 110 = .ok (.invokevirtual 66, 3) := by decide +kernel
theorem d_X3_readPrice_113 : decode M_X3_readPrice.2.1 113 = .ok (.pop, 1) := by decide +kernel
theorem d_X3_readPrice_114 : decode M_X3_readPrice.2.1 114 = .ok (.return_, 1) := by decide +kernel
theorem ce_X3_readPrice : zw_CeV M_X3_readPrice 1 := ⟨⟨⟨by decide +kernel, by decide +kernel, by decide +kernel⟩, (zw_mG (List.mem_of_getElem? (i := 804) (by decide +kernel)) rfl), (zw_mG (List.mem_of_getElem? (i := 98) (by decide +kernel)) rfl), by decide, by decide +kernel⟩, (zw_mG (List.mem_of_getElem? (i := 803) (by decide +kernel)) rfl), (zw_mG (List.mem_of_getElem? (i := 19) (by decide +kernel)) rfl)⟩
def j_X3_readPrice_95 (v0 : Nat) (v1 : Nat) (v2 : Nat) (I : zI) (R : zR) (J : zJ) : Option (zI × zJ) :=
  zw_g (zw_gc v0 3) (zw_g (zw_gc (R v0 2) 1) (zw_g (zw_gc v2 5) (zw_let (zw_u I v2 2 (I (R v0 2) 14) : zI) fun I20 => ((f_X3_take v0 v1 5 1 I20 R).bind fun q21 => (some (q21.2, J))))))
theorem j_X3_readPrice_95_ok (X : zw_X) (P : Option Value → aS → Prop) (v0 : Nat) (v1 : Nat) (v2 : Nat) (I : zI) (R : zR) (J : zJ) (o : zI × zJ) (hf : j_X3_readPrice_95 v0 v1 v2 I R J = some o) (hk : P none (o.1, R, o.2)) : zy_V X M_X3_readPrice 20 P 95 [.ref v0, .ref v1, .ref v2] [] (I, R, J) := by
  unfold j_X3_readPrice_95 at hf
  refine zv_aload_n (pc := 95) d_X3_readPrice_95 rfl ?_
  refine zv_aload_n (pc := 96) d_X3_readPrice_96 rfl ?_
  obtain ⟨g17, hf⟩ := zw_gcE hf (by decide)
  obtain ⟨g18, hf⟩ := zw_gcE hf (by decide)
  refine zx_getR (pc := 97) d_X3_readPrice_97 lk_CutStones_Reader_21 (by decide) g17 g18 ?_
  refine zx_getI (pc := 100) d_X3_readPrice_100 lk_CutStones_Reader_150 (by decide) g18 ?_
  obtain ⟨g19, hf⟩ := zw_gcE hf (by decide)
  obtain ⟨I20, eI20, hf⟩ := zw_letE hf
  refine zx_putI (pc := 103) (I2 := I20) d_X3_readPrice_103 lk_CutStones_Reader_162 rfl g19 eI20 ?_
  refine zv_aload_n (pc := 106) d_X3_readPrice_106 rfl ?_
  refine zv_aload_n (pc := 107) d_X3_readPrice_107 rfl ?_
  refine zv_iconst (pc := 108) d_X3_readPrice_108 zc_i_5 ?_
  refine zv_iconst (pc := 109) d_X3_readPrice_109 zc_i_1 ?_
  obtain ⟨q21, hq21, hf⟩ := zw_bdE hf
  refine zx_callV (pc := 110) (As := [.ref v1, .int 5, .int 1]) (o := v0) (st := []) (d2 := 0) (M2 := M_X3_take) (P2 := (fun r S => r = (some (.int q21.1)) ∧ S = (q21.2, R, J))) d_X3_readPrice_110 (zw_mG (List.mem_of_getElem? (i := 707) (by decide +kernel)) rfl) ce_X3_take (zw_RvK g17 rfl rfl) (Nat.le_of_ble_eq_true rfl) rfl (Nat.le_of_ble_eq_true rfl) (by decide) (c_X3_take X v0 v1 5 1 I20 R J _ hq21 ⟨rfl, rfl⟩) ?_
  rintro _ _ ⟨rfl, rfl⟩
  show zy_V X M_X3_readPrice 20 P (110 + 3) [.ref v0, .ref v1, .ref v2] [.int q21.1] (q21.2, R, J)
  refine zv_pop (pc := 113) d_X3_readPrice_113 rfl ?_
  cases hf
  exact zx_vret (pc := 114) d_X3_readPrice_114 rfl hk
def j_X3_readPrice_21 (v0 : Nat) (v1 : Nat) (s0 : Nat) (s1 : Nat) (s2 : Int32) (s3 : Int32) (I : zI) (R : zR) (J : zJ) : Option (zI × zJ) :=
  zw_g (zw_gc s0 3) ((f_X3_take s0 s1 s2 s3 I R).bind fun q5 => (if ¬ q5.1 = 0 then zw_g (zw_gc v0 3) ((f_X3_takeName v0 v1 q5.2 R J).bind fun q8 => (zw_g (zw_gc (R v0 2) 1) ((f_X1_addPrice (R v0 2) q8.1 R).bind fun q10 => (zw_g (zw_gc q10.1 5) ((f_X5_begin q10.1 (q10.2 (R v0 2) 14) q10.2).bind fun q12 => ((r_X3_readSum 8 v0 v1 0 q12 R q8.2).bind fun q13 => (zw_let (zw_u q13 q10.1 1 (q13 (R v0 2) 14) : zI) fun I14 => ((f_X3_kind v0 v1 I14 R).bind fun q15 => (if ¬ q15 = 24 then j_X3_readPrice_95 v0 v1 q10.1 I14 R q8.2 else (f_X3_take v0 v1 24 1 I14 R).bind fun q22 => (if q22.1 = 0 then j_X3_readPrice_95 v0 v1 q10.1 q22.2 R q8.2 else (f_X3_readCondition v0 v1 q22.2 R q8.2).bind fun q24 => (j_X3_readPrice_95 v0 v1 q10.1 q24 R q8.2))))))))))) else some (q5.2, J)))
theorem j_X3_readPrice_21_ok (X : zw_X) (P : Option Value → aS → Prop) (v0 : Nat) (v1 : Nat) (s0 : Nat) (s1 : Nat) (s2 : Int32) (s3 : Int32) (I : zI) (R : zR) (J : zJ) (o : zI × zJ) (hf : j_X3_readPrice_21 v0 v1 s0 s1 s2 s3 I R J = some o) (hk : P none (o.1, R, o.2)) : zy_V X M_X3_readPrice 20 P 21 [.ref v0, .ref v1, .null] [.int s3, .int s2, .ref s1, .ref s0] (I, R, J) := by
  unfold j_X3_readPrice_21 at hf
  obtain ⟨g4, hf⟩ := zw_gcE hf (by decide)
  obtain ⟨q5, hq5, hf⟩ := zw_bdE hf
  refine zx_callV (pc := 21) (As := [.ref s1, .int s2, .int s3]) (o := s0) (st := []) (d2 := 0) (M2 := M_X3_take) (P2 := (fun r S => r = (some (.int q5.1)) ∧ S = (q5.2, R, J))) d_X3_readPrice_21 (zw_mG (List.mem_of_getElem? (i := 707) (by decide +kernel)) rfl) ce_X3_take (zw_RvK g4 rfl rfl) (Nat.le_of_ble_eq_true rfl) rfl (Nat.le_of_ble_eq_true rfl) (by decide) (c_X3_take X s0 s1 s2 s3 I R J _ hq5 ⟨rfl, rfl⟩) ?_
  rintro _ _ ⟨rfl, rfl⟩
  show zy_V X M_X3_readPrice 20 P (21 + 3) [.ref v0, .ref v1, .null] [.int q5.1] (q5.2, R, J)
  rcases zw_ifE hf with ⟨c6, hf⟩ | ⟨c6, hf⟩
  · refine zv_if_ne (pc := 24) (tg := 28) d_X3_readPrice_24 (by decide) (fun _ => ?_) (fun q => absurd q c6)
    refine zv_aload_n (pc := 28) d_X3_readPrice_28 rfl ?_
    refine zv_aload_n (pc := 29) d_X3_readPrice_29 rfl ?_
    obtain ⟨g7, hf⟩ := zw_gcE hf (by decide)
    obtain ⟨q8, hq8, hf⟩ := zw_bdE hf
    refine zx_callV (pc := 30) (As := [.ref v1]) (o := v0) (st := []) (d2 := 1) (M2 := M_X3_takeName) (P2 := (fun r S => r = none ∧ S = (q8.1, R, q8.2))) d_X3_readPrice_30 (zw_mG (List.mem_of_getElem? (i := 723) (by decide +kernel)) rfl) ce_X3_takeName (zw_RvK g7 rfl rfl) (Nat.le_of_ble_eq_true rfl) rfl (Nat.le_of_ble_eq_true rfl) (by decide) (c_X3_takeName X v0 v1 q5.2 R J _ hq8 ⟨rfl, rfl⟩) ?_
    rintro _ _ ⟨rfl, rfl⟩
    show zy_V X M_X3_readPrice 20 P (30 + 3) [.ref v0, .ref v1, .null] [] (q8.1, R, q8.2)
    refine zv_aload_n (pc := 33) d_X3_readPrice_33 rfl ?_
    obtain ⟨g9, hf⟩ := zw_gcE hf (by decide)
    refine zx_getR (pc := 34) d_X3_readPrice_34 lk_CutStones_Reader_21 (by decide) g7 g9 ?_
    obtain ⟨q10, hq10, hf⟩ := zw_bdE hf
    refine zx_callV (pc := 37) (As := []) (o := (R v0 2)) (st := []) (d2 := 0) (M2 := M_X1_addPrice) (P2 := (fun r S => r = (some (.ref q10.1)) ∧ S = (q10.2, R, q8.2))) d_X3_readPrice_37 (zw_mG (List.mem_of_getElem? (i := 805) (by decide +kernel)) rfl) ce_X1_addPrice (zw_RvK g9 rfl rfl) (Nat.le_of_ble_eq_true rfl) rfl (Nat.le_of_ble_eq_true rfl) (by decide) (c_X1_addPrice X (R v0 2) q8.1 R q8.2 _ hq10 ⟨rfl, rfl⟩) ?_
    rintro _ _ ⟨rfl, rfl⟩
    show zy_V X M_X3_readPrice 20 P (37 + 3) [.ref v0, .ref v1, .null] [.ref q10.1] (q10.2, R, q8.2)
    refine zx_astore_n (pc := 40) (L2 := [.ref v0, .ref v1, .ref q10.1]) d_X3_readPrice_40 (by decide) rfl ?_
    refine zv_aload_n (pc := 41) d_X3_readPrice_41 rfl ?_
    refine zv_aload_n (pc := 42) d_X3_readPrice_42 rfl ?_
    refine zx_getR (pc := 43) d_X3_readPrice_43 lk_CutStones_Reader_21 (by decide) g7 g9 ?_
    refine zx_getI (pc := 46) d_X3_readPrice_46 lk_CutStones_Reader_150 (by decide) g9 ?_
    obtain ⟨g11, hf⟩ := zw_gcE hf (by decide)
    obtain ⟨q12, hq12, hf⟩ := zw_bdE hf
    refine zx_callV (pc := 49) (As := [.int (q10.2 (R v0 2) 14)]) (o := q10.1) (st := []) (d2 := 0) (M2 := M_X5_begin) (P2 := (fun r S => r = none ∧ S = (q12, R, q8.2))) d_X3_readPrice_49 (zw_mG (List.mem_of_getElem? (i := 777) (by decide +kernel)) rfl) ce_X5_begin (zw_RvK g11 rfl rfl) (Nat.le_of_ble_eq_true rfl) rfl (Nat.le_of_ble_eq_true rfl) (by decide) (c_X5_begin X q10.1 (q10.2 (R v0 2) 14) q10.2 R q8.2 _ hq12 ⟨rfl, rfl⟩) ?_
    rintro _ _ ⟨rfl, rfl⟩
    show zy_V X M_X3_readPrice 20 P (49 + 3) [.ref v0, .ref v1, .ref q10.1] [] (q12, R, q8.2)
    refine zv_aload_n (pc := 52) d_X3_readPrice_52 rfl ?_
    refine zv_aload_n (pc := 53) d_X3_readPrice_53 rfl ?_
    refine zv_iconst (pc := 54) d_X3_readPrice_54 zc_i_0 ?_
    obtain ⟨q13, hq13, hf⟩ := zw_bdE hf
    refine zx_callV (pc := 55) (As := [.ref v1, .int 0]) (o := v0) (st := []) (d2 := (1 + 2 * 8)) (M2 := M_X3_readSum) (P2 := (fun r S => r = none ∧ S = (q13, R, q8.2))) d_X3_readPrice_55 (zw_mG (List.mem_of_getElem? (i := 789) (by decide +kernel)) rfl) ce_X3_readSum (zw_RvK g7 rfl rfl) (Nat.le_of_ble_eq_true rfl) rfl (Nat.le_of_ble_eq_true rfl) (by decide) (c_r_readSum X 8 v0 v1 0 q12 R q8.2 _ hq13 ⟨rfl, rfl⟩) ?_
    rintro _ _ ⟨rfl, rfl⟩
    show zy_V X M_X3_readPrice 20 P (55 + 3) [.ref v0, .ref v1, .ref q10.1] [] (q13, R, q8.2)
    refine zv_aload_n (pc := 58) d_X3_readPrice_58 rfl ?_
    refine zv_aload_n (pc := 59) d_X3_readPrice_59 rfl ?_
    refine zx_getR (pc := 60) d_X3_readPrice_60 lk_CutStones_Reader_21 (by decide) g7 g9 ?_
    refine zx_getI (pc := 63) d_X3_readPrice_63 lk_CutStones_Reader_150 (by decide) g9 ?_
    obtain ⟨I14, eI14, hf⟩ := zw_letE hf
    refine zx_putI (pc := 66) (I2 := I14) d_X3_readPrice_66 lk_CutStones_Reader_175 rfl g11 eI14 ?_
    refine zv_aload_n (pc := 69) d_X3_readPrice_69 rfl ?_
    refine zv_aload_n (pc := 70) d_X3_readPrice_70 rfl ?_
    obtain ⟨q15, hq15, hf⟩ := zw_bdE hf
    refine zx_callV (pc := 71) (As := [.ref v1]) (o := v0) (st := []) (d2 := 0) (M2 := M_X3_kind) (P2 := (fun r S => r = (some (.int q15)) ∧ S = (I14, R, q8.2))) d_X3_readPrice_71 (zw_mG (List.mem_of_getElem? (i := 746) (by decide +kernel)) rfl) ce_X3_kind (zw_RvK g7 rfl rfl) (Nat.le_of_ble_eq_true rfl) rfl (Nat.le_of_ble_eq_true rfl) (by decide) (c_X3_kind X v0 v1 I14 R q8.2 _ hq15 ⟨rfl, rfl⟩) ?_
    rintro _ _ ⟨rfl, rfl⟩
    show zy_V X M_X3_readPrice 20 P (71 + 3) [.ref v0, .ref v1, .ref q10.1] [.int q15] (I14, R, q8.2)
    refine zv_bipush (pc := 74) d_X3_readPrice_74 zc_b_24 ?_
    rcases zw_ifE hf with ⟨c16, hf⟩ | ⟨c16, hf⟩
    · refine zv_icmp_ne (pc := 76) (tg := 95) d_X3_readPrice_76 (by decide) (fun _ => ?_) (fun q => absurd q c16)
      exact zx_weak (zw_leS (zw_leS (zw_leS zw_leZ))) (j_X3_readPrice_95_ok X P v0 v1 q10.1 I14 R q8.2 _ hf hk)
    · refine zv_icmp_ne (pc := 76) (tg := 95) d_X3_readPrice_76 (by decide) (fun q => absurd q c16) (fun _ => ?_)
      refine zv_aload_n (pc := 79) d_X3_readPrice_79 rfl ?_
      refine zv_aload_n (pc := 80) d_X3_readPrice_80 rfl ?_
      refine zv_bipush (pc := 81) d_X3_readPrice_81 zc_b_24 ?_
      refine zv_iconst (pc := 83) d_X3_readPrice_83 zc_i_1 ?_
      obtain ⟨q22, hq22, hf⟩ := zw_bdE hf
      refine zx_callV (pc := 84) (As := [.ref v1, .int 24, .int 1]) (o := v0) (st := []) (d2 := 0) (M2 := M_X3_take) (P2 := (fun r S => r = (some (.int q22.1)) ∧ S = (q22.2, R, q8.2))) d_X3_readPrice_84 (zw_mG (List.mem_of_getElem? (i := 707) (by decide +kernel)) rfl) ce_X3_take (zw_RvK g7 rfl rfl) (Nat.le_of_ble_eq_true rfl) rfl (Nat.le_of_ble_eq_true rfl) (by decide) (c_X3_take X v0 v1 24 1 I14 R q8.2 _ hq22 ⟨rfl, rfl⟩) ?_
      rintro _ _ ⟨rfl, rfl⟩
      show zy_V X M_X3_readPrice 20 P (84 + 3) [.ref v0, .ref v1, .ref q10.1] [.int q22.1] (q22.2, R, q8.2)
      rcases zw_ifE hf with ⟨c23, hf⟩ | ⟨c23, hf⟩
      · refine zv_if_eq (pc := 87) (tg := 95) d_X3_readPrice_87 (by decide) (fun _ => ?_) (fun q => absurd c23 q)
        exact zx_weak (zw_leS (zw_leS (zw_leS zw_leZ))) (j_X3_readPrice_95_ok X P v0 v1 q10.1 q22.2 R q8.2 _ hf hk)
      · refine zv_if_eq (pc := 87) (tg := 95) d_X3_readPrice_87 (by decide) (fun q => absurd q c23) (fun _ => ?_)
        refine zv_aload_n (pc := 90) d_X3_readPrice_90 rfl ?_
        refine zv_aload_n (pc := 91) d_X3_readPrice_91 rfl ?_
        obtain ⟨q24, hq24, hf⟩ := zw_bdE hf
        refine zx_callV (pc := 92) (As := [.ref v1]) (o := v0) (st := []) (d2 := 19) (M2 := M_X3_readCondition) (P2 := (fun r S => r = none ∧ S = (q24, R, q8.2))) d_X3_readPrice_92 (zw_mG (List.mem_of_getElem? (i := 781) (by decide +kernel)) rfl) ce_X3_readCondition (zw_RvK g7 rfl rfl) (Nat.le_of_ble_eq_true rfl) rfl (Nat.le_of_ble_eq_true rfl) (by decide) (c_X3_readCondition X v0 v1 q22.2 R q8.2 _ hq24 ⟨rfl, rfl⟩) ?_
        rintro _ _ ⟨rfl, rfl⟩
        show zy_V X M_X3_readPrice 20 P (92 + 3) [.ref v0, .ref v1, .ref q10.1] [] (q24, R, q8.2)
        exact zx_weak (zw_leS (zw_leS (zw_leS zw_leZ))) (j_X3_readPrice_95_ok X P v0 v1 q10.1 q24 R q8.2 _ hf hk)
  · refine zv_if_ne (pc := 24) (tg := 28) d_X3_readPrice_24 (by decide) (fun q => absurd q c6) (fun _ => ?_)
    cases hf
    exact zx_vret (pc := 27) d_X3_readPrice_27 rfl hk
def f_X3_readPrice (v0 : Nat) (v1 : Nat) (I : zI) (R : zR) (J : zJ) : Option (zI × zJ) :=
  zw_g (zw_gc v0 3) (zw_g (zw_gc (R v0 2) 1) (if 8 ≤ (I (R v0 2) 9) then j_X3_readPrice_21 v0 v1 v0 v1 22 0 I R J else j_X3_readPrice_21 v0 v1 v0 v1 22 1 I R J))
theorem c_X3_readPrice (X : zw_X) (v0 : Nat) (v1 : Nat) (I : zI) (R : zR) (J : zJ) {P : Option Value → aS → Prop} (o : zI × zJ) (hf : f_X3_readPrice v0 v1 I R J = some o) (hk : P none (o.1, R, o.2)) : zw_C X M_X3_readPrice 20 0 0 199 [.ref v0, .ref v1] (I, R, J) P := by
  show zy_V X M_X3_readPrice 20 P 0 [.ref v0, .ref v1, .null] [] (I, R, J)
  unfold f_X3_readPrice at hf
  refine zv_aload_n (pc := 0) d_X3_readPrice_0 rfl ?_
  refine zv_aload_n (pc := 1) d_X3_readPrice_1 rfl ?_
  refine zv_bipush (pc := 2) d_X3_readPrice_2 zc_b_22 ?_
  refine zv_aload_n (pc := 4) d_X3_readPrice_4 rfl ?_
  obtain ⟨g1, hf⟩ := zw_gcE hf (by decide)
  obtain ⟨g2, hf⟩ := zw_gcE hf (by decide)
  refine zx_getR (pc := 5) d_X3_readPrice_5 lk_CutStones_Reader_21 (by decide) g1 g2 ?_
  refine zx_getI (pc := 8) d_X3_readPrice_8 lk_CutStones_Reader_165 (by decide) g2 ?_
  refine zv_bipush (pc := 11) d_X3_readPrice_11 zc_b_8 ?_
  rcases zw_ifE hf with ⟨c3, hf⟩ | ⟨c3, hf⟩
  · refine zv_icmp_ge (pc := 13) (tg := 20) d_X3_readPrice_13 (by decide) (fun _ => ?_) (fun q => absurd c3 q)
    refine zv_iconst (pc := 20) d_X3_readPrice_20 zc_i_0 ?_
    exact zx_weak (zw_leS (zw_leS (zw_leN zw_leZ))) (j_X3_readPrice_21_ok X P v0 v1 v0 v1 22 0 I R J _ hf hk)
  · refine zv_icmp_ge (pc := 13) (tg := 20) d_X3_readPrice_13 (by decide) (fun q => absurd q c3) (fun _ => ?_)
    refine zv_iconst (pc := 16) d_X3_readPrice_16 zc_i_1 ?_
    refine zv_goto (pc := 17) (tg := 21) d_X3_readPrice_17 (by decide) ?_
    exact zx_weak (zw_leS (zw_leS (zw_leN zw_leZ))) (j_X3_readPrice_21_ok X P v0 v1 v0 v1 22 1 I R J _ hf hk)
abbrev M_X3_readText : zw_M := (⟨"CutStones$Reader", "readText", "(LCutStones$Tape;)V"⟩, prog_5_method_2_code, 3, (Option.none : Option Jvm.ClassFile.FieldType))
theorem d_X3_readText_0 : decode M_X3_readText.2.1 0 = .ok (.aload_n 0, 1) := by decide +kernel
theorem d_X3_readText_1 : decode M_X3_readText.2.1 1 = .ok (.iconst 0, 1) := by decide +kernel
theorem d_X3_readText_2 : decode M_X3_readText.2.1 2 = .ok (.putfield 9, 3) := by decide +kernel
theorem d_X3_readText_5 : decode M_X3_readText.2.1 5 = .ok (.aload_n 0, 1) := by decide +kernel
theorem d_X3_readText_6 : decode M_X3_readText.2.1 6 = .ok (.iconst (-1), 1) := by decide +kernel
theorem d_X3_readText_7 : decode M_X3_readText.2.1 7 = .ok (.putfield 15, 3) := by decide +kernel
theorem d_X3_readText_10 : decode M_X3_readText.2.1 10 = .ok (.aload_n 0, 1) := by decide +kernel
theorem d_X3_readText_11 : decode M_X3_readText.2.1 11 = .ok (.iconst 0, 1) := by decide +kernel
theorem d_X3_readText_12 : decode M_X3_readText.2.1 12 = .ok (.putfield 28, 3) := by decide +kernel
theorem d_X3_readText_15 : decode M_X3_readText.2.1 15 = .ok (.aload_n 0, 1) := by decide +kernel
theorem d_X3_readText_16 : decode M_X3_readText.2.1 16 = .ok (.iconst (-1), 1) := by decide +kernel
theorem d_X3_readText_17 : decode M_X3_readText.2.1 17 = .ok (.putfield 31, 3) := by decide +kernel
theorem d_X3_readText_20 : decode M_X3_readText.2.1 20 = .ok (.aload_n 0, 1) := by decide +kernel
theorem d_X3_readText_21 : decode M_X3_readText.2.1 21 = .ok (.iconst 0, 1) := by decide +kernel
theorem d_X3_readText_22 : decode M_X3_readText.2.1 22 = .ok (.putfield 25, 3) := by decide +kernel
theorem d_X3_readText_25 : decode M_X3_readText.2.1 25 = .ok (.aload_n 0, 1) := by decide +kernel
theorem d_X3_readText_26 : decode M_X3_readText.2.1 26 = .ok (.getfield 21, 3) := by decide +kernel
theorem d_X3_readText_29 : decode M_X3_readText.2.1 29 = .ok (.invokevirtual 34, 3) := by decide +kernel
theorem d_X3_readText_32 : decode M_X3_readText.2.1 32 = .ok (.iconst 0, 1) := by decide +kernel
theorem d_X3_readText_33 : decode M_X3_readText.2.1 33 = .ok (.istore_n 2, 1) := by decide +kernel
theorem d_X3_readText_34 : decode M_X3_readText.2.1 34 = .ok (.iload_n 2, 1) := by decide +kernel
theorem d_X3_readText_35 : decode M_X3_readText.2.1 35 = .ok (.sipush 500, 3) := by decide +kernel
theorem d_X3_readText_38 : decode M_X3_readText.2.1 38 = .ok (.if_icmp .ge 105, 3) := by decide +kernel
theorem d_X3_readText_41 : decode M_X3_readText.2.1 41 = .ok (.aload_n 0, 1) := by decide +kernel
theorem d_X3_readText_42 : decode M_X3_readText.2.1 42 = .ok (.getfield 9, 3) := by decide +kernel
theorem d_X3_readText_45 : decode M_X3_readText.2.1 45 = .ok (.ifCond .ne 98, 3) := by decide +kernel
theorem d_X3_readText_48 : decode M_X3_readText.2.1 48 = .ok (.aload_n 1, 1) := by decide +kernel
theorem d_X3_readText_49 : decode M_X3_readText.2.1 49 = .ok (.getfield 37, 3) := by decide +kernel
theorem d_X3_readText_52 : decode M_X3_readText.2.1 52 = .ok (.aload_n 0, 1) := by decide +kernel
theorem d_X3_readText_53 : decode M_X3_readText.2.1 53 = .ok (.getfield 25, 3) := by decide +kernel
theorem d_X3_readText_56 : decode M_X3_readText.2.1 56 = .ok (.iaload, 1) := by decide +kernel
theorem d_X3_readText_57 : decode M_X3_readText.2.1 57 = .ok (.ifCond .eq 86, 3) := by decide +kernel
theorem d_X3_readText_60 : decode M_X3_readText.2.1 60 = .ok (.aload_n 1, 1) := by decide +kernel
theorem d_X3_readText_61 : decode M_X3_readText.2.1 61 = .ok (.getfield 37, 3) := by decide +kernel
theorem d_X3_readText_64 : decode M_X3_readText.2.1 64 = .ok (.aload_n 0, 1) := by decide +kernel
theorem d_X3_readText_65 : decode M_X3_readText.2.1 65 = .ok (.getfield 25, 3) := by decide +kernel
theorem d_X3_readText_68 : decode M_X3_readText.2.1 68 = .ok (.iaload, 1) := by decide +kernel
theorem d_X3_readText_69 : decode M_X3_readText.2.1 69 = .ok (.tableswitch 63 19 22 #[31, 39, 47, 55], 31) := by decide +kernel
theorem d_X3_readText_100 : decode M_X3_readText.2.1 100 = .ok (.aload_n 0, 1) := by decide +kernel
theorem d_X3_readText_101 : decode M_X3_readText.2.1 101 = .ok (.aload_n 1, 1) := by decide +kernel
theorem d_X3_readText_102 : decode M_X3_readText.2.1 102 = .ok (.invokevirtual 43, 3) := by decide +kernel
theorem d_X3_readText_105 : decode M_X3_readText.2.1 105 = .ok (.goto 32, 3) := by decide +kernel
theorem d_X3_readText_108 : decode M_X3_readText.2.1 108 = .ok (.aload_n 0, 1) := by decide +kernel
theorem d_X3_readText_109 : decode M_X3_readText.2.1 109 = .ok (.aload_n 1, 1) := by decide +kernel
theorem d_X3_readText_110 : decode M_X3_readText.2.1 110 = .ok (.invokevirtual 47, 3) := by decide +kernel
theorem d_X3_readText_113 : decode M_X3_readText.2.1 113 = .ok (.goto 24, 3) := by decide +kernel
theorem d_X3_readText_116 : decode M_X3_readText.2.1 116 = .ok (.aload_n 0, 1) := by decide +kernel
theorem d_X3_readText_117 : decode M_X3_readText.2.1 117 = .ok (.aload_n 1, 1) := by decide +kernel
theorem d_X3_readText_118 : decode M_X3_readText.2.1 118 = .ok (.invokevirtual 50, 3) := by decide +kernel
theorem d_X3_readText_121 : decode M_X3_readText.2.1 121 = .ok (.goto 16, 3) := by decide +kernel
theorem d_X3_readText_124 : decode M_X3_readText.2.1 124 = .ok (.aload_n 0, 1) := by decide +kernel
theorem d_X3_readText_125 : decode M_X3_readText.2.1 125 = .ok (.aload_n 1, 1) := by decide +kernel
theorem d_X3_readText_126 : decode M_X3_readText.2.1 126 = .ok (.invokevirtual 53, 3) := by decide +kernel
theorem d_X3_readText_129 : decode M_X3_readText.2.1 129 = .ok (.goto 8, 3) := by decide +kernel
theorem d_X3_readText_132 : decode M_X3_readText.2.1 132 = .ok (.aload_n 0, 1) := by decide +kernel
theorem d_X3_readText_133 : decode M_X3_readText.2.1 133 = .ok (.aload_n 1, 1) := by decide +kernel
theorem d_X3_readText_134 : decode M_X3_readText.2.1 134 = .ok (.invokevirtual 56, 3) := by decide +kernel
theorem d_X3_readText_137 : decode M_X3_readText.2.1 137 = .ok (.iinc 2 1, 3) := by decide +kernel
theorem d_X3_readText_140 : decode M_X3_readText.2.1 140 = .ok (.goto (-106), 3) := by decide +kernel
theorem d_X3_readText_143 : decode M_X3_readText.2.1 143 = .ok (.aload_n 0, 1) := by decide +kernel
theorem d_X3_readText_144 : decode M_X3_readText.2.1 144 = .ok (.getfield 9, 3) := by decide +kernel
theorem d_X3_readText_147 : decode M_X3_readText.2.1 147 = .ok (.ifCond .ne 19, 3) := by decide +kernel
theorem d_X3_readText_150 : decode M_X3_readText.2.1 150 = .ok (.aload_n 0, 1) := by decide +kernel
theorem d_X3_readText_151 : decode M_X3_readText.2.1 151 = .ok (.aload_n 0, 1) := by decide +kernel
theorem d_X3_readText_152 : decode M_X3_readText.2.1 152 = .ok (.getfield 28, 3) := by decide +kernel
theorem d_X3_readText_155 : decode M_X3_readText.2.1 155 = .ok (.putfield 9, 3) := by decide +kernel
theorem d_X3_readText_158 : decode M_X3_readText.2.1 158 = .ok (.aload_n 0, 1) := by decide +kernel
theorem d_X3_readText_159 : decode M_X3_readText.2.1 159 = .ok (.aload_n 0, 1) := by decide +kernel
theorem d_X3_readText_160 : decode M_X3_readText.2.1 160 = .ok (.getfield 31, 3) := by decide +kernel
theorem d_X3_readText_163 : decode M_X3_readText.2.1 163 = .ok (.putfield 15, 3) := by decide +kernel
theorem d_X3_readText_166 : decode M_X3_readText.2.1 166 = .ok (.return_, 1) := by decide +kernel
theorem ce_X3_readText : zw_CeV M_X3_readText 1 := ⟨⟨⟨by decide +kernel, by decide +kernel, by decide +kernel⟩, (zw_mG (List.mem_of_getElem? (i := 698) (by decide +kernel)) rfl), (zw_mG (List.mem_of_getElem? (i := 98) (by decide +kernel)) rfl), by decide, by decide +kernel⟩, (zw_mG (List.mem_of_getElem? (i := 696) (by decide +kernel)) rfl), (zw_mG (List.mem_of_getElem? (i := 697) (by decide +kernel)) rfl)⟩
def j_X3_readText_137_34 (v0 : Nat) (v1 : Nat) (v2 : Int32) (I : zI) (R : zR) (J : zJ) : Option ((Int32 × zI × zJ) ⊕ (zI × zJ)) :=
  zw_let (v2 + 1 : Int32) fun x20 => (some (.inl (x20, I, J)))
theorem j_X3_readText_137_34_ok (X : zw_X) (P : Option Value → aS → Prop) (v0 : Nat) (v1 : Nat) (v2 : Int32) (I : zI) (R : zR) (J : zJ) (o : (Int32 × zI × zJ) ⊕ (zI × zJ)) (hf : j_X3_readText_137_34 v0 v1 v2 I R J = some o) (hk : (zw_se (fun t => zy_V X M_X3_readText 21 P 34 [.ref v0, .ref v1, .int t.1] [] (t.2.1, R, t.2.2)) (fun r => zy_V X M_X3_readText 21 P 143 [.ref v0, .null, .null] [] (r.1, R, r.2)) o)) : zy_V X M_X3_readText 21 P 137 [.ref v0, .ref v1, .int v2] [] (I, R, J) := by
  unfold j_X3_readText_137_34 at hf
  obtain ⟨x20, ex20, hf⟩ := zw_letE hf
  refine zx_iinc (pc := 137) (x2 := x20) (L2 := [.ref v0, .ref v1, .int x20]) d_X3_readText_137 (by decide) rfl zc_i_1 ex20 rfl ?_
  refine zv_goto (pc := 140) (tg := 34) d_X3_readText_140 (by decide) ?_
  cases hf
  exact zx_weak (zw_leS (zw_leS (zw_leS zw_leZ))) hk
def s_X3_readText_34 (v0 : Nat) (v1 : Nat) (R : zR) (s : Int32 × zI × zJ) : Option ((Int32 × zI × zJ) ⊕ (zI × zJ)) :=
  if 500 ≤ s.1 then some (.inr (s.2.1, s.2.2)) else zw_g (zw_gc v0 3) (if ¬ (s.2.1 v0 0) = 0 then some (.inr (s.2.1, s.2.2)) else zw_g (zw_gc v1 8) (zw_g (zw_gc (R v1 2) 13) (zw_g (zw_in (s.2.1 v0 3) (zw_SH (R v1 2)).2) (if (s.2.1 (R v1 2) (Int32.toNatClampNeg (s.2.1 v0 3))) = 0 then some (.inr (s.2.1, s.2.2)) else zw_g (zw_in (s.2.1 v0 3) (zw_SH (R v1 2)).2) (zw_let ((s.2.1 (R v1 2) (Int32.toNatClampNeg (s.2.1 v0 3))) : Int32) fun x17 => (if x17 = 19 then (f_X3_readCut v0 v1 s.2.1 R s.2.2).bind fun q19 => (j_X3_readText_137_34 v0 v1 s.1 q19.1 R q19.2) else (if x17 = 20 then (f_X3_readRough v0 v1 s.2.1 R s.2.2).bind fun q22 => (j_X3_readText_137_34 v0 v1 s.1 q22.1 R q22.2) else (if x17 = 21 then (f_X3_readGrade v0 v1 s.2.1 R s.2.2).bind fun q24 => (j_X3_readText_137_34 v0 v1 s.1 q24.1 R q24.2) else (if x17 = 22 then (f_X3_readPrice v0 v1 s.2.1 R s.2.2).bind fun q26 => (j_X3_readText_137_34 v0 v1 s.1 q26.1 R q26.2) else ((f_X3_readStuff v0 v1 s.2.1 R s.2.2).bind fun q27 => (j_X3_readText_137_34 v0 v1 s.1 q27.1 R q27.2)))))))))))
theorem s_X3_readText_34_ok (X : zw_X) (P : Option Value → aS → Prop) (v0 : Nat) (v1 : Nat) (R : zR) (s : Int32 × zI × zJ) (o : (Int32 × zI × zJ) ⊕ (zI × zJ)) (hf : s_X3_readText_34 v0 v1 R s = some o) (hk : (zw_se (fun t => zy_V X M_X3_readText 21 P 34 [.ref v0, .ref v1, .int t.1] [] (t.2.1, R, t.2.2)) (fun r => zy_V X M_X3_readText 21 P 143 [.ref v0, .null, .null] [] (r.1, R, r.2)) o)) : zy_V X M_X3_readText 21 P 34 [.ref v0, .ref v1, .int s.1] [] (s.2.1, R, s.2.2) := by
  unfold s_X3_readText_34 at hf
  refine zv_iload_n (pc := 34) d_X3_readText_34 rfl ?_
  refine zv_sipush (pc := 35) d_X3_readText_35 zc_s_500 ?_
  rcases zw_ifE hf with ⟨c9, hf⟩ | ⟨c9, hf⟩
  · refine zv_icmp_ge (pc := 38) (tg := 143) d_X3_readText_38 (by decide) (fun _ => ?_) (fun q => absurd c9 q)
    cases hf
    exact zx_weak (zw_leS (zw_leN (zw_leN zw_leZ))) hk
  · refine zv_icmp_ge (pc := 38) (tg := 143) d_X3_readText_38 (by decide) (fun q => absurd q c9) (fun _ => ?_)
    refine zv_aload_n (pc := 41) d_X3_readText_41 rfl ?_
    obtain ⟨g10, hf⟩ := zw_gcE hf (by decide)
    refine zx_getI (pc := 42) d_X3_readText_42 lk_CutStones_Reader_9 (by decide) g10 ?_
    rcases zw_ifE hf with ⟨c11, hf⟩ | ⟨c11, hf⟩
    · refine zv_if_ne (pc := 45) (tg := 143) d_X3_readText_45 (by decide) (fun _ => ?_) (fun q => absurd q c11)
      cases hf
      exact zx_weak (zw_leS (zw_leN (zw_leN zw_leZ))) hk
    · refine zv_if_ne (pc := 45) (tg := 143) d_X3_readText_45 (by decide) (fun q => absurd q c11) (fun _ => ?_)
      refine zv_aload_n (pc := 48) d_X3_readText_48 rfl ?_
      obtain ⟨g12, hf⟩ := zw_gcE hf (by decide)
      obtain ⟨g13, hf⟩ := zw_gcE hf (by decide)
      refine zx_getR (pc := 49) d_X3_readText_49 lk_CutStones_Reader_37 (by decide) g12 g13 ?_
      refine zv_aload_n (pc := 52) d_X3_readText_52 rfl ?_
      refine zx_getI (pc := 53) d_X3_readText_53 lk_CutStones_Reader_25 (by decide) g10 ?_
      obtain ⟨i14, hf⟩ := zw_inE hf
      refine zx_iald (pc := 56) d_X3_readText_56 g13 i14 ?_
      rcases zw_ifE hf with ⟨c15, hf⟩ | ⟨c15, hf⟩
      · refine zv_if_eq (pc := 57) (tg := 143) d_X3_readText_57 (by decide) (fun _ => ?_) (fun q => absurd c15 q)
        cases hf
        exact zx_weak (zw_leS (zw_leN (zw_leN zw_leZ))) hk
      · refine zv_if_eq (pc := 57) (tg := 143) d_X3_readText_57 (by decide) (fun q => absurd q c15) (fun _ => ?_)
        refine zv_aload_n (pc := 60) d_X3_readText_60 rfl ?_
        refine zx_getR (pc := 61) d_X3_readText_61 lk_CutStones_Reader_37 (by decide) g12 g13 ?_
        refine zv_aload_n (pc := 64) d_X3_readText_64 rfl ?_
        refine zx_getI (pc := 65) d_X3_readText_65 lk_CutStones_Reader_25 (by decide) g10 ?_
        obtain ⟨i16, hf⟩ := zw_inE hf
        refine zx_iald (pc := 68) d_X3_readText_68 g13 i16 ?_
        obtain ⟨x17, ex17, hf⟩ := zw_letE hf
        rw [← ex17]
        rcases zw_ifE hf with ⟨c18, hf⟩ | ⟨c18, hf⟩
        · refine zx_tsIn (pc := 69) (tg := 100) (z := 31) d_X3_readText_69 (by rw [c18]; decide +kernel) (by rw [c18]; decide +kernel) (by rw [c18]; decide +kernel) (by decide) ?_
          refine zv_aload_n (pc := 100) d_X3_readText_100 rfl ?_
          refine zv_aload_n (pc := 101) d_X3_readText_101 rfl ?_
          obtain ⟨q19, hq19, hf⟩ := zw_bdE hf
          refine zx_callV (pc := 102) (As := [.ref v1]) (o := v0) (st := []) (d2 := 11) (M2 := M_X3_readCut) (P2 := (fun r S => r = none ∧ S = (q19.1, R, q19.2))) d_X3_readText_102 (zw_mG (List.mem_of_getElem? (i := 703) (by decide +kernel)) rfl) ce_X3_readCut (zw_RvK g10 rfl rfl) (Nat.le_of_ble_eq_true rfl) rfl (Nat.le_of_ble_eq_true rfl) (by decide) (c_X3_readCut X v0 v1 s.2.1 R s.2.2 _ hq19 ⟨rfl, rfl⟩) ?_
          rintro _ _ ⟨rfl, rfl⟩
          show zy_V X M_X3_readText 21 P (102 + 3) [.ref v0, .ref v1, .int s.1] [] (q19.1, R, q19.2)
          refine zv_goto (pc := 105) (tg := 137) d_X3_readText_105 (by decide) ?_
          exact zx_weak (zw_leS (zw_leS (zw_leS zw_leZ))) (j_X3_readText_137_34_ok X P v0 v1 s.1 q19.1 R q19.2 _ hf hk)
        ·
          rcases zw_ifE hf with ⟨c21, hf⟩ | ⟨c21, hf⟩
          · refine zx_tsIn (pc := 69) (tg := 108) (z := 39) d_X3_readText_69 (by rw [c21]; decide +kernel) (by rw [c21]; decide +kernel) (by rw [c21]; decide +kernel) (by decide) ?_
            refine zv_aload_n (pc := 108) d_X3_readText_108 rfl ?_
            refine zv_aload_n (pc := 109) d_X3_readText_109 rfl ?_
            obtain ⟨q22, hq22, hf⟩ := zw_bdE hf
            refine zx_callV (pc := 110) (As := [.ref v1]) (o := v0) (st := []) (d2 := 11) (M2 := M_X3_readRough) (P2 := (fun r S => r = none ∧ S = (q22.1, R, q22.2))) d_X3_readText_110 (zw_mG (List.mem_of_getElem? (i := 761) (by decide +kernel)) rfl) ce_X3_readRough (zw_RvK g10 rfl rfl) (Nat.le_of_ble_eq_true rfl) rfl (Nat.le_of_ble_eq_true rfl) (by decide) (c_X3_readRough X v0 v1 s.2.1 R s.2.2 _ hq22 ⟨rfl, rfl⟩) ?_
            rintro _ _ ⟨rfl, rfl⟩
            show zy_V X M_X3_readText 21 P (110 + 3) [.ref v0, .ref v1, .int s.1] [] (q22.1, R, q22.2)
            refine zv_goto (pc := 113) (tg := 137) d_X3_readText_113 (by decide) ?_
            exact zx_weak (zw_leS (zw_leS (zw_leS zw_leZ))) (j_X3_readText_137_34_ok X P v0 v1 s.1 q22.1 R q22.2 _ hf hk)
          ·
            rcases zw_ifE hf with ⟨c23, hf⟩ | ⟨c23, hf⟩
            · refine zx_tsIn (pc := 69) (tg := 116) (z := 47) d_X3_readText_69 (by rw [c23]; decide +kernel) (by rw [c23]; decide +kernel) (by rw [c23]; decide +kernel) (by decide) ?_
              refine zv_aload_n (pc := 116) d_X3_readText_116 rfl ?_
              refine zv_aload_n (pc := 117) d_X3_readText_117 rfl ?_
              obtain ⟨q24, hq24, hf⟩ := zw_bdE hf
              refine zx_callV (pc := 118) (As := [.ref v1]) (o := v0) (st := []) (d2 := 20) (M2 := M_X3_readGrade) (P2 := (fun r S => r = none ∧ S = (q24.1, R, q24.2))) d_X3_readText_118 (zw_mG (List.mem_of_getElem? (i := 769) (by decide +kernel)) rfl) ce_X3_readGrade (zw_RvK g10 rfl rfl) (Nat.le_of_ble_eq_true rfl) rfl (Nat.le_of_ble_eq_true rfl) (by decide) (c_X3_readGrade X v0 v1 s.2.1 R s.2.2 _ hq24 ⟨rfl, rfl⟩) ?_
              rintro _ _ ⟨rfl, rfl⟩
              show zy_V X M_X3_readText 21 P (118 + 3) [.ref v0, .ref v1, .int s.1] [] (q24.1, R, q24.2)
              refine zv_goto (pc := 121) (tg := 137) d_X3_readText_121 (by decide) ?_
              exact zx_weak (zw_leS (zw_leS (zw_leS zw_leZ))) (j_X3_readText_137_34_ok X P v0 v1 s.1 q24.1 R q24.2 _ hf hk)
            ·
              rcases zw_ifE hf with ⟨c25, hf⟩ | ⟨c25, hf⟩
              · refine zx_tsIn (pc := 69) (tg := 124) (z := 55) d_X3_readText_69 (by rw [c25]; decide +kernel) (by rw [c25]; decide +kernel) (by rw [c25]; decide +kernel) (by decide) ?_
                refine zv_aload_n (pc := 124) d_X3_readText_124 rfl ?_
                refine zv_aload_n (pc := 125) d_X3_readText_125 rfl ?_
                obtain ⟨q26, hq26, hf⟩ := zw_bdE hf
                refine zx_callV (pc := 126) (As := [.ref v1]) (o := v0) (st := []) (d2 := 20) (M2 := M_X3_readPrice) (P2 := (fun r S => r = none ∧ S = (q26.1, R, q26.2))) d_X3_readText_126 (zw_mG (List.mem_of_getElem? (i := 801) (by decide +kernel)) rfl) ce_X3_readPrice (zw_RvK g10 rfl rfl) (Nat.le_of_ble_eq_true rfl) rfl (Nat.le_of_ble_eq_true rfl) (by decide) (c_X3_readPrice X v0 v1 s.2.1 R s.2.2 _ hq26 ⟨rfl, rfl⟩) ?_
                rintro _ _ ⟨rfl, rfl⟩
                show zy_V X M_X3_readText 21 P (126 + 3) [.ref v0, .ref v1, .int s.1] [] (q26.1, R, q26.2)
                refine zv_goto (pc := 129) (tg := 137) d_X3_readText_129 (by decide) ?_
                exact zx_weak (zw_leS (zw_leS (zw_leS zw_leZ))) (j_X3_readText_137_34_ok X P v0 v1 s.1 q26.1 R q26.2 _ hf hk)
              ·
                refine zx_tsOut (pc := 69) (tg := 132) d_X3_readText_69 (by have c18 := zw_neI c18 (z := 19) (by decide +kernel); have c21 := zw_neI c21 (z := 20) (by decide +kernel); have c23 := zw_neI c23 (z := 21) (by decide +kernel); have c25 := zw_neI c25 (z := 22) (by decide +kernel); omega) (by decide) ?_
                refine zv_aload_n (pc := 132) d_X3_readText_132 rfl ?_
                refine zv_aload_n (pc := 133) d_X3_readText_133 rfl ?_
                obtain ⟨q27, hq27, hf⟩ := zw_bdE hf
                refine zx_callV (pc := 134) (As := [.ref v1]) (o := v0) (st := []) (d2 := 2) (M2 := M_X3_readStuff) (P2 := (fun r S => r = none ∧ S = (q27.1, R, q27.2))) d_X3_readText_134 (zw_mG (List.mem_of_getElem? (i := 809) (by decide +kernel)) rfl) ce_X3_readStuff (zw_RvK g10 rfl rfl) (Nat.le_of_ble_eq_true rfl) rfl (Nat.le_of_ble_eq_true rfl) (by decide) (c_X3_readStuff X v0 v1 s.2.1 R s.2.2 _ hq27 ⟨rfl, rfl⟩) ?_
                rintro _ _ ⟨rfl, rfl⟩
                show zy_V X M_X3_readText 21 P (134 + 3) [.ref v0, .ref v1, .int s.1] [] (q27.1, R, q27.2)
                exact zx_weak (zw_leS (zw_leS (zw_leS zw_leZ))) (j_X3_readText_137_34_ok X P v0 v1 s.1 q27.1 R q27.2 _ hf hk)
theorem s_X3_readText_34_lp (X : zw_X) (P : Option Value → aS → Prop) (v0 : Nat) (v1 : Nat) (R : zR) (n : Nat) (s : Int32 × zI × zJ) (r : zI × zJ) (h : zw_it (s_X3_readText_34 v0 v1 R) n s = some r) (hq : zy_V X M_X3_readText 21 P 143 [.ref v0, .null, .null] [] (r.1, R, r.2)) : zy_V X M_X3_readText 21 P 34 [.ref v0, .ref v1, .int s.1] [] (s.2.1, R, s.2.2) :=
  zw_itE (A := (fun t : Int32 × zI × zJ => zy_V X M_X3_readText 21 P 34 [.ref v0, .ref v1, .int t.1] [] (t.2.1, R, t.2.2))) (Q := (fun r : zI × zJ => zy_V X M_X3_readText 21 P 143 [.ref v0, .null, .null] [] (r.1, R, r.2))) (fun s o h1 h2 => s_X3_readText_34_ok X P v0 v1 R s o h1 h2) n s r h hq
def j_X3_readText_143 (v0 : Nat) (I : zI) (R : zR) (J : zJ) : Option (zI × zJ) :=
  zw_g (zw_gc v0 3) (if ¬ (I v0 0) = 0 then some (I, J) else zw_let (zw_u I v0 0 (I v0 4) : zI) fun I31 => (zw_let (zw_u I31 v0 1 (I31 v0 5) : zI) fun I32 => (some (I32, J))))
theorem j_X3_readText_143_ok (X : zw_X) (P : Option Value → aS → Prop) (v0 : Nat) (I : zI) (R : zR) (J : zJ) (o : zI × zJ) (hf : j_X3_readText_143 v0 I R J = some o) (hk : P none (o.1, R, o.2)) : zy_V X M_X3_readText 21 P 143 [.ref v0, .null, .null] [] (I, R, J) := by
  unfold j_X3_readText_143 at hf
  refine zv_aload_n (pc := 143) d_X3_readText_143 rfl ?_
  obtain ⟨g29, hf⟩ := zw_gcE hf (by decide)
  refine zx_getI (pc := 144) d_X3_readText_144 lk_CutStones_Reader_9 (by decide) g29 ?_
  rcases zw_ifE hf with ⟨c30, hf⟩ | ⟨c30, hf⟩
  · refine zv_if_ne (pc := 147) (tg := 166) d_X3_readText_147 (by decide) (fun _ => ?_) (fun q => absurd q c30)
    cases hf
    exact zx_vret (pc := 166) d_X3_readText_166 rfl hk
  · refine zv_if_ne (pc := 147) (tg := 166) d_X3_readText_147 (by decide) (fun q => absurd q c30) (fun _ => ?_)
    refine zv_aload_n (pc := 150) d_X3_readText_150 rfl ?_
    refine zv_aload_n (pc := 151) d_X3_readText_151 rfl ?_
    refine zx_getI (pc := 152) d_X3_readText_152 lk_CutStones_Reader_28 (by decide) g29 ?_
    obtain ⟨I31, eI31, hf⟩ := zw_letE hf
    refine zx_putI (pc := 155) (I2 := I31) d_X3_readText_155 lk_CutStones_Reader_9 rfl g29 eI31 ?_
    refine zv_aload_n (pc := 158) d_X3_readText_158 rfl ?_
    refine zv_aload_n (pc := 159) d_X3_readText_159 rfl ?_
    refine zx_getI (pc := 160) d_X3_readText_160 lk_CutStones_Reader_31 (by decide) g29 ?_
    obtain ⟨I32, eI32, hf⟩ := zw_letE hf
    refine zx_putI (pc := 163) (I2 := I32) d_X3_readText_163 lk_CutStones_Reader_15 rfl g29 eI32 ?_
    cases hf
    exact zx_vret (pc := 166) d_X3_readText_166 rfl hk
def f_X3_readText (v0 : Nat) (v1 : Nat) (I : zI) (R : zR) (J : zJ) : Option (zI × zJ) :=
  zw_g (zw_gc v0 3) (zw_let (zw_u I v0 0 0 : zI) fun I2 => (zw_let (zw_u I2 v0 1 (-1) : zI) fun I3 => (zw_let (zw_u I3 v0 4 0 : zI) fun I4 => (zw_let (zw_u I4 v0 5 (-1) : zI) fun I5 => (zw_let (zw_u I5 v0 3 0 : zI) fun I6 => (zw_g (zw_gc (R v0 2) 1) ((f_X1_empty (R v0 2) I6).bind fun q8 => ((zw_it (s_X3_readText_34 v0 v1 R) 1000000 (0, q8, J)).bind fun q28 => (j_X3_readText_143 v0 q28.1 R q28.2)))))))))
theorem c_X3_readText (X : zw_X) (v0 : Nat) (v1 : Nat) (I : zI) (R : zR) (J : zJ) {P : Option Value → aS → Prop} (o : zI × zJ) (hf : f_X3_readText v0 v1 I R J = some o) (hk : P none (o.1, R, o.2)) : zw_C X M_X3_readText 21 0 0 199 [.ref v0, .ref v1] (I, R, J) P := by
  show zy_V X M_X3_readText 21 P 0 [.ref v0, .ref v1, .null] [] (I, R, J)
  unfold f_X3_readText at hf
  refine zv_aload_n (pc := 0) d_X3_readText_0 rfl ?_
  refine zv_iconst (pc := 1) d_X3_readText_1 zc_i_0 ?_
  obtain ⟨g1, hf⟩ := zw_gcE hf (by decide)
  obtain ⟨I2, eI2, hf⟩ := zw_letE hf
  refine zx_putI (pc := 2) (I2 := I2) d_X3_readText_2 lk_CutStones_Reader_9 rfl g1 eI2 ?_
  refine zv_aload_n (pc := 5) d_X3_readText_5 rfl ?_
  refine zv_iconst (pc := 6) d_X3_readText_6 zc_i_m1 ?_
  obtain ⟨I3, eI3, hf⟩ := zw_letE hf
  refine zx_putI (pc := 7) (I2 := I3) d_X3_readText_7 lk_CutStones_Reader_15 rfl g1 eI3 ?_
  refine zv_aload_n (pc := 10) d_X3_readText_10 rfl ?_
  refine zv_iconst (pc := 11) d_X3_readText_11 zc_i_0 ?_
  obtain ⟨I4, eI4, hf⟩ := zw_letE hf
  refine zx_putI (pc := 12) (I2 := I4) d_X3_readText_12 lk_CutStones_Reader_28 rfl g1 eI4 ?_
  refine zv_aload_n (pc := 15) d_X3_readText_15 rfl ?_
  refine zv_iconst (pc := 16) d_X3_readText_16 zc_i_m1 ?_
  obtain ⟨I5, eI5, hf⟩ := zw_letE hf
  refine zx_putI (pc := 17) (I2 := I5) d_X3_readText_17 lk_CutStones_Reader_31 rfl g1 eI5 ?_
  refine zv_aload_n (pc := 20) d_X3_readText_20 rfl ?_
  refine zv_iconst (pc := 21) d_X3_readText_21 zc_i_0 ?_
  obtain ⟨I6, eI6, hf⟩ := zw_letE hf
  refine zx_putI (pc := 22) (I2 := I6) d_X3_readText_22 lk_CutStones_Reader_25 rfl g1 eI6 ?_
  refine zv_aload_n (pc := 25) d_X3_readText_25 rfl ?_
  obtain ⟨g7, hf⟩ := zw_gcE hf (by decide)
  refine zx_getR (pc := 26) d_X3_readText_26 lk_CutStones_Reader_21 (by decide) g1 g7 ?_
  obtain ⟨q8, hq8, hf⟩ := zw_bdE hf
  refine zx_callV (pc := 29) (As := []) (o := (R v0 2)) (st := []) (d2 := 0) (M2 := M_X1_empty) (P2 := (fun r S => r = none ∧ S = (q8, R, J))) d_X3_readText_29 (zw_mG (List.mem_of_getElem? (i := 699) (by decide +kernel)) rfl) ce_X1_empty (zw_RvK g7 rfl rfl) (Nat.le_of_ble_eq_true rfl) rfl (Nat.le_of_ble_eq_true rfl) (by decide) (c_X1_empty X (R v0 2) I6 R J _ hq8 ⟨rfl, rfl⟩) ?_
  rintro _ _ ⟨rfl, rfl⟩
  show zy_V X M_X3_readText 21 P (29 + 3) [.ref v0, .ref v1, .null] [] (q8, R, J)
  refine zv_iconst (pc := 32) d_X3_readText_32 zc_i_0 ?_
  refine zx_istore_n (pc := 33) (x2 := 0) (L2 := [.ref v0, .ref v1, .int 0]) d_X3_readText_33 (by decide) rfl rfl ?_
  obtain ⟨q28, hq28, hf⟩ := zw_bdE hf
  refine zx_weak (L' := [.ref v0, .ref v1, .int 0]) (zw_leS (zw_leS (zw_leS zw_leZ))) (s_X3_readText_34_lp X P v0 v1 R _ _ _ hq28 ?_)
  show zy_V X M_X3_readText 21 P 143 [.ref v0, .null, .null] [] (q28.1, R, q28.2)
  exact zx_weak (zw_leS (zw_leN (zw_leN zw_leZ))) (j_X3_readText_143_ok X P v0 q28.1 R q28.2 _ hf hk)
abbrev M_X10_read : zw_M := (⟨"CutStones", "read", "()I"⟩, prog_1_method_4_code, 1, (Option.some Jvm.ClassFile.FieldType.int))
theorem d_X10_read_0 : decode M_X10_read.2.1 0 = .ok (.aload_n 0, 1) := by decide +kernel
theorem d_X10_read_1 : decode M_X10_read.2.1 1 = .ok (.getfield 10, 3) := by decide +kernel
theorem d_X10_read_4 : decode M_X10_read.2.1 4 = .ok (.invokevirtual 96, 3) := by decide +kernel
theorem d_X10_read_7 : decode M_X10_read.2.1 7 = .ok (.aload_n 0, 1) := by decide +kernel
theorem d_X10_read_8 : decode M_X10_read.2.1 8 = .ok (.getfield 19, 3) := by decide +kernel
theorem d_X10_read_11 : decode M_X10_read.2.1 11 = .ok (.aload_n 0, 1) := by decide +kernel
theorem d_X10_read_12 : decode M_X10_read.2.1 12 = .ok (.getfield 10, 3) := by decide +kernel
theorem d_X10_read_15 : decode M_X10_read.2.1 15 = .ok (.invokevirtual 99, 3) := by decide +kernel
theorem d_X10_read_18 : decode M_X10_read.2.1 18 = .ok (.aload_n 0, 1) := by decide +kernel
theorem d_X10_read_19 : decode M_X10_read.2.1 19 = .ok (.getfield 10, 3) := by decide +kernel
theorem d_X10_read_22 : decode M_X10_read.2.1 22 = .ok (.iconst 0, 1) := by decide +kernel
theorem d_X10_read_23 : decode M_X10_read.2.1 23 = .ok (.putfield 88, 3) := by decide +kernel
theorem d_X10_read_26 : decode M_X10_read.2.1 26 = .ok (.aload_n 0, 1) := by decide +kernel
theorem d_X10_read_27 : decode M_X10_read.2.1 27 = .ok (.getfield 19, 3) := by decide +kernel
theorem d_X10_read_30 : decode M_X10_read.2.1 30 = .ok (.getfield 103, 3) := by decide +kernel
theorem d_X10_read_33 : decode M_X10_read.2.1 33 = .ok (.ifCond .ne 22, 3) := by decide +kernel
theorem d_X10_read_36 : decode M_X10_read.2.1 36 = .ok (.aload_n 0, 1) := by decide +kernel
theorem d_X10_read_37 : decode M_X10_read.2.1 37 = .ok (.aload_n 0, 1) := by decide +kernel
theorem d_X10_read_38 : decode M_X10_read.2.1 38 = .ok (.getfield 19, 3) := by decide +kernel
theorem d_X10_read_41 : decode M_X10_read.2.1 41 = .ok (.aload_n 0, 1) := by decide +kernel
theorem d_X10_read_42 : decode M_X10_read.2.1 42 = .ok (.getfield 26, 3) := by decide +kernel
theorem d_X10_read_45 : decode M_X10_read.2.1 45 = .ok (.invokevirtual 106, 3) := by decide +kernel
theorem d_X10_read_48 : decode M_X10_read.2.1 48 = .ok (.putfield 26, 3) := by decide +kernel
theorem d_X10_read_51 : decode M_X10_read.2.1 51 = .ok (.aload_n 0, 1) := by decide +kernel
theorem d_X10_read_52 : decode M_X10_read.2.1 52 = .ok (.invokevirtual 110, 3) := by decide +kernel
theorem d_X10_read_55 : decode M_X10_read.2.1 55 = .ok (.aload_n 0, 1) := by decide +kernel
theorem d_X10_read_56 : decode M_X10_read.2.1 56 = .ok (.getfield 19, 3) := by decide +kernel
theorem d_X10_read_59 : decode M_X10_read.2.1 59 = .ok (.getfield 103, 3) := by decide +kernel
theorem d_X10_read_62 : decode M_X10_read.2.1 62 = .ok (.ireturn, 1) := by decide +kernel
theorem ce_X10_read : zw_CeV M_X10_read 0 := ⟨⟨⟨by decide +kernel, by decide +kernel, by decide +kernel⟩, (zw_mG (List.mem_of_getElem? (i := 536) (by decide +kernel)) rfl), (zw_mG (List.mem_of_getElem? (i := 96) (by decide +kernel)) rfl), by decide, by decide +kernel⟩, (zw_mG (List.mem_of_getElem? (i := 534) (by decide +kernel)) rfl), (zw_mG (List.mem_of_getElem? (i := 535) (by decide +kernel)) rfl)⟩
def f_X10_read (v0 : Nat) (I : zI) (R : zR) (J : zJ) : Option (Int32 × zI × zR × zJ) :=
  zw_g (zw_gc v0 10) (zw_g (zw_gc (R v0 0) 8) ((f_X8_scan (R v0 0) I R J).bind fun q3 => (zw_g (zw_gc (R v0 1) 3) ((f_X3_readText (R v0 1) (R v0 0) q3.1 R q3.2).bind fun q5 => (zw_let (zw_u q5.1 (R v0 0) 1 0 : zI) fun I6 => (if ¬ (I6 (R v0 1) 0) = 0 then some ((I6 (R v0 1) 0), I6, R, q5.2) else zw_g (zw_gc (R v0 2) 1) ((f_X3_exchange (R v0 1) (R v0 2) R).bind fun q9 => (zw_g (zw_gc q9.1 1) (zw_let (zw_u q9.2 v0 2 q9.1 : zR) fun R11 => ((f_X10_forgetAll v0 I6 R11).bind fun q12 => (zw_g (zw_gc (R11 v0 1) 3) (some ((q12 (R11 v0 1) 0), q12, R11, q5.2)))))))))))))
theorem c_X10_read (X : zw_X) (v0 : Nat) (I : zI) (R : zR) (J : zJ) {P : Option Value → aS → Prop} (o : Int32 × zI × zR × zJ) (hf : f_X10_read v0 I R J = some o) (hk : P (some (.int o.1)) (o.2.1, o.2.2.1, o.2.2.2)) : zw_C X M_X10_read 22 0 0 199 [.ref v0] (I, R, J) P := by
  show zy_V X M_X10_read 22 P 0 [.ref v0] [] (I, R, J)
  unfold f_X10_read at hf
  refine zv_aload_n (pc := 0) d_X10_read_0 rfl ?_
  obtain ⟨g1, hf⟩ := zw_gcE hf (by decide)
  obtain ⟨g2, hf⟩ := zw_gcE hf (by decide)
  refine zx_getR (pc := 1) d_X10_read_1 lk_CutStones_10 (by decide) g1 g2 ?_
  obtain ⟨q3, hq3, hf⟩ := zw_bdE hf
  refine zx_callV (pc := 4) (As := []) (o := (R v0 0)) (st := []) (d2 := 9) (M2 := M_X8_scan) (P2 := (fun r S => r = none ∧ S = (q3.1, R, q3.2))) d_X10_read_4 (zw_mG (List.mem_of_getElem? (i := 537) (by decide +kernel)) rfl) ce_X8_scan (zw_RvK g2 rfl rfl) (Nat.le_of_ble_eq_true rfl) rfl (Nat.le_of_ble_eq_true rfl) (by decide) (c_X8_scan X (R v0 0) I R J _ hq3 ⟨rfl, rfl⟩) ?_
  rintro _ _ ⟨rfl, rfl⟩
  show zy_V X M_X10_read 22 P (4 + 3) [.ref v0] [] (q3.1, R, q3.2)
  refine zv_aload_n (pc := 7) d_X10_read_7 rfl ?_
  obtain ⟨g4, hf⟩ := zw_gcE hf (by decide)
  refine zx_getR (pc := 8) d_X10_read_8 lk_CutStones_19 (by decide) g1 g4 ?_
  refine zv_aload_n (pc := 11) d_X10_read_11 rfl ?_
  refine zx_getR (pc := 12) d_X10_read_12 lk_CutStones_10 (by decide) g1 g2 ?_
  obtain ⟨q5, hq5, hf⟩ := zw_bdE hf
  refine zx_callV (pc := 15) (As := [.ref (R v0 0)]) (o := (R v0 1)) (st := []) (d2 := 21) (M2 := M_X3_readText) (P2 := (fun r S => r = none ∧ S = (q5.1, R, q5.2))) d_X10_read_15 (zw_mG (List.mem_of_getElem? (i := 695) (by decide +kernel)) rfl) ce_X3_readText (zw_RvK g4 rfl rfl) (Nat.le_of_ble_eq_true rfl) rfl (Nat.le_of_ble_eq_true rfl) (by decide) (c_X3_readText X (R v0 1) (R v0 0) q3.1 R q3.2 _ hq5 ⟨rfl, rfl⟩) ?_
  rintro _ _ ⟨rfl, rfl⟩
  show zy_V X M_X10_read 22 P (15 + 3) [.ref v0] [] (q5.1, R, q5.2)
  refine zv_aload_n (pc := 18) d_X10_read_18 rfl ?_
  refine zx_getR (pc := 19) d_X10_read_19 lk_CutStones_10 (by decide) g1 g2 ?_
  refine zv_iconst (pc := 22) d_X10_read_22 zc_i_0 ?_
  obtain ⟨I6, eI6, hf⟩ := zw_letE hf
  refine zx_putI (pc := 23) (I2 := I6) d_X10_read_23 lk_CutStones_88 rfl g2 eI6 ?_
  refine zv_aload_n (pc := 26) d_X10_read_26 rfl ?_
  refine zx_getR (pc := 27) d_X10_read_27 lk_CutStones_19 (by decide) g1 g4 ?_
  refine zx_getI (pc := 30) d_X10_read_30 lk_CutStones_103 (by decide) g4 ?_
  rcases zw_ifE hf with ⟨c7, hf⟩ | ⟨c7, hf⟩
  · refine zv_if_ne (pc := 33) (tg := 55) d_X10_read_33 (by decide) (fun _ => ?_) (fun q => absurd q c7)
    refine zv_aload_n (pc := 55) d_X10_read_55 rfl ?_
    refine zx_getR (pc := 56) d_X10_read_56 lk_CutStones_19 (by decide) g1 g4 ?_
    refine zx_getI (pc := 59) d_X10_read_59 lk_CutStones_103 (by decide) g4 ?_
    cases hf
    exact zx_iret (pc := 62) d_X10_read_62 rfl hk
  · refine zv_if_ne (pc := 33) (tg := 55) d_X10_read_33 (by decide) (fun q => absurd q c7) (fun _ => ?_)
    refine zv_aload_n (pc := 36) d_X10_read_36 rfl ?_
    refine zv_aload_n (pc := 37) d_X10_read_37 rfl ?_
    refine zx_getR (pc := 38) d_X10_read_38 lk_CutStones_19 (by decide) g1 g4 ?_
    refine zv_aload_n (pc := 41) d_X10_read_41 rfl ?_
    obtain ⟨g8, hf⟩ := zw_gcE hf (by decide)
    refine zx_getR (pc := 42) d_X10_read_42 lk_CutStones_26 (by decide) g1 g8 ?_
    obtain ⟨q9, hq9, hf⟩ := zw_bdE hf
    refine zx_callV (pc := 45) (As := [.ref (R v0 2)]) (o := (R v0 1)) (st := [.ref v0]) (d2 := 0) (M2 := M_X3_exchange) (P2 := (fun r S => r = (some (.ref q9.1)) ∧ S = (I6, q9.2, q5.2))) d_X10_read_45 (zw_mG (List.mem_of_getElem? (i := 825) (by decide +kernel)) rfl) ce_X3_exchange (zw_RvK g4 rfl rfl) (Nat.le_of_ble_eq_true rfl) rfl (Nat.le_of_ble_eq_true rfl) (by decide) (c_X3_exchange X (R v0 1) (R v0 2) I6 R q5.2 _ hq9 ⟨rfl, rfl⟩) ?_
    rintro _ _ ⟨rfl, rfl⟩
    show zy_V X M_X10_read 22 P (45 + 3) [.ref v0] [.ref q9.1, .ref v0] (I6, q9.2, q5.2)
    obtain ⟨g10, hf⟩ := zw_gcE hf (by decide)
    obtain ⟨R11, eR11, hf⟩ := zw_letE hf
    refine zx_putR (pc := 48) (R2 := R11) d_X10_read_48 lk_CutStones_26 (by decide) g1 g10 eR11 ?_
    refine zv_aload_n (pc := 51) d_X10_read_51 rfl ?_
    obtain ⟨q12, hq12, hf⟩ := zw_bdE hf
    refine zx_callV (pc := 52) (As := []) (o := v0) (st := []) (d2 := 1) (M2 := M_X10_forgetAll) (P2 := (fun r S => r = none ∧ S = (q12, R11, q5.2))) d_X10_read_52 (zw_mG (List.mem_of_getElem? (i := 829) (by decide +kernel)) rfl) ce_X10_forgetAll (zw_RvK g1 rfl rfl) (Nat.le_of_ble_eq_true rfl) rfl (Nat.le_of_ble_eq_true rfl) (by decide) (c_X10_forgetAll X v0 I6 R11 q5.2 _ hq12 ⟨rfl, rfl⟩) ?_
    rintro _ _ ⟨rfl, rfl⟩
    show zy_V X M_X10_read 22 P (52 + 3) [.ref v0] [] (q12, R11, q5.2)
    refine zv_aload_n (pc := 55) d_X10_read_55 rfl ?_
    obtain ⟨g13, hf⟩ := zw_gcE hf (by decide)
    refine zx_getR (pc := 56) d_X10_read_56 lk_CutStones_19 (by decide) g1 g13 ?_
    refine zx_getI (pc := 59) d_X10_read_59 lk_CutStones_103 (by decide) g13 ?_
    cases hf
    exact zx_iret (pc := 62) d_X10_read_62 rfl hk
