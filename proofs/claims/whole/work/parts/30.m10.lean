abbrev M_X3_readSum : zw_M := (⟨"CutStones$Reader", "readSum", "(LCutStones$Tape;I)V"⟩, prog_5_method_18_code, 8, (Option.none : Option Jvm.ClassFile.FieldType))
theorem ce_X3_readSum : zw_CeV M_X3_readSum 2 := ⟨⟨⟨by decide +kernel, by decide +kernel, by decide +kernel⟩, (zw_mG (List.mem_of_getElem? (i := 792) (by decide +kernel)) rfl), (zw_mG (List.mem_of_getElem? (i := 98) (by decide +kernel)) rfl), by decide, by decide +kernel⟩, (zw_mG (List.mem_of_getElem? (i := 791) (by decide +kernel)) rfl), (zw_mG (List.mem_of_getElem? (i := 17) (by decide +kernel)) rfl)⟩
abbrev M_X3_readUnit : zw_M := (⟨"CutStones$Reader", "readUnit", "(LCutStones$Tape;I)V"⟩, prog_5_method_19_code, 5, (Option.none : Option Jvm.ClassFile.FieldType))
theorem d_X3_readUnit_0 : decode M_X3_readUnit.2.1 0 = .ok (.aload_n 0, 1) := by decide +kernel
theorem d_X3_readUnit_1 : decode M_X3_readUnit.2.1 1 = .ok (.aload_n 1, 1) := by decide +kernel
theorem d_X3_readUnit_2 : decode M_X3_readUnit.2.1 2 = .ok (.invokevirtual 98, 3) := by decide +kernel
theorem d_X3_readUnit_5 : decode M_X3_readUnit.2.1 5 = .ok (.istore_n 3, 1) := by decide +kernel
theorem d_X3_readUnit_6 : decode M_X3_readUnit.2.1 6 = .ok (.iload_n 3, 1) := by decide +kernel
theorem d_X3_readUnit_7 : decode M_X3_readUnit.2.1 7 = .ok (.bipush 12, 2) := by decide +kernel
theorem d_X3_readUnit_9 : decode M_X3_readUnit.2.1 9 = .ok (.if_icmp .ne 44, 3) := by decide +kernel
theorem d_X3_readUnit_12 : decode M_X3_readUnit.2.1 12 = .ok (.aload_n 0, 1) := by decide +kernel
theorem d_X3_readUnit_13 : decode M_X3_readUnit.2.1 13 = .ok (.aload_n 1, 1) := by decide +kernel
theorem d_X3_readUnit_14 : decode M_X3_readUnit.2.1 14 = .ok (.bipush 12, 2) := by decide +kernel
theorem d_X3_readUnit_16 : decode M_X3_readUnit.2.1 16 = .ok (.iload_n 2, 1) := by decide +kernel
theorem d_X3_readUnit_17 : decode M_X3_readUnit.2.1 17 = .ok (.bipush 6, 2) := by decide +kernel
theorem d_X3_readUnit_19 : decode M_X3_readUnit.2.1 19 = .ok (.if_icmp .ge 7, 3) := by decide +kernel
theorem d_X3_readUnit_22 : decode M_X3_readUnit.2.1 22 = .ok (.iconst 1, 1) := by decide +kernel
theorem d_X3_readUnit_23 : decode M_X3_readUnit.2.1 23 = .ok (.goto 4, 3) := by decide +kernel
theorem d_X3_readUnit_26 : decode M_X3_readUnit.2.1 26 = .ok (.iconst 0, 1) := by decide +kernel
theorem d_X3_readUnit_27 : decode M_X3_readUnit.2.1 27 = .ok (.invokevirtual 66, 3) := by decide +kernel
theorem d_X3_readUnit_30 : decode M_X3_readUnit.2.1 30 = .ok (.ifCond .eq 85, 3) := by decide +kernel
theorem d_X3_readUnit_33 : decode M_X3_readUnit.2.1 33 = .ok (.aload_n 0, 1) := by decide +kernel
theorem d_X3_readUnit_34 : decode M_X3_readUnit.2.1 34 = .ok (.aload_n 1, 1) := by decide +kernel
theorem d_X3_readUnit_35 : decode M_X3_readUnit.2.1 35 = .ok (.iload_n 2, 1) := by decide +kernel
theorem d_X3_readUnit_36 : decode M_X3_readUnit.2.1 36 = .ok (.iconst 1, 1) := by decide +kernel
theorem d_X3_readUnit_37 : decode M_X3_readUnit.2.1 37 = .ok (.iadd, 1) := by decide +kernel
theorem d_X3_readUnit_38 : decode M_X3_readUnit.2.1 38 = .ok (.invokevirtual 171, 3) := by decide +kernel
theorem d_X3_readUnit_41 : decode M_X3_readUnit.2.1 41 = .ok (.aload_n 0, 1) := by decide +kernel
theorem d_X3_readUnit_42 : decode M_X3_readUnit.2.1 42 = .ok (.aload_n 1, 1) := by decide +kernel
theorem d_X3_readUnit_43 : decode M_X3_readUnit.2.1 43 = .ok (.bipush 13, 2) := by decide +kernel
theorem d_X3_readUnit_45 : decode M_X3_readUnit.2.1 45 = .ok (.iconst 1, 1) := by decide +kernel
theorem d_X3_readUnit_46 : decode M_X3_readUnit.2.1 46 = .ok (.invokevirtual 66, 3) := by decide +kernel
theorem d_X3_readUnit_49 : decode M_X3_readUnit.2.1 49 = .ok (.pop, 1) := by decide +kernel
theorem d_X3_readUnit_50 : decode M_X3_readUnit.2.1 50 = .ok (.goto 65, 3) := by decide +kernel
theorem d_X3_readUnit_53 : decode M_X3_readUnit.2.1 53 = .ok (.iload_n 3, 1) := by decide +kernel
theorem d_X3_readUnit_54 : decode M_X3_readUnit.2.1 54 = .ok (.bipush 28, 2) := by decide +kernel
theorem d_X3_readUnit_56 : decode M_X3_readUnit.2.1 56 = .ok (.if_icmp .lt 29, 3) := by decide +kernel
theorem d_X3_readUnit_59 : decode M_X3_readUnit.2.1 59 = .ok (.iload_n 3, 1) := by decide +kernel
theorem d_X3_readUnit_60 : decode M_X3_readUnit.2.1 60 = .ok (.bipush 35, 2) := by decide +kernel
theorem d_X3_readUnit_62 : decode M_X3_readUnit.2.1 62 = .ok (.if_icmp .gt 23, 3) := by decide +kernel
theorem d_X3_readUnit_65 : decode M_X3_readUnit.2.1 65 = .ok (.aload_n 0, 1) := by decide +kernel
theorem d_X3_readUnit_66 : decode M_X3_readUnit.2.1 66 = .ok (.aload_n 1, 1) := by decide +kernel
theorem d_X3_readUnit_67 : decode M_X3_readUnit.2.1 67 = .ok (.iload_n 3, 1) := by decide +kernel
theorem d_X3_readUnit_68 : decode M_X3_readUnit.2.1 68 = .ok (.iconst 1, 1) := by decide +kernel
theorem d_X3_readUnit_69 : decode M_X3_readUnit.2.1 69 = .ok (.invokevirtual 66, 3) := by decide +kernel
theorem d_X3_readUnit_72 : decode M_X3_readUnit.2.1 72 = .ok (.pop, 1) := by decide +kernel
theorem d_X3_readUnit_73 : decode M_X3_readUnit.2.1 73 = .ok (.aload_n 0, 1) := by decide +kernel
theorem d_X3_readUnit_74 : decode M_X3_readUnit.2.1 74 = .ok (.getfield 21, 3) := by decide +kernel
theorem d_X3_readUnit_77 : decode M_X3_readUnit.2.1 77 = .ok (.iload_n 3, 1) := by decide +kernel
theorem d_X3_readUnit_78 : decode M_X3_readUnit.2.1 78 = .ok (.iconst 0, 1) := by decide +kernel
theorem d_X3_readUnit_79 : decode M_X3_readUnit.2.1 79 = .ok (.invokevirtual 181, 3) := by decide +kernel
theorem d_X3_readUnit_82 : decode M_X3_readUnit.2.1 82 = .ok (.goto 33, 3) := by decide +kernel
theorem d_X3_readUnit_85 : decode M_X3_readUnit.2.1 85 = .ok (.aload_n 1, 1) := by decide +kernel
theorem d_X3_readUnit_86 : decode M_X3_readUnit.2.1 86 = .ok (.getfield 62, 3) := by decide +kernel
theorem d_X3_readUnit_89 : decode M_X3_readUnit.2.1 89 = .ok (.aload_n 0, 1) := by decide +kernel
theorem d_X3_readUnit_90 : decode M_X3_readUnit.2.1 90 = .ok (.getfield 25, 3) := by decide +kernel
theorem d_X3_readUnit_93 : decode M_X3_readUnit.2.1 93 = .ok (.laload, 1) := by decide +kernel
theorem d_X3_readUnit_94 : decode M_X3_readUnit.2.1 94 = .ok (.l2i, 1) := by decide +kernel
theorem d_X3_readUnit_95 : decode M_X3_readUnit.2.1 95 = .ok (.istore 4, 2) := by decide +kernel
theorem d_X3_readUnit_97 : decode M_X3_readUnit.2.1 97 = .ok (.aload_n 0, 1) := by decide +kernel
theorem d_X3_readUnit_98 : decode M_X3_readUnit.2.1 98 = .ok (.aload_n 1, 1) := by decide +kernel
theorem d_X3_readUnit_99 : decode M_X3_readUnit.2.1 99 = .ok (.iconst 3, 1) := by decide +kernel
theorem d_X3_readUnit_100 : decode M_X3_readUnit.2.1 100 = .ok (.iconst 1, 1) := by decide +kernel
theorem d_X3_readUnit_101 : decode M_X3_readUnit.2.1 101 = .ok (.invokevirtual 66, 3) := by decide +kernel
theorem d_X3_readUnit_104 : decode M_X3_readUnit.2.1 104 = .ok (.pop, 1) := by decide +kernel
theorem d_X3_readUnit_105 : decode M_X3_readUnit.2.1 105 = .ok (.aload_n 0, 1) := by decide +kernel
theorem d_X3_readUnit_106 : decode M_X3_readUnit.2.1 106 = .ok (.getfield 21, 3) := by decide +kernel
theorem d_X3_readUnit_109 : decode M_X3_readUnit.2.1 109 = .ok (.iconst 3, 1) := by decide +kernel
theorem d_X3_readUnit_110 : decode M_X3_readUnit.2.1 110 = .ok (.iload 4, 2) := by decide +kernel
theorem d_X3_readUnit_112 : decode M_X3_readUnit.2.1 112 = .ok (.invokevirtual 181, 3) := by decide +kernel
theorem d_X3_readUnit_115 : decode M_X3_readUnit.2.1 115 = .ok (.return_, 1) := by decide +kernel
theorem ce_X3_readUnit : zw_CeV M_X3_readUnit 2 := ⟨⟨⟨by decide +kernel, by decide +kernel, by decide +kernel⟩, (zw_mG (List.mem_of_getElem? (i := 796) (by decide +kernel)) rfl), (zw_mG (List.mem_of_getElem? (i := 98) (by decide +kernel)) rfl), by decide, by decide +kernel⟩, (zw_mG (List.mem_of_getElem? (i := 795) (by decide +kernel)) rfl), (zw_mG (List.mem_of_getElem? (i := 18) (by decide +kernel)) rfl)⟩
def j_X3_readUnit_85 (g : Nat → Nat → Int32 → zI → zR → zJ → Option (zI)) (v0 : Nat) (v1 : Nat) (I : zI) (R : zR) (J : zJ) : Option (zI) :=
  zw_g (zw_gc v1 8) (zw_g (zw_gc (R v1 4) 14) (zw_g (zw_gc v0 3) (zw_g (zw_in (I v0 3) (zw_SH (R v1 4)).2) (zw_let ((Int64.toInt32 (J (R v1 4) (Int32.toNatClampNeg (I v0 3)))) : Int32) fun x9 => ((f_X3_take v0 v1 3 1 I R).bind fun q10 => (zw_g (zw_gc (R v0 2) 1) ((f_X1_addCode (R v0 2) 3 x9 q10.2 R).bind fun q12 => (some q12))))))))
theorem j_X3_readUnit_85_ok (X : zw_X) (P : Option Value → aS → Prop) (g : Nat → Nat → Int32 → zI → zR → zJ → Option (zI)) (dg : Nat) (hdg : 1 ≤ dg) (hg : ∀ (v0 : Nat) (v1 : Nat) (v2 : Int32) (I : zI) (R : zR) (J : zJ) {P : Option Value → aS → Prop} (o : zI), g v0 v1 v2 I R J = some o → P none (o, R, J) → zw_C X M_X3_readSum dg 0 0 199 [.ref v0, .ref v1, .int v2] (I, R, J) P) (v0 : Nat) (v1 : Nat) (I : zI) (R : zR) (J : zJ) (o : zI) (hf : j_X3_readUnit_85 g v0 v1 I R J = some o) (hk : P none (o, R, J)) : zy_V X M_X3_readUnit (dg + 1) P 85 [.ref v0, .ref v1, .null, .null, .null] [] (I, R, J) := by
  unfold j_X3_readUnit_85 at hf
  refine zv_aload_n (pc := 85) d_X3_readUnit_85 rfl ?_
  obtain ⟨g5, hf⟩ := zw_gcE hf (by decide)
  obtain ⟨g6, hf⟩ := zw_gcE hf (by decide)
  refine zx_getR (pc := 86) d_X3_readUnit_86 lk_CutStones_Reader_62 (by decide) g5 g6 ?_
  refine zv_aload_n (pc := 89) d_X3_readUnit_89 rfl ?_
  obtain ⟨g7, hf⟩ := zw_gcE hf (by decide)
  refine zx_getI (pc := 90) d_X3_readUnit_90 lk_CutStones_Reader_25 (by decide) g7 ?_
  obtain ⟨i8, hf⟩ := zw_inE hf
  refine zx_lald (pc := 93) d_X3_readUnit_93 g6 i8 ?_
  refine zv_l2i (pc := 94) d_X3_readUnit_94 ?_
  obtain ⟨x9, ex9, hf⟩ := zw_letE hf
  refine zx_istore (pc := 95) (x2 := x9) (L2 := [.ref v0, .ref v1, .null, .null, .int x9]) d_X3_readUnit_95 (by decide) ex9 rfl ?_
  refine zv_aload_n (pc := 97) d_X3_readUnit_97 rfl ?_
  refine zv_aload_n (pc := 98) d_X3_readUnit_98 rfl ?_
  refine zv_iconst (pc := 99) d_X3_readUnit_99 zc_i_3 ?_
  refine zv_iconst (pc := 100) d_X3_readUnit_100 zc_i_1 ?_
  obtain ⟨q10, hq10, hf⟩ := zw_bdE hf
  refine zx_callV (pc := 101) (As := [.ref v1, .int 3, .int 1]) (o := v0) (st := []) (d2 := 0) (M2 := M_X3_take) (P2 := (fun r S => r = (some (.int q10.1)) ∧ S = (q10.2, R, J))) d_X3_readUnit_101 (zw_mG (List.mem_of_getElem? (i := 707) (by decide +kernel)) rfl) ce_X3_take (zw_RvK g7 rfl rfl) (Nat.le_of_ble_eq_true rfl) rfl (Nat.le_of_ble_eq_true rfl) (by omega) (c_X3_take X v0 v1 3 1 I R J _ hq10 ⟨rfl, rfl⟩) ?_
  rintro _ _ ⟨rfl, rfl⟩
  show zy_V X M_X3_readUnit (dg + 1) P (101 + 3) [.ref v0, .ref v1, .null, .null, .int x9] [.int q10.1] (q10.2, R, J)
  refine zv_pop (pc := 104) d_X3_readUnit_104 rfl ?_
  refine zv_aload_n (pc := 105) d_X3_readUnit_105 rfl ?_
  obtain ⟨g11, hf⟩ := zw_gcE hf (by decide)
  refine zx_getR (pc := 106) d_X3_readUnit_106 lk_CutStones_Reader_21 (by decide) g7 g11 ?_
  refine zv_iconst (pc := 109) d_X3_readUnit_109 zc_i_3 ?_
  refine zv_iload (pc := 110) d_X3_readUnit_110 rfl ?_
  obtain ⟨q12, hq12, hf⟩ := zw_bdE hf
  refine zx_callV (pc := 112) (As := [.int 3, .int x9]) (o := (R v0 2)) (st := []) (d2 := 0) (M2 := M_X1_addCode) (P2 := (fun r S => r = none ∧ S = (q12, R, J))) d_X3_readUnit_112 (zw_mG (List.mem_of_getElem? (i := 797) (by decide +kernel)) rfl) ce_X1_addCode (zw_RvK g11 rfl rfl) (Nat.le_of_ble_eq_true rfl) rfl (Nat.le_of_ble_eq_true rfl) (by omega) (c_X1_addCode X (R v0 2) 3 x9 q10.2 R J _ hq12 ⟨rfl, rfl⟩) ?_
  rintro _ _ ⟨rfl, rfl⟩
  show zy_V X M_X3_readUnit (dg + 1) P (112 + 3) [.ref v0, .ref v1, .null, .null, .int x9] [] (q12, R, J)
  cases hf
  exact zx_vret (pc := 115) d_X3_readUnit_115 rfl hk
def j_X3_readUnit_27 (g : Nat → Nat → Int32 → zI → zR → zJ → Option (zI)) (v0 : Nat) (v1 : Nat) (v2 : Int32) (s0 : Nat) (s1 : Nat) (s2 : Int32) (s3 : Int32) (I : zI) (R : zR) (J : zJ) : Option (zI) :=
  zw_g (zw_gc s0 3) ((f_X3_take s0 s1 s2 s3 I R).bind fun q19 => (if q19.1 = 0 then some q19.2 else zw_g (zw_gc v0 3) ((g v0 v1 (v2 + 1) q19.2 R J).bind fun q22 => ((f_X3_take v0 v1 13 1 q22 R).bind fun q23 => (some q23.2)))))
theorem j_X3_readUnit_27_ok (X : zw_X) (P : Option Value → aS → Prop) (g : Nat → Nat → Int32 → zI → zR → zJ → Option (zI)) (dg : Nat) (hdg : 1 ≤ dg) (hg : ∀ (v0 : Nat) (v1 : Nat) (v2 : Int32) (I : zI) (R : zR) (J : zJ) {P : Option Value → aS → Prop} (o : zI), g v0 v1 v2 I R J = some o → P none (o, R, J) → zw_C X M_X3_readSum dg 0 0 199 [.ref v0, .ref v1, .int v2] (I, R, J) P) (v0 : Nat) (v1 : Nat) (v2 : Int32) (s0 : Nat) (s1 : Nat) (s2 : Int32) (s3 : Int32) (I : zI) (R : zR) (J : zJ) (o : zI) (hf : j_X3_readUnit_27 g v0 v1 v2 s0 s1 s2 s3 I R J = some o) (hk : P none (o, R, J)) : zy_V X M_X3_readUnit (dg + 1) P 27 [.ref v0, .ref v1, .int v2, .null, .null] [.int s3, .int s2, .ref s1, .ref s0] (I, R, J) := by
  unfold j_X3_readUnit_27 at hf
  obtain ⟨g18, hf⟩ := zw_gcE hf (by decide)
  obtain ⟨q19, hq19, hf⟩ := zw_bdE hf
  refine zx_callV (pc := 27) (As := [.ref s1, .int s2, .int s3]) (o := s0) (st := []) (d2 := 0) (M2 := M_X3_take) (P2 := (fun r S => r = (some (.int q19.1)) ∧ S = (q19.2, R, J))) d_X3_readUnit_27 (zw_mG (List.mem_of_getElem? (i := 707) (by decide +kernel)) rfl) ce_X3_take (zw_RvK g18 rfl rfl) (Nat.le_of_ble_eq_true rfl) rfl (Nat.le_of_ble_eq_true rfl) (by omega) (c_X3_take X s0 s1 s2 s3 I R J _ hq19 ⟨rfl, rfl⟩) ?_
  rintro _ _ ⟨rfl, rfl⟩
  show zy_V X M_X3_readUnit (dg + 1) P (27 + 3) [.ref v0, .ref v1, .int v2, .null, .null] [.int q19.1] (q19.2, R, J)
  rcases zw_ifE hf with ⟨c20, hf⟩ | ⟨c20, hf⟩
  · refine zv_if_eq (pc := 30) (tg := 115) d_X3_readUnit_30 (by decide) (fun _ => ?_) (fun q => absurd c20 q)
    cases hf
    exact zx_vret (pc := 115) d_X3_readUnit_115 rfl hk
  · refine zv_if_eq (pc := 30) (tg := 115) d_X3_readUnit_30 (by decide) (fun q => absurd q c20) (fun _ => ?_)
    refine zv_aload_n (pc := 33) d_X3_readUnit_33 rfl ?_
    refine zv_aload_n (pc := 34) d_X3_readUnit_34 rfl ?_
    refine zv_iload_n (pc := 35) d_X3_readUnit_35 rfl ?_
    refine zv_iconst (pc := 36) d_X3_readUnit_36 zc_i_1 ?_
    refine zv_iadd (pc := 37) d_X3_readUnit_37 ?_
    obtain ⟨g21, hf⟩ := zw_gcE hf (by decide)
    obtain ⟨q22, hq22, hf⟩ := zw_bdE hf
    refine zx_callV (pc := 38) (As := [.ref v1, .int (v2 + 1)]) (o := v0) (st := []) (d2 := dg) (M2 := M_X3_readSum) (P2 := (fun r S => r = none ∧ S = (q22, R, J))) d_X3_readUnit_38 (zw_mG (List.mem_of_getElem? (i := 789) (by decide +kernel)) rfl) ce_X3_readSum (zw_RvK g21 rfl rfl) (Nat.le_of_ble_eq_true rfl) rfl (Nat.le_of_ble_eq_true rfl) (by omega) (hg v0 v1 (v2 + 1) q19.2 R J _ hq22 ⟨rfl, rfl⟩) ?_
    rintro _ _ ⟨rfl, rfl⟩
    show zy_V X M_X3_readUnit (dg + 1) P (38 + 3) [.ref v0, .ref v1, .int v2, .null, .null] [] (q22, R, J)
    refine zv_aload_n (pc := 41) d_X3_readUnit_41 rfl ?_
    refine zv_aload_n (pc := 42) d_X3_readUnit_42 rfl ?_
    refine zv_bipush (pc := 43) d_X3_readUnit_43 zc_b_13 ?_
    refine zv_iconst (pc := 45) d_X3_readUnit_45 zc_i_1 ?_
    obtain ⟨q23, hq23, hf⟩ := zw_bdE hf
    refine zx_callV (pc := 46) (As := [.ref v1, .int 13, .int 1]) (o := v0) (st := []) (d2 := 0) (M2 := M_X3_take) (P2 := (fun r S => r = (some (.int q23.1)) ∧ S = (q23.2, R, J))) d_X3_readUnit_46 (zw_mG (List.mem_of_getElem? (i := 707) (by decide +kernel)) rfl) ce_X3_take (zw_RvK g21 rfl rfl) (Nat.le_of_ble_eq_true rfl) rfl (Nat.le_of_ble_eq_true rfl) (by omega) (c_X3_take X v0 v1 13 1 q22 R J _ hq23 ⟨rfl, rfl⟩) ?_
    rintro _ _ ⟨rfl, rfl⟩
    show zy_V X M_X3_readUnit (dg + 1) P (46 + 3) [.ref v0, .ref v1, .int v2, .null, .null] [.int q23.1] (q23.2, R, J)
    refine zv_pop (pc := 49) d_X3_readUnit_49 rfl ?_
    refine zv_goto (pc := 50) (tg := 115) d_X3_readUnit_50 (by decide) ?_
    cases hf
    exact zx_vret (pc := 115) d_X3_readUnit_115 rfl hk
def f_X3_readUnit (g : Nat → Nat → Int32 → zI → zR → zJ → Option (zI)) (v0 : Nat) (v1 : Nat) (v2 : Int32) (I : zI) (R : zR) (J : zJ) : Option (zI) :=
  zw_g (zw_gc v0 3) ((f_X3_kind v0 v1 I R).bind fun q2 => (if ¬ q2 = 12 then if q2 < 28 then j_X3_readUnit_85 g v0 v1 I R J else if 35 < q2 then j_X3_readUnit_85 g v0 v1 I R J else (f_X3_take v0 v1 q2 1 I R).bind fun q14 => (zw_g (zw_gc (R v0 2) 1) ((f_X1_addCode (R v0 2) q2 0 q14.2 R).bind fun q16 => (some q16))) else if 6 ≤ v2 then j_X3_readUnit_27 g v0 v1 v2 v0 v1 12 0 I R J else j_X3_readUnit_27 g v0 v1 v2 v0 v1 12 1 I R J))
theorem c_X3_readUnit (X : zw_X) (g : Nat → Nat → Int32 → zI → zR → zJ → Option (zI)) (dg : Nat) (hdg : 1 ≤ dg) (hg : ∀ (v0 : Nat) (v1 : Nat) (v2 : Int32) (I : zI) (R : zR) (J : zJ) {P : Option Value → aS → Prop} (o : zI), g v0 v1 v2 I R J = some o → P none (o, R, J) → zw_C X M_X3_readSum dg 0 0 199 [.ref v0, .ref v1, .int v2] (I, R, J) P) (v0 : Nat) (v1 : Nat) (v2 : Int32) (I : zI) (R : zR) (J : zJ) {P : Option Value → aS → Prop} (o : zI) (hf : f_X3_readUnit g v0 v1 v2 I R J = some o) (hk : P none (o, R, J)) : zw_C X M_X3_readUnit (dg + 1) 0 0 199 [.ref v0, .ref v1, .int v2] (I, R, J) P := by
  show zy_V X M_X3_readUnit (dg + 1) P 0 [.ref v0, .ref v1, .int v2, .null, .null] [] (I, R, J)
  unfold f_X3_readUnit at hf
  refine zv_aload_n (pc := 0) d_X3_readUnit_0 rfl ?_
  refine zv_aload_n (pc := 1) d_X3_readUnit_1 rfl ?_
  obtain ⟨g1, hf⟩ := zw_gcE hf (by decide)
  obtain ⟨q2, hq2, hf⟩ := zw_bdE hf
  refine zx_callV (pc := 2) (As := [.ref v1]) (o := v0) (st := []) (d2 := 0) (M2 := M_X3_kind) (P2 := (fun r S => r = (some (.int q2)) ∧ S = (I, R, J))) d_X3_readUnit_2 (zw_mG (List.mem_of_getElem? (i := 746) (by decide +kernel)) rfl) ce_X3_kind (zw_RvK g1 rfl rfl) (Nat.le_of_ble_eq_true rfl) rfl (Nat.le_of_ble_eq_true rfl) (by omega) (c_X3_kind X v0 v1 I R J _ hq2 ⟨rfl, rfl⟩) ?_
  rintro _ _ ⟨rfl, rfl⟩
  show zy_V X M_X3_readUnit (dg + 1) P (2 + 3) [.ref v0, .ref v1, .int v2, .null, .null] [.int q2] (I, R, J)
  refine zx_istore_n (pc := 5) (x2 := q2) (L2 := [.ref v0, .ref v1, .int v2, .int q2, .null]) d_X3_readUnit_5 (by decide) rfl rfl ?_
  refine zv_iload_n (pc := 6) d_X3_readUnit_6 rfl ?_
  refine zv_bipush (pc := 7) d_X3_readUnit_7 zc_b_12 ?_
  rcases zw_ifE hf with ⟨c3, hf⟩ | ⟨c3, hf⟩
  · refine zv_icmp_ne (pc := 9) (tg := 53) d_X3_readUnit_9 (by decide) (fun _ => ?_) (fun q => absurd q c3)
    refine zv_iload_n (pc := 53) d_X3_readUnit_53 rfl ?_
    refine zv_bipush (pc := 54) d_X3_readUnit_54 zc_b_28 ?_
    rcases zw_ifE hf with ⟨c4, hf⟩ | ⟨c4, hf⟩
    · refine zv_icmp_lt (pc := 56) (tg := 85) d_X3_readUnit_56 (by decide) (fun _ => ?_) (fun q => absurd c4 q)
      exact zx_weak (zw_leS (zw_leS (zw_leN (zw_leN (zw_leN zw_leZ))))) (j_X3_readUnit_85_ok X P g dg hdg hg v0 v1 I R J _ hf hk)
    · refine zv_icmp_lt (pc := 56) (tg := 85) d_X3_readUnit_56 (by decide) (fun q => absurd q c4) (fun _ => ?_)
      refine zv_iload_n (pc := 59) d_X3_readUnit_59 rfl ?_
      refine zv_bipush (pc := 60) d_X3_readUnit_60 zc_b_35 ?_
      rcases zw_ifE hf with ⟨c13, hf⟩ | ⟨c13, hf⟩
      · refine zv_icmp_gt (pc := 62) (tg := 85) d_X3_readUnit_62 (by decide) (fun _ => ?_) (fun q => absurd c13 q)
        exact zx_weak (zw_leS (zw_leS (zw_leN (zw_leN (zw_leN zw_leZ))))) (j_X3_readUnit_85_ok X P g dg hdg hg v0 v1 I R J _ hf hk)
      · refine zv_icmp_gt (pc := 62) (tg := 85) d_X3_readUnit_62 (by decide) (fun q => absurd q c13) (fun _ => ?_)
        refine zv_aload_n (pc := 65) d_X3_readUnit_65 rfl ?_
        refine zv_aload_n (pc := 66) d_X3_readUnit_66 rfl ?_
        refine zv_iload_n (pc := 67) d_X3_readUnit_67 rfl ?_
        refine zv_iconst (pc := 68) d_X3_readUnit_68 zc_i_1 ?_
        obtain ⟨q14, hq14, hf⟩ := zw_bdE hf
        refine zx_callV (pc := 69) (As := [.ref v1, .int q2, .int 1]) (o := v0) (st := []) (d2 := 0) (M2 := M_X3_take) (P2 := (fun r S => r = (some (.int q14.1)) ∧ S = (q14.2, R, J))) d_X3_readUnit_69 (zw_mG (List.mem_of_getElem? (i := 707) (by decide +kernel)) rfl) ce_X3_take (zw_RvK g1 rfl rfl) (Nat.le_of_ble_eq_true rfl) rfl (Nat.le_of_ble_eq_true rfl) (by omega) (c_X3_take X v0 v1 q2 1 I R J _ hq14 ⟨rfl, rfl⟩) ?_
        rintro _ _ ⟨rfl, rfl⟩
        show zy_V X M_X3_readUnit (dg + 1) P (69 + 3) [.ref v0, .ref v1, .int v2, .int q2, .null] [.int q14.1] (q14.2, R, J)
        refine zv_pop (pc := 72) d_X3_readUnit_72 rfl ?_
        refine zv_aload_n (pc := 73) d_X3_readUnit_73 rfl ?_
        obtain ⟨g15, hf⟩ := zw_gcE hf (by decide)
        refine zx_getR (pc := 74) d_X3_readUnit_74 lk_CutStones_Reader_21 (by decide) g1 g15 ?_
        refine zv_iload_n (pc := 77) d_X3_readUnit_77 rfl ?_
        refine zv_iconst (pc := 78) d_X3_readUnit_78 zc_i_0 ?_
        obtain ⟨q16, hq16, hf⟩ := zw_bdE hf
        refine zx_callV (pc := 79) (As := [.int q2, .int 0]) (o := (R v0 2)) (st := []) (d2 := 0) (M2 := M_X1_addCode) (P2 := (fun r S => r = none ∧ S = (q16, R, J))) d_X3_readUnit_79 (zw_mG (List.mem_of_getElem? (i := 797) (by decide +kernel)) rfl) ce_X1_addCode (zw_RvK g15 rfl rfl) (Nat.le_of_ble_eq_true rfl) rfl (Nat.le_of_ble_eq_true rfl) (by omega) (c_X1_addCode X (R v0 2) q2 0 q14.2 R J _ hq16 ⟨rfl, rfl⟩) ?_
        rintro _ _ ⟨rfl, rfl⟩
        show zy_V X M_X3_readUnit (dg + 1) P (79 + 3) [.ref v0, .ref v1, .int v2, .int q2, .null] [] (q16, R, J)
        refine zv_goto (pc := 82) (tg := 115) d_X3_readUnit_82 (by decide) ?_
        cases hf
        exact zx_vret (pc := 115) d_X3_readUnit_115 rfl hk
  · refine zv_icmp_ne (pc := 9) (tg := 53) d_X3_readUnit_9 (by decide) (fun q => absurd q c3) (fun _ => ?_)
    refine zv_aload_n (pc := 12) d_X3_readUnit_12 rfl ?_
    refine zv_aload_n (pc := 13) d_X3_readUnit_13 rfl ?_
    refine zv_bipush (pc := 14) d_X3_readUnit_14 zc_b_12 ?_
    refine zv_iload_n (pc := 16) d_X3_readUnit_16 rfl ?_
    refine zv_bipush (pc := 17) d_X3_readUnit_17 zc_b_6 ?_
    rcases zw_ifE hf with ⟨c17, hf⟩ | ⟨c17, hf⟩
    · refine zv_icmp_ge (pc := 19) (tg := 26) d_X3_readUnit_19 (by decide) (fun _ => ?_) (fun q => absurd c17 q)
      refine zv_iconst (pc := 26) d_X3_readUnit_26 zc_i_0 ?_
      exact zx_weak (zw_leS (zw_leS (zw_leS (zw_leN (zw_leN zw_leZ))))) (j_X3_readUnit_27_ok X P g dg hdg hg v0 v1 v2 v0 v1 12 0 I R J _ hf hk)
    · refine zv_icmp_ge (pc := 19) (tg := 26) d_X3_readUnit_19 (by decide) (fun q => absurd q c17) (fun _ => ?_)
      refine zv_iconst (pc := 22) d_X3_readUnit_22 zc_i_1 ?_
      refine zv_goto (pc := 23) (tg := 27) d_X3_readUnit_23 (by decide) ?_
      exact zx_weak (zw_leS (zw_leS (zw_leS (zw_leN (zw_leN zw_leZ))))) (j_X3_readUnit_27_ok X P g dg hdg hg v0 v1 v2 v0 v1 12 1 I R J _ hf hk)
theorem d_X3_readSum_0 : decode M_X3_readSum.2.1 0 = .ok (.iconst (-1), 1) := by decide +kernel
theorem d_X3_readSum_1 : decode M_X3_readSum.2.1 1 = .ok (.istore_n 3, 1) := by decide +kernel
theorem d_X3_readSum_2 : decode M_X3_readSum.2.1 2 = .ok (.aload_n 0, 1) := by decide +kernel
theorem d_X3_readSum_3 : decode M_X3_readSum.2.1 3 = .ok (.getfield 9, 3) := by decide +kernel
theorem d_X3_readSum_6 : decode M_X3_readSum.2.1 6 = .ok (.ifCond .ne 7, 3) := by decide +kernel
theorem d_X3_readSum_9 : decode M_X3_readSum.2.1 9 = .ok (.iconst 1, 1) := by decide +kernel
theorem d_X3_readSum_10 : decode M_X3_readSum.2.1 10 = .ok (.goto 4, 3) := by decide +kernel
theorem d_X3_readSum_13 : decode M_X3_readSum.2.1 13 = .ok (.iconst 0, 1) := by decide +kernel
theorem d_X3_readSum_14 : decode M_X3_readSum.2.1 14 = .ok (.istore 4, 2) := by decide +kernel
theorem d_X3_readSum_16 : decode M_X3_readSum.2.1 16 = .ok (.iconst 0, 1) := by decide +kernel
theorem d_X3_readSum_17 : decode M_X3_readSum.2.1 17 = .ok (.istore 5, 2) := by decide +kernel
theorem d_X3_readSum_19 : decode M_X3_readSum.2.1 19 = .ok (.iload 4, 2) := by decide +kernel
theorem d_X3_readSum_21 : decode M_X3_readSum.2.1 21 = .ok (.ifCond .eq 142, 3) := by decide +kernel
theorem d_X3_readSum_24 : decode M_X3_readSum.2.1 24 = .ok (.iload 5, 2) := by decide +kernel
theorem d_X3_readSum_26 : decode M_X3_readSum.2.1 26 = .ok (.sipush 500, 3) := by decide +kernel
theorem d_X3_readSum_29 : decode M_X3_readSum.2.1 29 = .ok (.if_icmp .ge 134, 3) := by decide +kernel
theorem d_X3_readSum_32 : decode M_X3_readSum.2.1 32 = .ok (.aload_n 0, 1) := by decide +kernel
theorem d_X3_readSum_33 : decode M_X3_readSum.2.1 33 = .ok (.aload_n 1, 1) := by decide +kernel
theorem d_X3_readSum_34 : decode M_X3_readSum.2.1 34 = .ok (.iload_n 2, 1) := by decide +kernel
theorem d_X3_readSum_35 : decode M_X3_readSum.2.1 35 = .ok (.invokevirtual 184, 3) := by decide +kernel
theorem d_X3_readSum_38 : decode M_X3_readSum.2.1 38 = .ok (.aload_n 0, 1) := by decide +kernel
theorem d_X3_readSum_39 : decode M_X3_readSum.2.1 39 = .ok (.aload_n 1, 1) := by decide +kernel
theorem d_X3_readSum_40 : decode M_X3_readSum.2.1 40 = .ok (.invokevirtual 98, 3) := by decide +kernel
theorem d_X3_readSum_43 : decode M_X3_readSum.2.1 43 = .ok (.istore 6, 2) := by decide +kernel
theorem d_X3_readSum_45 : decode M_X3_readSum.2.1 45 = .ok (.iconst 0, 1) := by decide +kernel
theorem d_X3_readSum_46 : decode M_X3_readSum.2.1 46 = .ok (.istore 7, 2) := by decide +kernel
theorem d_X3_readSum_48 : decode M_X3_readSum.2.1 48 = .ok (.iload 7, 2) := by decide +kernel
theorem d_X3_readSum_50 : decode M_X3_readSum.2.1 50 = .ok (.sipush 500, 3) := by decide +kernel
theorem d_X3_readSum_53 : decode M_X3_readSum.2.1 53 = .ok (.if_icmp .ge 55, 3) := by decide +kernel
theorem d_X3_readSum_56 : decode M_X3_readSum.2.1 56 = .ok (.iload 6, 2) := by decide +kernel
theorem d_X3_readSum_58 : decode M_X3_readSum.2.1 58 = .ok (.bipush 10, 2) := by decide +kernel
theorem d_X3_readSum_60 : decode M_X3_readSum.2.1 60 = .ok (.if_icmp .eq 10, 3) := by decide +kernel
theorem d_X3_readSum_63 : decode M_X3_readSum.2.1 63 = .ok (.iload 6, 2) := by decide +kernel
theorem d_X3_readSum_65 : decode M_X3_readSum.2.1 65 = .ok (.bipush 11, 2) := by decide +kernel
theorem d_X3_readSum_67 : decode M_X3_readSum.2.1 67 = .ok (.if_icmp .ne 41, 3) := by decide +kernel
theorem d_X3_readSum_70 : decode M_X3_readSum.2.1 70 = .ok (.aload_n 0, 1) := by decide +kernel
theorem d_X3_readSum_71 : decode M_X3_readSum.2.1 71 = .ok (.aload_n 1, 1) := by decide +kernel
theorem d_X3_readSum_72 : decode M_X3_readSum.2.1 72 = .ok (.iload 6, 2) := by decide +kernel
theorem d_X3_readSum_74 : decode M_X3_readSum.2.1 74 = .ok (.iconst 1, 1) := by decide +kernel
theorem d_X3_readSum_75 : decode M_X3_readSum.2.1 75 = .ok (.invokevirtual 66, 3) := by decide +kernel
theorem d_X3_readSum_78 : decode M_X3_readSum.2.1 78 = .ok (.pop, 1) := by decide +kernel
theorem d_X3_readSum_79 : decode M_X3_readSum.2.1 79 = .ok (.aload_n 0, 1) := by decide +kernel
theorem d_X3_readSum_80 : decode M_X3_readSum.2.1 80 = .ok (.aload_n 1, 1) := by decide +kernel
theorem d_X3_readSum_81 : decode M_X3_readSum.2.1 81 = .ok (.iload_n 2, 1) := by decide +kernel
theorem d_X3_readSum_82 : decode M_X3_readSum.2.1 82 = .ok (.invokevirtual 184, 3) := by decide +kernel
theorem d_X3_readSum_85 : decode M_X3_readSum.2.1 85 = .ok (.aload_n 0, 1) := by decide +kernel
theorem d_X3_readSum_86 : decode M_X3_readSum.2.1 86 = .ok (.getfield 21, 3) := by decide +kernel
theorem d_X3_readSum_89 : decode M_X3_readSum.2.1 89 = .ok (.iload 6, 2) := by decide +kernel
theorem d_X3_readSum_91 : decode M_X3_readSum.2.1 91 = .ok (.iconst 0, 1) := by decide +kernel
theorem d_X3_readSum_92 : decode M_X3_readSum.2.1 92 = .ok (.invokevirtual 181, 3) := by decide +kernel
theorem d_X3_readSum_95 : decode M_X3_readSum.2.1 95 = .ok (.aload_n 0, 1) := by decide +kernel
theorem d_X3_readSum_96 : decode M_X3_readSum.2.1 96 = .ok (.aload_n 1, 1) := by decide +kernel
theorem d_X3_readSum_97 : decode M_X3_readSum.2.1 97 = .ok (.invokevirtual 98, 3) := by decide +kernel
theorem d_X3_readSum_100 : decode M_X3_readSum.2.1 100 = .ok (.istore 6, 2) := by decide +kernel
theorem d_X3_readSum_102 : decode M_X3_readSum.2.1 102 = .ok (.iinc 7 1, 3) := by decide +kernel
theorem d_X3_readSum_105 : decode M_X3_readSum.2.1 105 = .ok (.goto (-57), 3) := by decide +kernel
theorem d_X3_readSum_108 : decode M_X3_readSum.2.1 108 = .ok (.iload_n 3, 1) := by decide +kernel
theorem d_X3_readSum_109 : decode M_X3_readSum.2.1 109 = .ok (.iconst (-1), 1) := by decide +kernel
theorem d_X3_readSum_110 : decode M_X3_readSum.2.1 110 = .ok (.if_icmp .eq 12, 3) := by decide +kernel
theorem d_X3_readSum_113 : decode M_X3_readSum.2.1 113 = .ok (.aload_n 0, 1) := by decide +kernel
theorem d_X3_readSum_114 : decode M_X3_readSum.2.1 114 = .ok (.getfield 21, 3) := by decide +kernel
theorem d_X3_readSum_117 : decode M_X3_readSum.2.1 117 = .ok (.iload_n 3, 1) := by decide +kernel
theorem d_X3_readSum_118 : decode M_X3_readSum.2.1 118 = .ok (.iconst 0, 1) := by decide +kernel
theorem d_X3_readSum_119 : decode M_X3_readSum.2.1 119 = .ok (.invokevirtual 181, 3) := by decide +kernel
theorem d_X3_readSum_122 : decode M_X3_readSum.2.1 122 = .ok (.iload 6, 2) := by decide +kernel
theorem d_X3_readSum_124 : decode M_X3_readSum.2.1 124 = .ok (.istore_n 3, 1) := by decide +kernel
theorem d_X3_readSum_125 : decode M_X3_readSum.2.1 125 = .ok (.iload 6, 2) := by decide +kernel
theorem d_X3_readSum_127 : decode M_X3_readSum.2.1 127 = .ok (.bipush 8, 2) := by decide +kernel
theorem d_X3_readSum_129 : decode M_X3_readSum.2.1 129 = .ok (.if_icmp .eq 10, 3) := by decide +kernel
theorem d_X3_readSum_132 : decode M_X3_readSum.2.1 132 = .ok (.iload 6, 2) := by decide +kernel
theorem d_X3_readSum_134 : decode M_X3_readSum.2.1 134 = .ok (.bipush 9, 2) := by decide +kernel
theorem d_X3_readSum_136 : decode M_X3_readSum.2.1 136 = .ok (.if_icmp .ne 18, 3) := by decide +kernel
theorem d_X3_readSum_139 : decode M_X3_readSum.2.1 139 = .ok (.aload_n 0, 1) := by decide +kernel
theorem d_X3_readSum_140 : decode M_X3_readSum.2.1 140 = .ok (.aload_n 1, 1) := by decide +kernel
theorem d_X3_readSum_141 : decode M_X3_readSum.2.1 141 = .ok (.iload 6, 2) := by decide +kernel
theorem d_X3_readSum_143 : decode M_X3_readSum.2.1 143 = .ok (.iconst 1, 1) := by decide +kernel
theorem d_X3_readSum_144 : decode M_X3_readSum.2.1 144 = .ok (.invokevirtual 66, 3) := by decide +kernel
theorem d_X3_readSum_147 : decode M_X3_readSum.2.1 147 = .ok (.ifCond .eq 7, 3) := by decide +kernel
theorem d_X3_readSum_150 : decode M_X3_readSum.2.1 150 = .ok (.iconst 1, 1) := by decide +kernel
theorem d_X3_readSum_151 : decode M_X3_readSum.2.1 151 = .ok (.goto 4, 3) := by decide +kernel
theorem d_X3_readSum_154 : decode M_X3_readSum.2.1 154 = .ok (.iconst 0, 1) := by decide +kernel
theorem d_X3_readSum_155 : decode M_X3_readSum.2.1 155 = .ok (.istore 4, 2) := by decide +kernel
theorem d_X3_readSum_157 : decode M_X3_readSum.2.1 157 = .ok (.iinc 5 1, 3) := by decide +kernel
theorem d_X3_readSum_160 : decode M_X3_readSum.2.1 160 = .ok (.goto (-141), 3) := by decide +kernel
theorem d_X3_readSum_163 : decode M_X3_readSum.2.1 163 = .ok (.return_, 1) := by decide +kernel
def j_X3_readSum_70_48 (g : Nat → Nat → Int32 → zI → zR → zJ → Option (zI)) (v0 : Nat) (v1 : Nat) (v2 : Int32) (v3 : Int32) (v5 : Int32) (v6 : Int32) (v7 : Int32) (I : zI) (R : zR) (J : zJ) : Option ((Int32 × Int32 × zI) ⊕ (Int32 × zI)) :=
  zw_g (zw_gc v0 3) ((f_X3_take v0 v1 v6 1 I R).bind fun q11 => ((f_X3_readUnit g v0 v1 v2 q11.2 R J).bind fun q12 => (zw_g (zw_gc (R v0 2) 1) ((f_X1_addCode (R v0 2) v6 0 q12 R).bind fun q14 => ((f_X3_kind v0 v1 q14 R).bind fun q15 => (zw_let (v7 + 1 : Int32) fun x16 => (some (.inl (q15, x16, q14)))))))))
theorem j_X3_readSum_70_48_ok (X : zw_X) (P : Option Value → aS → Prop) (g : Nat → Nat → Int32 → zI → zR → zJ → Option (zI)) (dg : Nat) (hdg : 1 ≤ dg) (hg : ∀ (v0 : Nat) (v1 : Nat) (v2 : Int32) (I : zI) (R : zR) (J : zJ) {P : Option Value → aS → Prop} (o : zI), g v0 v1 v2 I R J = some o → P none (o, R, J) → zw_C X M_X3_readSum dg 0 0 199 [.ref v0, .ref v1, .int v2] (I, R, J) P) (v0 : Nat) (v1 : Nat) (v2 : Int32) (v3 : Int32) (v5 : Int32) (v6 : Int32) (v7 : Int32) (I : zI) (R : zR) (J : zJ) (o : (Int32 × Int32 × zI) ⊕ (Int32 × zI)) (hf : j_X3_readSum_70_48 g v0 v1 v2 v3 v5 v6 v7 I R J = some o) (hk : (zw_se (fun t => zy_V X M_X3_readSum (dg + 2) P 48 [.ref v0, .ref v1, .int v2, .int v3, .null, .int v5, .int t.1, .int t.2.1] [] (t.2.2, R, J)) (fun r => zy_V X M_X3_readSum (dg + 2) P 108 [.ref v0, .ref v1, .int v2, .int v3, .null, .int v5, .int r.1, .null] [] (r.2, R, J)) o)) : zy_V X M_X3_readSum (dg + 2) P 70 [.ref v0, .ref v1, .int v2, .int v3, .null, .int v5, .int v6, .int v7] [] (I, R, J) := by
  unfold j_X3_readSum_70_48 at hf
  refine zv_aload_n (pc := 70) d_X3_readSum_70 rfl ?_
  refine zv_aload_n (pc := 71) d_X3_readSum_71 rfl ?_
  refine zv_iload (pc := 72) d_X3_readSum_72 rfl ?_
  refine zv_iconst (pc := 74) d_X3_readSum_74 zc_i_1 ?_
  obtain ⟨g10, hf⟩ := zw_gcE hf (by decide)
  obtain ⟨q11, hq11, hf⟩ := zw_bdE hf
  refine zx_callV (pc := 75) (As := [.ref v1, .int v6, .int 1]) (o := v0) (st := []) (d2 := 0) (M2 := M_X3_take) (P2 := (fun r S => r = (some (.int q11.1)) ∧ S = (q11.2, R, J))) d_X3_readSum_75 (zw_mG (List.mem_of_getElem? (i := 707) (by decide +kernel)) rfl) ce_X3_take (zw_RvK g10 rfl rfl) (Nat.le_of_ble_eq_true rfl) rfl (Nat.le_of_ble_eq_true rfl) (by omega) (c_X3_take X v0 v1 v6 1 I R J _ hq11 ⟨rfl, rfl⟩) ?_
  rintro _ _ ⟨rfl, rfl⟩
  show zy_V X M_X3_readSum (dg + 2) P (75 + 3) [.ref v0, .ref v1, .int v2, .int v3, .null, .int v5, .int v6, .int v7] [.int q11.1] (q11.2, R, J)
  refine zv_pop (pc := 78) d_X3_readSum_78 rfl ?_
  refine zv_aload_n (pc := 79) d_X3_readSum_79 rfl ?_
  refine zv_aload_n (pc := 80) d_X3_readSum_80 rfl ?_
  refine zv_iload_n (pc := 81) d_X3_readSum_81 rfl ?_
  obtain ⟨q12, hq12, hf⟩ := zw_bdE hf
  refine zx_callV (pc := 82) (As := [.ref v1, .int v2]) (o := v0) (st := []) (d2 := (dg + 1)) (M2 := M_X3_readUnit) (P2 := (fun r S => r = none ∧ S = (q12, R, J))) d_X3_readSum_82 (zw_mG (List.mem_of_getElem? (i := 793) (by decide +kernel)) rfl) ce_X3_readUnit (zw_RvK g10 rfl rfl) (Nat.le_of_ble_eq_true rfl) rfl (Nat.le_of_ble_eq_true rfl) (by omega) (c_X3_readUnit X g dg hdg hg v0 v1 v2 q11.2 R J _ hq12 ⟨rfl, rfl⟩) ?_
  rintro _ _ ⟨rfl, rfl⟩
  show zy_V X M_X3_readSum (dg + 2) P (82 + 3) [.ref v0, .ref v1, .int v2, .int v3, .null, .int v5, .int v6, .int v7] [] (q12, R, J)
  refine zv_aload_n (pc := 85) d_X3_readSum_85 rfl ?_
  obtain ⟨g13, hf⟩ := zw_gcE hf (by decide)
  refine zx_getR (pc := 86) d_X3_readSum_86 lk_CutStones_Reader_21 (by decide) g10 g13 ?_
  refine zv_iload (pc := 89) d_X3_readSum_89 rfl ?_
  refine zv_iconst (pc := 91) d_X3_readSum_91 zc_i_0 ?_
  obtain ⟨q14, hq14, hf⟩ := zw_bdE hf
  refine zx_callV (pc := 92) (As := [.int v6, .int 0]) (o := (R v0 2)) (st := []) (d2 := 0) (M2 := M_X1_addCode) (P2 := (fun r S => r = none ∧ S = (q14, R, J))) d_X3_readSum_92 (zw_mG (List.mem_of_getElem? (i := 797) (by decide +kernel)) rfl) ce_X1_addCode (zw_RvK g13 rfl rfl) (Nat.le_of_ble_eq_true rfl) rfl (Nat.le_of_ble_eq_true rfl) (by omega) (c_X1_addCode X (R v0 2) v6 0 q12 R J _ hq14 ⟨rfl, rfl⟩) ?_
  rintro _ _ ⟨rfl, rfl⟩
  show zy_V X M_X3_readSum (dg + 2) P (92 + 3) [.ref v0, .ref v1, .int v2, .int v3, .null, .int v5, .int v6, .int v7] [] (q14, R, J)
  refine zv_aload_n (pc := 95) d_X3_readSum_95 rfl ?_
  refine zv_aload_n (pc := 96) d_X3_readSum_96 rfl ?_
  obtain ⟨q15, hq15, hf⟩ := zw_bdE hf
  refine zx_callV (pc := 97) (As := [.ref v1]) (o := v0) (st := []) (d2 := 0) (M2 := M_X3_kind) (P2 := (fun r S => r = (some (.int q15)) ∧ S = (q14, R, J))) d_X3_readSum_97 (zw_mG (List.mem_of_getElem? (i := 746) (by decide +kernel)) rfl) ce_X3_kind (zw_RvK g10 rfl rfl) (Nat.le_of_ble_eq_true rfl) rfl (Nat.le_of_ble_eq_true rfl) (by omega) (c_X3_kind X v0 v1 q14 R J _ hq15 ⟨rfl, rfl⟩) ?_
  rintro _ _ ⟨rfl, rfl⟩
  show zy_V X M_X3_readSum (dg + 2) P (97 + 3) [.ref v0, .ref v1, .int v2, .int v3, .null, .int v5, .int v6, .int v7] [.int q15] (q14, R, J)
  refine zx_istore (pc := 100) (x2 := q15) (L2 := [.ref v0, .ref v1, .int v2, .int v3, .null, .int v5, .int q15, .int v7]) d_X3_readSum_100 (by decide) rfl rfl ?_
  obtain ⟨x16, ex16, hf⟩ := zw_letE hf
  refine zx_iinc (pc := 102) (x2 := x16) (L2 := [.ref v0, .ref v1, .int v2, .int v3, .null, .int v5, .int q15, .int x16]) d_X3_readSum_102 (by decide) rfl zc_i_1 ex16 rfl ?_
  refine zv_goto (pc := 105) (tg := 48) d_X3_readSum_105 (by decide) ?_
  cases hf
  exact zx_weak (zw_leS (zw_leS (zw_leS (zw_leS (zw_leN (zw_leS (zw_leS (zw_leS zw_leZ)))))))) hk
def s_X3_readSum_48 (g : Nat → Nat → Int32 → zI → zR → zJ → Option (zI)) (v0 : Nat) (v1 : Nat) (v2 : Int32) (v3 : Int32) (v5 : Int32) (R : zR) (J : zJ) (s : Int32 × Int32 × zI) : Option ((Int32 × Int32 × zI) ⊕ (Int32 × zI)) :=
  if 500 ≤ s.2.1 then some (.inr (s.1, s.2.2)) else if s.1 = 10 then j_X3_readSum_70_48 g v0 v1 v2 v3 v5 s.1 s.2.1 s.2.2 R J else if ¬ s.1 = 11 then some (.inr (s.1, s.2.2)) else j_X3_readSum_70_48 g v0 v1 v2 v3 v5 s.1 s.2.1 s.2.2 R J
theorem s_X3_readSum_48_ok (X : zw_X) (P : Option Value → aS → Prop) (g : Nat → Nat → Int32 → zI → zR → zJ → Option (zI)) (dg : Nat) (hdg : 1 ≤ dg) (hg : ∀ (v0 : Nat) (v1 : Nat) (v2 : Int32) (I : zI) (R : zR) (J : zJ) {P : Option Value → aS → Prop} (o : zI), g v0 v1 v2 I R J = some o → P none (o, R, J) → zw_C X M_X3_readSum dg 0 0 199 [.ref v0, .ref v1, .int v2] (I, R, J) P) (v0 : Nat) (v1 : Nat) (v2 : Int32) (v3 : Int32) (v5 : Int32) (R : zR) (J : zJ) (s : Int32 × Int32 × zI) (o : (Int32 × Int32 × zI) ⊕ (Int32 × zI)) (hf : s_X3_readSum_48 g v0 v1 v2 v3 v5 R J s = some o) (hk : (zw_se (fun t => zy_V X M_X3_readSum (dg + 2) P 48 [.ref v0, .ref v1, .int v2, .int v3, .null, .int v5, .int t.1, .int t.2.1] [] (t.2.2, R, J)) (fun r => zy_V X M_X3_readSum (dg + 2) P 108 [.ref v0, .ref v1, .int v2, .int v3, .null, .int v5, .int r.1, .null] [] (r.2, R, J)) o)) : zy_V X M_X3_readSum (dg + 2) P 48 [.ref v0, .ref v1, .int v2, .int v3, .null, .int v5, .int s.1, .int s.2.1] [] (s.2.2, R, J) := by
  unfold s_X3_readSum_48 at hf
  refine zv_iload (pc := 48) d_X3_readSum_48 rfl ?_
  refine zv_sipush (pc := 50) d_X3_readSum_50 zc_s_500 ?_
  rcases zw_ifE hf with ⟨c8, hf⟩ | ⟨c8, hf⟩
  · refine zv_icmp_ge (pc := 53) (tg := 108) d_X3_readSum_53 (by decide) (fun _ => ?_) (fun q => absurd c8 q)
    cases hf
    exact zx_weak (zw_leS (zw_leS (zw_leS (zw_leS (zw_leN (zw_leS (zw_leS (zw_leN zw_leZ)))))))) hk
  · refine zv_icmp_ge (pc := 53) (tg := 108) d_X3_readSum_53 (by decide) (fun q => absurd q c8) (fun _ => ?_)
    refine zv_iload (pc := 56) d_X3_readSum_56 rfl ?_
    refine zv_bipush (pc := 58) d_X3_readSum_58 zc_b_10 ?_
    rcases zw_ifE hf with ⟨c9, hf⟩ | ⟨c9, hf⟩
    · refine zv_icmp_eq (pc := 60) (tg := 70) d_X3_readSum_60 (by decide) (fun _ => ?_) (fun q => absurd c9 q)
      exact zx_weak (zw_leS (zw_leS (zw_leS (zw_leS (zw_leN (zw_leS (zw_leS (zw_leS zw_leZ)))))))) (j_X3_readSum_70_48_ok X P g dg hdg hg v0 v1 v2 v3 v5 s.1 s.2.1 s.2.2 R J _ hf hk)
    · refine zv_icmp_eq (pc := 60) (tg := 70) d_X3_readSum_60 (by decide) (fun q => absurd q c9) (fun _ => ?_)
      refine zv_iload (pc := 63) d_X3_readSum_63 rfl ?_
      refine zv_bipush (pc := 65) d_X3_readSum_65 zc_b_11 ?_
      rcases zw_ifE hf with ⟨c17, hf⟩ | ⟨c17, hf⟩
      · refine zv_icmp_ne (pc := 67) (tg := 108) d_X3_readSum_67 (by decide) (fun _ => ?_) (fun q => absurd q c17)
        cases hf
        exact zx_weak (zw_leS (zw_leS (zw_leS (zw_leS (zw_leN (zw_leS (zw_leS (zw_leN zw_leZ)))))))) hk
      · refine zv_icmp_ne (pc := 67) (tg := 108) d_X3_readSum_67 (by decide) (fun q => absurd q c17) (fun _ => ?_)
        exact zx_weak (zw_leS (zw_leS (zw_leS (zw_leS (zw_leN (zw_leS (zw_leS (zw_leS zw_leZ)))))))) (j_X3_readSum_70_48_ok X P g dg hdg hg v0 v1 v2 v3 v5 s.1 s.2.1 s.2.2 R J _ hf hk)
theorem s_X3_readSum_48_lp (X : zw_X) (P : Option Value → aS → Prop) (g : Nat → Nat → Int32 → zI → zR → zJ → Option (zI)) (dg : Nat) (hdg : 1 ≤ dg) (hg : ∀ (v0 : Nat) (v1 : Nat) (v2 : Int32) (I : zI) (R : zR) (J : zJ) {P : Option Value → aS → Prop} (o : zI), g v0 v1 v2 I R J = some o → P none (o, R, J) → zw_C X M_X3_readSum dg 0 0 199 [.ref v0, .ref v1, .int v2] (I, R, J) P) (v0 : Nat) (v1 : Nat) (v2 : Int32) (v3 : Int32) (v5 : Int32) (R : zR) (J : zJ) (n : Nat) (s : Int32 × Int32 × zI) (r : Int32 × zI) (h : zw_it (s_X3_readSum_48 g v0 v1 v2 v3 v5 R J) n s = some r) (hq : zy_V X M_X3_readSum (dg + 2) P 108 [.ref v0, .ref v1, .int v2, .int v3, .null, .int v5, .int r.1, .null] [] (r.2, R, J)) : zy_V X M_X3_readSum (dg + 2) P 48 [.ref v0, .ref v1, .int v2, .int v3, .null, .int v5, .int s.1, .int s.2.1] [] (s.2.2, R, J) :=
  zw_itE (A := (fun t : Int32 × Int32 × zI => zy_V X M_X3_readSum (dg + 2) P 48 [.ref v0, .ref v1, .int v2, .int v3, .null, .int v5, .int t.1, .int t.2.1] [] (t.2.2, R, J))) (Q := (fun r : Int32 × zI => zy_V X M_X3_readSum (dg + 2) P 108 [.ref v0, .ref v1, .int v2, .int v3, .null, .int v5, .int r.1, .null] [] (r.2, R, J))) (fun s o h1 h2 => s_X3_readSum_48_ok X P g dg hdg hg v0 v1 v2 v3 v5 R J s o h1 h2) n s r h hq
def j_X3_readSum_155_19 (g : Nat → Nat → Int32 → zI → zR → zJ → Option (zI)) (v0 : Nat) (v1 : Nat) (v2 : Int32) (v3 : Int32) (v5 : Int32) (s0 : Int32) (I : zI) (R : zR) (J : zJ) : Option ((Int32 × Int32 × Int32 × zI) ⊕ (zI)) :=
  zw_let (v5 + 1 : Int32) fun x24 => (some (.inl (v3, s0, x24, I)))
theorem j_X3_readSum_155_19_ok (X : zw_X) (P : Option Value → aS → Prop) (g : Nat → Nat → Int32 → zI → zR → zJ → Option (zI)) (dg : Nat) (hdg : 1 ≤ dg) (hg : ∀ (v0 : Nat) (v1 : Nat) (v2 : Int32) (I : zI) (R : zR) (J : zJ) {P : Option Value → aS → Prop} (o : zI), g v0 v1 v2 I R J = some o → P none (o, R, J) → zw_C X M_X3_readSum dg 0 0 199 [.ref v0, .ref v1, .int v2] (I, R, J) P) (v0 : Nat) (v1 : Nat) (v2 : Int32) (v3 : Int32) (v5 : Int32) (s0 : Int32) (I : zI) (R : zR) (J : zJ) (o : (Int32 × Int32 × Int32 × zI) ⊕ (zI)) (hf : j_X3_readSum_155_19 g v0 v1 v2 v3 v5 s0 I R J = some o) (hk : (zw_se (fun t => zy_V X M_X3_readSum (dg + 2) P 19 [.ref v0, .ref v1, .int v2, .int t.1, .int t.2.1, .int t.2.2.1, .null, .null] [] (t.2.2.2, R, J)) (fun r => zy_V X M_X3_readSum (dg + 2) P 163 [.null, .null, .null, .null, .null, .null, .null, .null] [] (r, R, J)) o)) : zy_V X M_X3_readSum (dg + 2) P 155 [.ref v0, .ref v1, .int v2, .int v3, .null, .int v5, .null, .null] [.int s0] (I, R, J) := by
  unfold j_X3_readSum_155_19 at hf
  refine zx_istore (pc := 155) (x2 := s0) (L2 := [.ref v0, .ref v1, .int v2, .int v3, .int s0, .int v5, .null, .null]) d_X3_readSum_155 (by decide) rfl rfl ?_
  obtain ⟨x24, ex24, hf⟩ := zw_letE hf
  refine zx_iinc (pc := 157) (x2 := x24) (L2 := [.ref v0, .ref v1, .int v2, .int v3, .int s0, .int x24, .null, .null]) d_X3_readSum_157 (by decide) rfl zc_i_1 ex24 rfl ?_
  refine zv_goto (pc := 160) (tg := 19) d_X3_readSum_160 (by decide) ?_
  cases hf
  exact zx_weak (zw_leS (zw_leS (zw_leS (zw_leS (zw_leS (zw_leS (zw_leN (zw_leN zw_leZ)))))))) hk
def j_X3_readSum_154_19 (g : Nat → Nat → Int32 → zI → zR → zJ → Option (zI)) (v0 : Nat) (v1 : Nat) (v2 : Int32) (v3 : Int32) (v5 : Int32) (I : zI) (R : zR) (J : zJ) : Option ((Int32 × Int32 × Int32 × zI) ⊕ (zI)) :=
  j_X3_readSum_155_19 g v0 v1 v2 v3 v5 0 I R J
theorem j_X3_readSum_154_19_ok (X : zw_X) (P : Option Value → aS → Prop) (g : Nat → Nat → Int32 → zI → zR → zJ → Option (zI)) (dg : Nat) (hdg : 1 ≤ dg) (hg : ∀ (v0 : Nat) (v1 : Nat) (v2 : Int32) (I : zI) (R : zR) (J : zJ) {P : Option Value → aS → Prop} (o : zI), g v0 v1 v2 I R J = some o → P none (o, R, J) → zw_C X M_X3_readSum dg 0 0 199 [.ref v0, .ref v1, .int v2] (I, R, J) P) (v0 : Nat) (v1 : Nat) (v2 : Int32) (v3 : Int32) (v5 : Int32) (I : zI) (R : zR) (J : zJ) (o : (Int32 × Int32 × Int32 × zI) ⊕ (zI)) (hf : j_X3_readSum_154_19 g v0 v1 v2 v3 v5 I R J = some o) (hk : (zw_se (fun t => zy_V X M_X3_readSum (dg + 2) P 19 [.ref v0, .ref v1, .int v2, .int t.1, .int t.2.1, .int t.2.2.1, .null, .null] [] (t.2.2.2, R, J)) (fun r => zy_V X M_X3_readSum (dg + 2) P 163 [.null, .null, .null, .null, .null, .null, .null, .null] [] (r, R, J)) o)) : zy_V X M_X3_readSum (dg + 2) P 154 [.ref v0, .ref v1, .int v2, .int v3, .null, .int v5, .null, .null] [] (I, R, J) := by
  unfold j_X3_readSum_154_19 at hf
  refine zv_iconst (pc := 154) d_X3_readSum_154 zc_i_0 ?_
  exact zx_weak (zw_leS (zw_leS (zw_leS (zw_leS (zw_leN (zw_leS (zw_leN (zw_leN zw_leZ)))))))) (j_X3_readSum_155_19_ok X P g dg hdg hg v0 v1 v2 v3 v5 0 I R J _ hf hk)
def j_X3_readSum_139_19 (g : Nat → Nat → Int32 → zI → zR → zJ → Option (zI)) (v0 : Nat) (v1 : Nat) (v2 : Int32) (v3 : Int32) (v5 : Int32) (v6 : Int32) (I : zI) (R : zR) (J : zJ) : Option ((Int32 × Int32 × Int32 × zI) ⊕ (zI)) :=
  zw_g (zw_gc v0 3) ((f_X3_take v0 v1 v6 1 I R).bind fun q22 => (if q22.1 = 0 then j_X3_readSum_154_19 g v0 v1 v2 v3 v5 q22.2 R J else j_X3_readSum_155_19 g v0 v1 v2 v3 v5 1 q22.2 R J))
theorem j_X3_readSum_139_19_ok (X : zw_X) (P : Option Value → aS → Prop) (g : Nat → Nat → Int32 → zI → zR → zJ → Option (zI)) (dg : Nat) (hdg : 1 ≤ dg) (hg : ∀ (v0 : Nat) (v1 : Nat) (v2 : Int32) (I : zI) (R : zR) (J : zJ) {P : Option Value → aS → Prop} (o : zI), g v0 v1 v2 I R J = some o → P none (o, R, J) → zw_C X M_X3_readSum dg 0 0 199 [.ref v0, .ref v1, .int v2] (I, R, J) P) (v0 : Nat) (v1 : Nat) (v2 : Int32) (v3 : Int32) (v5 : Int32) (v6 : Int32) (I : zI) (R : zR) (J : zJ) (o : (Int32 × Int32 × Int32 × zI) ⊕ (zI)) (hf : j_X3_readSum_139_19 g v0 v1 v2 v3 v5 v6 I R J = some o) (hk : (zw_se (fun t => zy_V X M_X3_readSum (dg + 2) P 19 [.ref v0, .ref v1, .int v2, .int t.1, .int t.2.1, .int t.2.2.1, .null, .null] [] (t.2.2.2, R, J)) (fun r => zy_V X M_X3_readSum (dg + 2) P 163 [.null, .null, .null, .null, .null, .null, .null, .null] [] (r, R, J)) o)) : zy_V X M_X3_readSum (dg + 2) P 139 [.ref v0, .ref v1, .int v2, .int v3, .null, .int v5, .int v6, .null] [] (I, R, J) := by
  unfold j_X3_readSum_139_19 at hf
  refine zv_aload_n (pc := 139) d_X3_readSum_139 rfl ?_
  refine zv_aload_n (pc := 140) d_X3_readSum_140 rfl ?_
  refine zv_iload (pc := 141) d_X3_readSum_141 rfl ?_
  refine zv_iconst (pc := 143) d_X3_readSum_143 zc_i_1 ?_
  obtain ⟨g21, hf⟩ := zw_gcE hf (by decide)
  obtain ⟨q22, hq22, hf⟩ := zw_bdE hf
  refine zx_callV (pc := 144) (As := [.ref v1, .int v6, .int 1]) (o := v0) (st := []) (d2 := 0) (M2 := M_X3_take) (P2 := (fun r S => r = (some (.int q22.1)) ∧ S = (q22.2, R, J))) d_X3_readSum_144 (zw_mG (List.mem_of_getElem? (i := 707) (by decide +kernel)) rfl) ce_X3_take (zw_RvK g21 rfl rfl) (Nat.le_of_ble_eq_true rfl) rfl (Nat.le_of_ble_eq_true rfl) (by omega) (c_X3_take X v0 v1 v6 1 I R J _ hq22 ⟨rfl, rfl⟩) ?_
  rintro _ _ ⟨rfl, rfl⟩
  show zy_V X M_X3_readSum (dg + 2) P (144 + 3) [.ref v0, .ref v1, .int v2, .int v3, .null, .int v5, .int v6, .null] [.int q22.1] (q22.2, R, J)
  rcases zw_ifE hf with ⟨c23, hf⟩ | ⟨c23, hf⟩
  · refine zv_if_eq (pc := 147) (tg := 154) d_X3_readSum_147 (by decide) (fun _ => ?_) (fun q => absurd c23 q)
    exact zx_weak (zw_leS (zw_leS (zw_leS (zw_leS (zw_leN (zw_leS (zw_leN (zw_leN zw_leZ)))))))) (j_X3_readSum_154_19_ok X P g dg hdg hg v0 v1 v2 v3 v5 q22.2 R J _ hf hk)
  · refine zv_if_eq (pc := 147) (tg := 154) d_X3_readSum_147 (by decide) (fun q => absurd q c23) (fun _ => ?_)
    refine zv_iconst (pc := 150) d_X3_readSum_150 zc_i_1 ?_
    refine zv_goto (pc := 151) (tg := 155) d_X3_readSum_151 (by decide) ?_
    exact zx_weak (zw_leS (zw_leS (zw_leS (zw_leS (zw_leN (zw_leS (zw_leN (zw_leN zw_leZ)))))))) (j_X3_readSum_155_19_ok X P g dg hdg hg v0 v1 v2 v3 v5 1 q22.2 R J _ hf hk)
def j_X3_readSum_122_19 (g : Nat → Nat → Int32 → zI → zR → zJ → Option (zI)) (v0 : Nat) (v1 : Nat) (v2 : Int32) (v5 : Int32) (v6 : Int32) (I : zI) (R : zR) (J : zJ) : Option ((Int32 × Int32 × Int32 × zI) ⊕ (zI)) :=
  if v6 = 8 then j_X3_readSum_139_19 g v0 v1 v2 v6 v5 v6 I R J else if ¬ v6 = 9 then j_X3_readSum_154_19 g v0 v1 v2 v6 v5 I R J else j_X3_readSum_139_19 g v0 v1 v2 v6 v5 v6 I R J
theorem j_X3_readSum_122_19_ok (X : zw_X) (P : Option Value → aS → Prop) (g : Nat → Nat → Int32 → zI → zR → zJ → Option (zI)) (dg : Nat) (hdg : 1 ≤ dg) (hg : ∀ (v0 : Nat) (v1 : Nat) (v2 : Int32) (I : zI) (R : zR) (J : zJ) {P : Option Value → aS → Prop} (o : zI), g v0 v1 v2 I R J = some o → P none (o, R, J) → zw_C X M_X3_readSum dg 0 0 199 [.ref v0, .ref v1, .int v2] (I, R, J) P) (v0 : Nat) (v1 : Nat) (v2 : Int32) (v5 : Int32) (v6 : Int32) (I : zI) (R : zR) (J : zJ) (o : (Int32 × Int32 × Int32 × zI) ⊕ (zI)) (hf : j_X3_readSum_122_19 g v0 v1 v2 v5 v6 I R J = some o) (hk : (zw_se (fun t => zy_V X M_X3_readSum (dg + 2) P 19 [.ref v0, .ref v1, .int v2, .int t.1, .int t.2.1, .int t.2.2.1, .null, .null] [] (t.2.2.2, R, J)) (fun r => zy_V X M_X3_readSum (dg + 2) P 163 [.null, .null, .null, .null, .null, .null, .null, .null] [] (r, R, J)) o)) : zy_V X M_X3_readSum (dg + 2) P 122 [.ref v0, .ref v1, .int v2, .null, .null, .int v5, .int v6, .null] [] (I, R, J) := by
  unfold j_X3_readSum_122_19 at hf
  refine zv_iload (pc := 122) d_X3_readSum_122 rfl ?_
  refine zx_istore_n (pc := 124) (x2 := v6) (L2 := [.ref v0, .ref v1, .int v2, .int v6, .null, .int v5, .int v6, .null]) d_X3_readSum_124 (by decide) rfl rfl ?_
  refine zv_iload (pc := 125) d_X3_readSum_125 rfl ?_
  refine zv_bipush (pc := 127) d_X3_readSum_127 zc_b_8 ?_
  rcases zw_ifE hf with ⟨c20, hf⟩ | ⟨c20, hf⟩
  · refine zv_icmp_eq (pc := 129) (tg := 139) d_X3_readSum_129 (by decide) (fun _ => ?_) (fun q => absurd c20 q)
    exact zx_weak (zw_leS (zw_leS (zw_leS (zw_leS (zw_leN (zw_leS (zw_leS (zw_leN zw_leZ)))))))) (j_X3_readSum_139_19_ok X P g dg hdg hg v0 v1 v2 v6 v5 v6 I R J _ hf hk)
  · refine zv_icmp_eq (pc := 129) (tg := 139) d_X3_readSum_129 (by decide) (fun q => absurd q c20) (fun _ => ?_)
    refine zv_iload (pc := 132) d_X3_readSum_132 rfl ?_
    refine zv_bipush (pc := 134) d_X3_readSum_134 zc_b_9 ?_
    rcases zw_ifE hf with ⟨c25, hf⟩ | ⟨c25, hf⟩
    · refine zv_icmp_ne (pc := 136) (tg := 154) d_X3_readSum_136 (by decide) (fun _ => ?_) (fun q => absurd q c25)
      exact zx_weak (zw_leS (zw_leS (zw_leS (zw_leS (zw_leN (zw_leS (zw_leN (zw_leN zw_leZ)))))))) (j_X3_readSum_154_19_ok X P g dg hdg hg v0 v1 v2 v6 v5 I R J _ hf hk)
    · refine zv_icmp_ne (pc := 136) (tg := 154) d_X3_readSum_136 (by decide) (fun q => absurd q c25) (fun _ => ?_)
      exact zx_weak (zw_leS (zw_leS (zw_leS (zw_leS (zw_leN (zw_leS (zw_leS (zw_leN zw_leZ)))))))) (j_X3_readSum_139_19_ok X P g dg hdg hg v0 v1 v2 v6 v5 v6 I R J _ hf hk)
def j_X3_readSum_108_19 (g : Nat → Nat → Int32 → zI → zR → zJ → Option (zI)) (v0 : Nat) (v1 : Nat) (v2 : Int32) (v3 : Int32) (v5 : Int32) (v6 : Int32) (I : zI) (R : zR) (J : zJ) : Option ((Int32 × Int32 × Int32 × zI) ⊕ (zI)) :=
  if v3 = (-1) then j_X3_readSum_122_19 g v0 v1 v2 v5 v6 I R J else zw_g (zw_gc v0 3) (zw_g (zw_gc (R v0 2) 1) ((f_X1_addCode (R v0 2) v3 0 I R).bind fun q28 => (j_X3_readSum_122_19 g v0 v1 v2 v5 v6 q28 R J)))
theorem j_X3_readSum_108_19_ok (X : zw_X) (P : Option Value → aS → Prop) (g : Nat → Nat → Int32 → zI → zR → zJ → Option (zI)) (dg : Nat) (hdg : 1 ≤ dg) (hg : ∀ (v0 : Nat) (v1 : Nat) (v2 : Int32) (I : zI) (R : zR) (J : zJ) {P : Option Value → aS → Prop} (o : zI), g v0 v1 v2 I R J = some o → P none (o, R, J) → zw_C X M_X3_readSum dg 0 0 199 [.ref v0, .ref v1, .int v2] (I, R, J) P) (v0 : Nat) (v1 : Nat) (v2 : Int32) (v3 : Int32) (v5 : Int32) (v6 : Int32) (I : zI) (R : zR) (J : zJ) (o : (Int32 × Int32 × Int32 × zI) ⊕ (zI)) (hf : j_X3_readSum_108_19 g v0 v1 v2 v3 v5 v6 I R J = some o) (hk : (zw_se (fun t => zy_V X M_X3_readSum (dg + 2) P 19 [.ref v0, .ref v1, .int v2, .int t.1, .int t.2.1, .int t.2.2.1, .null, .null] [] (t.2.2.2, R, J)) (fun r => zy_V X M_X3_readSum (dg + 2) P 163 [.null, .null, .null, .null, .null, .null, .null, .null] [] (r, R, J)) o)) : zy_V X M_X3_readSum (dg + 2) P 108 [.ref v0, .ref v1, .int v2, .int v3, .null, .int v5, .int v6, .null] [] (I, R, J) := by
  unfold j_X3_readSum_108_19 at hf
  refine zv_iload_n (pc := 108) d_X3_readSum_108 rfl ?_
  refine zv_iconst (pc := 109) d_X3_readSum_109 zc_i_m1 ?_
  rcases zw_ifE hf with ⟨c19, hf⟩ | ⟨c19, hf⟩
  · refine zv_icmp_eq (pc := 110) (tg := 122) d_X3_readSum_110 (by decide) (fun _ => ?_) (fun q => absurd c19 q)
    exact zx_weak (zw_leS (zw_leS (zw_leS (zw_leN (zw_leN (zw_leS (zw_leS (zw_leN zw_leZ)))))))) (j_X3_readSum_122_19_ok X P g dg hdg hg v0 v1 v2 v5 v6 I R J _ hf hk)
  · refine zv_icmp_eq (pc := 110) (tg := 122) d_X3_readSum_110 (by decide) (fun q => absurd q c19) (fun _ => ?_)
    refine zv_aload_n (pc := 113) d_X3_readSum_113 rfl ?_
    obtain ⟨g26, hf⟩ := zw_gcE hf (by decide)
    obtain ⟨g27, hf⟩ := zw_gcE hf (by decide)
    refine zx_getR (pc := 114) d_X3_readSum_114 lk_CutStones_Reader_21 (by decide) g26 g27 ?_
    refine zv_iload_n (pc := 117) d_X3_readSum_117 rfl ?_
    refine zv_iconst (pc := 118) d_X3_readSum_118 zc_i_0 ?_
    obtain ⟨q28, hq28, hf⟩ := zw_bdE hf
    refine zx_callV (pc := 119) (As := [.int v3, .int 0]) (o := (R v0 2)) (st := []) (d2 := 0) (M2 := M_X1_addCode) (P2 := (fun r S => r = none ∧ S = (q28, R, J))) d_X3_readSum_119 (zw_mG (List.mem_of_getElem? (i := 797) (by decide +kernel)) rfl) ce_X1_addCode (zw_RvK g27 rfl rfl) (Nat.le_of_ble_eq_true rfl) rfl (Nat.le_of_ble_eq_true rfl) (by omega) (c_X1_addCode X (R v0 2) v3 0 I R J _ hq28 ⟨rfl, rfl⟩) ?_
    rintro _ _ ⟨rfl, rfl⟩
    show zy_V X M_X3_readSum (dg + 2) P (119 + 3) [.ref v0, .ref v1, .int v2, .int v3, .null, .int v5, .int v6, .null] [] (q28, R, J)
    exact zx_weak (zw_leS (zw_leS (zw_leS (zw_leN (zw_leN (zw_leS (zw_leS (zw_leN zw_leZ)))))))) (j_X3_readSum_122_19_ok X P g dg hdg hg v0 v1 v2 v5 v6 q28 R J _ hf hk)
def s_X3_readSum_19 (g : Nat → Nat → Int32 → zI → zR → zJ → Option (zI)) (v0 : Nat) (v1 : Nat) (v2 : Int32) (R : zR) (J : zJ) (s : Int32 × Int32 × Int32 × zI) : Option ((Int32 × Int32 × Int32 × zI) ⊕ (zI)) :=
  if s.2.1 = 0 then some (.inr s.2.2.2) else if 500 ≤ s.2.2.1 then some (.inr s.2.2.2) else zw_g (zw_gc v0 3) ((f_X3_readUnit g v0 v1 v2 s.2.2.2 R J).bind fun q6 => ((f_X3_kind v0 v1 q6 R).bind fun q7 => ((zw_it (s_X3_readSum_48 g v0 v1 v2 s.1 s.2.2.1 R J) 1000000 (q7, 0, q6)).bind fun q18 => (j_X3_readSum_108_19 g v0 v1 v2 s.1 s.2.2.1 q18.1 q18.2 R J))))
theorem s_X3_readSum_19_ok (X : zw_X) (P : Option Value → aS → Prop) (g : Nat → Nat → Int32 → zI → zR → zJ → Option (zI)) (dg : Nat) (hdg : 1 ≤ dg) (hg : ∀ (v0 : Nat) (v1 : Nat) (v2 : Int32) (I : zI) (R : zR) (J : zJ) {P : Option Value → aS → Prop} (o : zI), g v0 v1 v2 I R J = some o → P none (o, R, J) → zw_C X M_X3_readSum dg 0 0 199 [.ref v0, .ref v1, .int v2] (I, R, J) P) (v0 : Nat) (v1 : Nat) (v2 : Int32) (R : zR) (J : zJ) (s : Int32 × Int32 × Int32 × zI) (o : (Int32 × Int32 × Int32 × zI) ⊕ (zI)) (hf : s_X3_readSum_19 g v0 v1 v2 R J s = some o) (hk : (zw_se (fun t => zy_V X M_X3_readSum (dg + 2) P 19 [.ref v0, .ref v1, .int v2, .int t.1, .int t.2.1, .int t.2.2.1, .null, .null] [] (t.2.2.2, R, J)) (fun r => zy_V X M_X3_readSum (dg + 2) P 163 [.null, .null, .null, .null, .null, .null, .null, .null] [] (r, R, J)) o)) : zy_V X M_X3_readSum (dg + 2) P 19 [.ref v0, .ref v1, .int v2, .int s.1, .int s.2.1, .int s.2.2.1, .null, .null] [] (s.2.2.2, R, J) := by
  unfold s_X3_readSum_19 at hf
  refine zv_iload (pc := 19) d_X3_readSum_19 rfl ?_
  rcases zw_ifE hf with ⟨c3, hf⟩ | ⟨c3, hf⟩
  · refine zv_if_eq (pc := 21) (tg := 163) d_X3_readSum_21 (by decide) (fun _ => ?_) (fun q => absurd c3 q)
    cases hf
    exact zx_weak (zw_leN (zw_leN (zw_leN (zw_leN (zw_leN (zw_leN (zw_leN (zw_leN zw_leZ)))))))) hk
  · refine zv_if_eq (pc := 21) (tg := 163) d_X3_readSum_21 (by decide) (fun q => absurd q c3) (fun _ => ?_)
    refine zv_iload (pc := 24) d_X3_readSum_24 rfl ?_
    refine zv_sipush (pc := 26) d_X3_readSum_26 zc_s_500 ?_
    rcases zw_ifE hf with ⟨c4, hf⟩ | ⟨c4, hf⟩
    · refine zv_icmp_ge (pc := 29) (tg := 163) d_X3_readSum_29 (by decide) (fun _ => ?_) (fun q => absurd c4 q)
      cases hf
      exact zx_weak (zw_leN (zw_leN (zw_leN (zw_leN (zw_leN (zw_leN (zw_leN (zw_leN zw_leZ)))))))) hk
    · refine zv_icmp_ge (pc := 29) (tg := 163) d_X3_readSum_29 (by decide) (fun q => absurd q c4) (fun _ => ?_)
      refine zv_aload_n (pc := 32) d_X3_readSum_32 rfl ?_
      refine zv_aload_n (pc := 33) d_X3_readSum_33 rfl ?_
      refine zv_iload_n (pc := 34) d_X3_readSum_34 rfl ?_
      obtain ⟨g5, hf⟩ := zw_gcE hf (by decide)
      obtain ⟨q6, hq6, hf⟩ := zw_bdE hf
      refine zx_callV (pc := 35) (As := [.ref v1, .int v2]) (o := v0) (st := []) (d2 := (dg + 1)) (M2 := M_X3_readUnit) (P2 := (fun r S => r = none ∧ S = (q6, R, J))) d_X3_readSum_35 (zw_mG (List.mem_of_getElem? (i := 793) (by decide +kernel)) rfl) ce_X3_readUnit (zw_RvK g5 rfl rfl) (Nat.le_of_ble_eq_true rfl) rfl (Nat.le_of_ble_eq_true rfl) (by omega) (c_X3_readUnit X g dg hdg hg v0 v1 v2 s.2.2.2 R J _ hq6 ⟨rfl, rfl⟩) ?_
      rintro _ _ ⟨rfl, rfl⟩
      show zy_V X M_X3_readSum (dg + 2) P (35 + 3) [.ref v0, .ref v1, .int v2, .int s.1, .int s.2.1, .int s.2.2.1, .null, .null] [] (q6, R, J)
      refine zv_aload_n (pc := 38) d_X3_readSum_38 rfl ?_
      refine zv_aload_n (pc := 39) d_X3_readSum_39 rfl ?_
      obtain ⟨q7, hq7, hf⟩ := zw_bdE hf
      refine zx_callV (pc := 40) (As := [.ref v1]) (o := v0) (st := []) (d2 := 0) (M2 := M_X3_kind) (P2 := (fun r S => r = (some (.int q7)) ∧ S = (q6, R, J))) d_X3_readSum_40 (zw_mG (List.mem_of_getElem? (i := 746) (by decide +kernel)) rfl) ce_X3_kind (zw_RvK g5 rfl rfl) (Nat.le_of_ble_eq_true rfl) rfl (Nat.le_of_ble_eq_true rfl) (by omega) (c_X3_kind X v0 v1 q6 R J _ hq7 ⟨rfl, rfl⟩) ?_
      rintro _ _ ⟨rfl, rfl⟩
      show zy_V X M_X3_readSum (dg + 2) P (40 + 3) [.ref v0, .ref v1, .int v2, .int s.1, .int s.2.1, .int s.2.2.1, .null, .null] [.int q7] (q6, R, J)
      refine zx_istore (pc := 43) (x2 := q7) (L2 := [.ref v0, .ref v1, .int v2, .int s.1, .int s.2.1, .int s.2.2.1, .int q7, .null]) d_X3_readSum_43 (by decide) rfl rfl ?_
      refine zv_iconst (pc := 45) d_X3_readSum_45 zc_i_0 ?_
      refine zx_istore (pc := 46) (x2 := 0) (L2 := [.ref v0, .ref v1, .int v2, .int s.1, .int s.2.1, .int s.2.2.1, .int q7, .int 0]) d_X3_readSum_46 (by decide) rfl rfl ?_
      obtain ⟨q18, hq18, hf⟩ := zw_bdE hf
      refine zx_weak (L' := [.ref v0, .ref v1, .int v2, .int s.1, .null, .int s.2.2.1, .int q7, .int 0]) (zw_leS (zw_leS (zw_leS (zw_leS (zw_leN (zw_leS (zw_leS (zw_leS zw_leZ)))))))) (s_X3_readSum_48_lp X P g dg hdg hg v0 v1 v2 s.1 s.2.2.1 R J _ _ _ hq18 ?_)
      show zy_V X M_X3_readSum (dg + 2) P 108 [.ref v0, .ref v1, .int v2, .int s.1, .null, .int s.2.2.1, .int q18.1, .null] [] (q18.2, R, J)
      exact zx_weak (zw_leS (zw_leS (zw_leS (zw_leS (zw_leN (zw_leS (zw_leS (zw_leN zw_leZ)))))))) (j_X3_readSum_108_19_ok X P g dg hdg hg v0 v1 v2 s.1 s.2.2.1 q18.1 q18.2 R J _ hf hk)
theorem s_X3_readSum_19_lp (X : zw_X) (P : Option Value → aS → Prop) (g : Nat → Nat → Int32 → zI → zR → zJ → Option (zI)) (dg : Nat) (hdg : 1 ≤ dg) (hg : ∀ (v0 : Nat) (v1 : Nat) (v2 : Int32) (I : zI) (R : zR) (J : zJ) {P : Option Value → aS → Prop} (o : zI), g v0 v1 v2 I R J = some o → P none (o, R, J) → zw_C X M_X3_readSum dg 0 0 199 [.ref v0, .ref v1, .int v2] (I, R, J) P) (v0 : Nat) (v1 : Nat) (v2 : Int32) (R : zR) (J : zJ) (n : Nat) (s : Int32 × Int32 × Int32 × zI) (r : zI) (h : zw_it (s_X3_readSum_19 g v0 v1 v2 R J) n s = some r) (hq : zy_V X M_X3_readSum (dg + 2) P 163 [.null, .null, .null, .null, .null, .null, .null, .null] [] (r, R, J)) : zy_V X M_X3_readSum (dg + 2) P 19 [.ref v0, .ref v1, .int v2, .int s.1, .int s.2.1, .int s.2.2.1, .null, .null] [] (s.2.2.2, R, J) :=
  zw_itE (A := (fun t : Int32 × Int32 × Int32 × zI => zy_V X M_X3_readSum (dg + 2) P 19 [.ref v0, .ref v1, .int v2, .int t.1, .int t.2.1, .int t.2.2.1, .null, .null] [] (t.2.2.2, R, J))) (Q := (fun r : zI => zy_V X M_X3_readSum (dg + 2) P 163 [.null, .null, .null, .null, .null, .null, .null, .null] [] (r, R, J))) (fun s o h1 h2 => s_X3_readSum_19_ok X P g dg hdg hg v0 v1 v2 R J s o h1 h2) n s r h hq
def j_X3_readSum_14 (g : Nat → Nat → Int32 → zI → zR → zJ → Option (zI)) (v0 : Nat) (v1 : Nat) (v2 : Int32) (v3 : Int32) (s0 : Int32) (I : zI) (R : zR) (J : zJ) : Option (zI) :=
  (zw_it (s_X3_readSum_19 g v0 v1 v2 R J) 1000000 (v3, s0, 0, I)).bind fun q29 => (some q29)
theorem j_X3_readSum_14_ok (X : zw_X) (P : Option Value → aS → Prop) (g : Nat → Nat → Int32 → zI → zR → zJ → Option (zI)) (dg : Nat) (hdg : 1 ≤ dg) (hg : ∀ (v0 : Nat) (v1 : Nat) (v2 : Int32) (I : zI) (R : zR) (J : zJ) {P : Option Value → aS → Prop} (o : zI), g v0 v1 v2 I R J = some o → P none (o, R, J) → zw_C X M_X3_readSum dg 0 0 199 [.ref v0, .ref v1, .int v2] (I, R, J) P) (v0 : Nat) (v1 : Nat) (v2 : Int32) (v3 : Int32) (s0 : Int32) (I : zI) (R : zR) (J : zJ) (o : zI) (hf : j_X3_readSum_14 g v0 v1 v2 v3 s0 I R J = some o) (hk : P none (o, R, J)) : zy_V X M_X3_readSum (dg + 2) P 14 [.ref v0, .ref v1, .int v2, .int v3, .null, .null, .null, .null] [.int s0] (I, R, J) := by
  unfold j_X3_readSum_14 at hf
  refine zx_istore (pc := 14) (x2 := s0) (L2 := [.ref v0, .ref v1, .int v2, .int v3, .int s0, .null, .null, .null]) d_X3_readSum_14 (by decide) rfl rfl ?_
  refine zv_iconst (pc := 16) d_X3_readSum_16 zc_i_0 ?_
  refine zx_istore (pc := 17) (x2 := 0) (L2 := [.ref v0, .ref v1, .int v2, .int v3, .int s0, .int 0, .null, .null]) d_X3_readSum_17 (by decide) rfl rfl ?_
  obtain ⟨q29, hq29, hf⟩ := zw_bdE hf
  refine zx_weak (L' := [.ref v0, .ref v1, .int v2, .int v3, .int s0, .int 0, .null, .null]) (zw_leS (zw_leS (zw_leS (zw_leS (zw_leS (zw_leS (zw_leN (zw_leN zw_leZ)))))))) (s_X3_readSum_19_lp X P g dg hdg hg v0 v1 v2 R J _ _ _ hq29 ?_)
  show zy_V X M_X3_readSum (dg + 2) P 163 [.null, .null, .null, .null, .null, .null, .null, .null] [] (q29, R, J)
  cases hf
  exact zx_vret (pc := 163) d_X3_readSum_163 rfl hk
def f_X3_readSum (g : Nat → Nat → Int32 → zI → zR → zJ → Option (zI)) (v0 : Nat) (v1 : Nat) (v2 : Int32) (I : zI) (R : zR) (J : zJ) : Option (zI) :=
  zw_g (zw_gc v0 3) (if ¬ (I v0 0) = 0 then j_X3_readSum_14 g v0 v1 v2 (-1) 0 I R J else j_X3_readSum_14 g v0 v1 v2 (-1) 1 I R J)
theorem c_X3_readSum (X : zw_X) (g : Nat → Nat → Int32 → zI → zR → zJ → Option (zI)) (dg : Nat) (hdg : 1 ≤ dg) (hg : ∀ (v0 : Nat) (v1 : Nat) (v2 : Int32) (I : zI) (R : zR) (J : zJ) {P : Option Value → aS → Prop} (o : zI), g v0 v1 v2 I R J = some o → P none (o, R, J) → zw_C X M_X3_readSum dg 0 0 199 [.ref v0, .ref v1, .int v2] (I, R, J) P) (v0 : Nat) (v1 : Nat) (v2 : Int32) (I : zI) (R : zR) (J : zJ) {P : Option Value → aS → Prop} (o : zI) (hf : f_X3_readSum g v0 v1 v2 I R J = some o) (hk : P none (o, R, J)) : zw_C X M_X3_readSum (dg + 2) 0 0 199 [.ref v0, .ref v1, .int v2] (I, R, J) P := by
  show zy_V X M_X3_readSum (dg + 2) P 0 [.ref v0, .ref v1, .int v2, .null, .null, .null, .null, .null] [] (I, R, J)
  unfold f_X3_readSum at hf
  refine zv_iconst (pc := 0) d_X3_readSum_0 zc_i_m1 ?_
  refine zx_istore_n (pc := 1) (x2 := (-1)) (L2 := [.ref v0, .ref v1, .int v2, .int (-1), .null, .null, .null, .null]) d_X3_readSum_1 (by decide) rfl rfl ?_
  refine zv_aload_n (pc := 2) d_X3_readSum_2 rfl ?_
  obtain ⟨g1, hf⟩ := zw_gcE hf (by decide)
  refine zx_getI (pc := 3) d_X3_readSum_3 lk_CutStones_Reader_9 (by decide) g1 ?_
  rcases zw_ifE hf with ⟨c2, hf⟩ | ⟨c2, hf⟩
  · refine zv_if_ne (pc := 6) (tg := 13) d_X3_readSum_6 (by decide) (fun _ => ?_) (fun q => absurd q c2)
    refine zv_iconst (pc := 13) d_X3_readSum_13 zc_i_0 ?_
    exact zx_weak (zw_leS (zw_leS (zw_leS (zw_leS (zw_leN (zw_leN (zw_leN (zw_leN zw_leZ)))))))) (j_X3_readSum_14_ok X P g dg hdg hg v0 v1 v2 (-1) 0 I R J _ hf hk)
  · refine zv_if_ne (pc := 6) (tg := 13) d_X3_readSum_6 (by decide) (fun q => absurd q c2) (fun _ => ?_)
    refine zv_iconst (pc := 9) d_X3_readSum_9 zc_i_1 ?_
    refine zv_goto (pc := 10) (tg := 14) d_X3_readSum_10 (by decide) ?_
    exact zx_weak (zw_leS (zw_leS (zw_leS (zw_leS (zw_leN (zw_leN (zw_leN (zw_leN zw_leZ)))))))) (j_X3_readSum_14_ok X P g dg hdg hg v0 v1 v2 (-1) 1 I R J _ hf hk)
def r_X3_readSum : Nat → Nat → Nat → Int32 → zI → zR → zJ → Option (zI)
  | 0 => fun _ _ _ _ _ _ => none
  | n + 1 => f_X3_readSum (r_X3_readSum n)
theorem c_r_readSum (X : zw_X) : ∀ (n : Nat) (v0 : Nat) (v1 : Nat) (v2 : Int32) (I : zI) (R : zR) (J : zJ) {P : Option Value → aS → Prop} (o : zI), r_X3_readSum n v0 v1 v2 I R J = some o → P none (o, R, J) → zw_C X M_X3_readSum (1 + 2 * n) 0 0 199 [.ref v0, .ref v1, .int v2] (I, R, J) P
  | 0, v0, v1, v2, I, R, J, P, o, hf, hk => by cases hf
  | n + 1, v0, v1, v2, I, R, J, P, o, hf, hk => c_X3_readSum X (r_X3_readSum n) (1 + 2 * n) (by omega) (fun v0 v1 v2 I R J P o hf hk => c_r_readSum X n v0 v1 v2 I R J o hf hk) v0 v1 v2 I R J o hf hk
abbrev M_J1_charAt_3b067 : zw_M := (⟨"java/lang/StringLatin1", "charAt", "([BI)C"⟩, prog_18_method_2_code, 2, (Option.some Jvm.ClassFile.FieldType.char))
theorem d_J1_charAt_3b067_0 : decode M_J1_charAt_3b067.2.1 0 = .ok (.iload_n 1, 1) := by decide +kernel
theorem d_J1_charAt_3b067_1 : decode M_J1_charAt_3b067.2.1 1 = .ok (.aload_n 0, 1) := by decide +kernel
theorem d_J1_charAt_3b067_2 : decode M_J1_charAt_3b067.2.1 2 = .ok (.arraylength, 1) := by decide +kernel
theorem d_J1_charAt_3b067_3 : decode M_J1_charAt_3b067.2.1 3 = .ok (.invokestatic 9, 3) := by decide +kernel
theorem d_J1_charAt_3b067_6 : decode M_J1_charAt_3b067.2.1 6 = .ok (.aload_n 0, 1) := by decide +kernel
theorem d_J1_charAt_3b067_7 : decode M_J1_charAt_3b067.2.1 7 = .ok (.iload_n 1, 1) := by decide +kernel
theorem d_J1_charAt_3b067_8 : decode M_J1_charAt_3b067.2.1 8 = .ok (.baload, 1) := by decide +kernel
theorem d_J1_charAt_3b067_9 : decode M_J1_charAt_3b067.2.1 9 = .ok (.sipush 255, 3) := by decide +kernel
theorem d_J1_charAt_3b067_12 : decode M_J1_charAt_3b067.2.1 12 = .ok (.iand, 1) := by decide +kernel
theorem d_J1_charAt_3b067_13 : decode M_J1_charAt_3b067.2.1 13 = .ok (.i2c, 1) := by decide +kernel
theorem d_J1_charAt_3b067_14 : decode M_J1_charAt_3b067.2.1 14 = .ok (.ireturn, 1) := by decide +kernel
theorem ce_J1_charAt_3b067 : zw_CeS M_J1_charAt_3b067 2 := ⟨⟨⟨by decide +kernel, by decide +kernel, by decide +kernel⟩, (zw_mG (List.mem_of_getElem? (i := 588) (by decide +kernel)) rfl), (zw_mG (List.mem_of_getElem? (i := 110) (by decide +kernel)) rfl), by decide, by decide +kernel⟩, (zw_mG (List.mem_of_getElem? (i := 587) (by decide +kernel)) rfl)⟩
def f_J1_charAt_3b067 (v0 : Nat) (v1 : Int32)  : Option (Int32) :=
  zw_g (decide (v0 < 3)) ((f_J0_checkIndex_df160 v1 (Int32.ofNat (zw_len.getD v0 0))).bind fun q2 => (zw_g (zw_in v1 (zw_len.getD v0 0)) (some ((Int32.toUInt32 (((zw_byt.getD v0 []).getD (Int32.toNatClampNeg v1) 0) &&& 255) % 65536).toInt32))))
theorem c_J1_charAt_3b067 (X : zw_X) (v0 : Nat) (v1 : Int32) (I : zI) (R : zR) (J : zJ) {P : Option Value → aS → Prop} (o : Int32) (hf : f_J1_charAt_3b067 v0 v1  = some o) (hk : P (some (.int o)) (I, R, J)) : zw_C X M_J1_charAt_3b067 2 0 0 199 [.ref (1009 + v0), .int v1] (I, R, J) P := by
  show zy_V X M_J1_charAt_3b067 2 P 0 [.ref (1009 + v0), .int v1] [] (I, R, J)
  unfold f_J1_charAt_3b067 at hf
  refine zv_iload_n (pc := 0) d_J1_charAt_3b067_0 rfl ?_
  refine zv_aload_n (pc := 1) d_J1_charAt_3b067_1 rfl ?_
  obtain ⟨g1, hf⟩ := zw_gE hf
  have g1 := of_decide_eq_true g1
  refine zv_slen (pc := 2) d_J1_charAt_3b067_2 g1 ?_
  obtain ⟨q2, hq2, hf⟩ := zw_bdE hf
  refine zx_callS (pc := 3) (As := [.int v1, .int (Int32.ofNat (zw_len.getD v0 0))]) (st := []) (d2 := 1) (M2 := M_J0_checkIndex_df160) (P2 := (fun r S => r = none ∧ S = (I, R, J))) d_J1_charAt_3b067_3 (zw_mG (List.mem_of_getElem? (i := 589) (by decide +kernel)) rfl) ce_J0_checkIndex_df160 (Nat.le_of_ble_eq_true rfl) rfl (Nat.le_of_ble_eq_true rfl) (by decide) (c_J0_checkIndex_df160 X v1 (Int32.ofNat (zw_len.getD v0 0)) I R J _ hq2 ⟨rfl, rfl⟩) ?_
  rintro _ _ ⟨rfl, rfl⟩
  show zy_V X M_J1_charAt_3b067 2 P (3 + 3) [.ref (1009 + v0), .int v1] [] (I, R, J)
  refine zv_aload_n (pc := 6) d_J1_charAt_3b067_6 rfl ?_
  refine zv_iload_n (pc := 7) d_J1_charAt_3b067_7 rfl ?_
  obtain ⟨i3, hf⟩ := zw_inE hf
  refine zv_sbyt (pc := 8) d_J1_charAt_3b067_8 g1 i3 ?_
  refine zv_sipush (pc := 9) d_J1_charAt_3b067_9 zc_s_255 ?_
  refine zv_iand (pc := 12) d_J1_charAt_3b067_12 ?_
  refine zv_i2c (pc := 13) d_J1_charAt_3b067_13 ?_
  cases hf
  exact zx_cret (pc := 14) d_J1_charAt_3b067_14 rfl hk
abbrev M_X10_cell : zw_M := (⟨"CutStones", "cell", "(ZIII)I"⟩, prog_1_method_7_code, 6, (Option.some Jvm.ClassFile.FieldType.int))
theorem d_X10_cell_0 : decode M_X10_cell.2.1 0 = .ok (.aload_n 0, 1) := by decide +kernel
theorem d_X10_cell_1 : decode M_X10_cell.2.1 1 = .ok (.iload_n 1, 1) := by decide +kernel
theorem d_X10_cell_2 : decode M_X10_cell.2.1 2 = .ok (.iload_n 2, 1) := by decide +kernel
theorem d_X10_cell_3 : decode M_X10_cell.2.1 3 = .ok (.invokevirtual 116, 3) := by decide +kernel
theorem d_X10_cell_6 : decode M_X10_cell.2.1 6 = .ok (.ifCond .ne 5, 3) := by decide +kernel
theorem d_X10_cell_9 : decode M_X10_cell.2.1 9 = .ok (.iconst (-1), 1) := by decide +kernel
theorem d_X10_cell_10 : decode M_X10_cell.2.1 10 = .ok (.ireturn, 1) := by decide +kernel
theorem d_X10_cell_11 : decode M_X10_cell.2.1 11 = .ok (.aload_n 0, 1) := by decide +kernel
theorem d_X10_cell_12 : decode M_X10_cell.2.1 12 = .ok (.iload_n 1, 1) := by decide +kernel
theorem d_X10_cell_13 : decode M_X10_cell.2.1 13 = .ok (.iload_n 2, 1) := by decide +kernel
theorem d_X10_cell_14 : decode M_X10_cell.2.1 14 = .ok (.invokevirtual 120, 3) := by decide +kernel
theorem d_X10_cell_17 : decode M_X10_cell.2.1 17 = .ok (.astore 5, 2) := by decide +kernel
theorem d_X10_cell_19 : decode M_X10_cell.2.1 19 = .ok (.aload 5, 2) := by decide +kernel
theorem d_X10_cell_21 : decode M_X10_cell.2.1 21 = .ok (.iload_n 3, 1) := by decide +kernel
theorem d_X10_cell_22 : decode M_X10_cell.2.1 22 = .ok (.iload 4, 2) := by decide +kernel
theorem d_X10_cell_24 : decode M_X10_cell.2.1 24 = .ok (.invokevirtual 129, 3) := by decide +kernel
theorem d_X10_cell_27 : decode M_X10_cell.2.1 27 = .ok (.ifCond .eq 14, 3) := by decide +kernel
theorem d_X10_cell_30 : decode M_X10_cell.2.1 30 = .ok (.aload 5, 2) := by decide +kernel
theorem d_X10_cell_32 : decode M_X10_cell.2.1 32 = .ok (.iload_n 3, 1) := by decide +kernel
theorem d_X10_cell_33 : decode M_X10_cell.2.1 33 = .ok (.iload 4, 2) := by decide +kernel
theorem d_X10_cell_35 : decode M_X10_cell.2.1 35 = .ok (.invokevirtual 133, 3) := by decide +kernel
theorem d_X10_cell_38 : decode M_X10_cell.2.1 38 = .ok (.goto 4, 3) := by decide +kernel
theorem d_X10_cell_41 : decode M_X10_cell.2.1 41 = .ok (.iconst (-1), 1) := by decide +kernel
theorem d_X10_cell_42 : decode M_X10_cell.2.1 42 = .ok (.ireturn, 1) := by decide +kernel
theorem ce_X10_cell : zw_CeV M_X10_cell 4 := ⟨⟨⟨by decide +kernel, by decide +kernel, by decide +kernel⟩, (zw_mG (List.mem_of_getElem? (i := 860) (by decide +kernel)) rfl), (zw_mG (List.mem_of_getElem? (i := 96) (by decide +kernel)) rfl), by decide, by decide +kernel⟩, (zw_mG (List.mem_of_getElem? (i := 858) (by decide +kernel)) rfl), (zw_mG (List.mem_of_getElem? (i := 859) (by decide +kernel)) rfl)⟩
def f_X10_cell (v0 : Nat) (v1 : Int32) (v2 : Int32) (v3 : Int32) (v4 : Int32) (I : zI) (R : zR) : Option (Int32) :=
  zw_g (zw_gc v0 10) ((f_X10_isDrawing v0 v1 v2 I R).bind fun q2 => (if ¬ q2 = 0 then (f_X10_drawing v0 v1 v2 R).bind fun q4 => (zw_g (zw_gc q4 0) ((f_X0_hasPlace q4 v3 v4 I).bind fun q6 => (if q6 = 0 then some (-1) else (f_X0_cellAt q4 v3 v4 I R).bind fun q8 => (some q8)))) else some (-1)))
theorem c_X10_cell (X : zw_X) (v0 : Nat) (v1 : Int32) (v2 : Int32) (v3 : Int32) (v4 : Int32) (I : zI) (R : zR) (J : zJ) {P : Option Value → aS → Prop} (o : Int32) (hf : f_X10_cell v0 v1 v2 v3 v4 I R = some o) (hk : P (some (.int o)) (I, R, J)) : zw_C X M_X10_cell 2 0 0 199 [.ref v0, .int v1, .int v2, .int v3, .int v4] (I, R, J) P := by
  show zy_V X M_X10_cell 2 P 0 [.ref v0, .int v1, .int v2, .int v3, .int v4, .null] [] (I, R, J)
  unfold f_X10_cell at hf
  refine zv_aload_n (pc := 0) d_X10_cell_0 rfl ?_
  refine zv_iload_n (pc := 1) d_X10_cell_1 rfl ?_
  refine zv_iload_n (pc := 2) d_X10_cell_2 rfl ?_
  obtain ⟨g1, hf⟩ := zw_gcE hf (by decide)
  obtain ⟨q2, hq2, hf⟩ := zw_bdE hf
  refine zx_callV (pc := 3) (As := [.int v1, .int v2]) (o := v0) (st := []) (d2 := 1) (M2 := M_X10_isDrawing) (P2 := (fun r S => r = (some (.int q2)) ∧ S = (I, R, J))) d_X10_cell_3 (zw_mG (List.mem_of_getElem? (i := 841) (by decide +kernel)) rfl) ce_X10_isDrawing (zw_RvK g1 rfl rfl) (Nat.le_of_ble_eq_true rfl) rfl (Nat.le_of_ble_eq_true rfl) (by decide) (c_X10_isDrawing X v0 v1 v2 I R J _ hq2 ⟨rfl, rfl⟩) ?_
  rintro _ _ ⟨rfl, rfl⟩
  show zy_V X M_X10_cell 2 P (3 + 3) [.ref v0, .int v1, .int v2, .int v3, .int v4, .null] [.int q2] (I, R, J)
  rcases zw_ifE hf with ⟨c3, hf⟩ | ⟨c3, hf⟩
  · refine zv_if_ne (pc := 6) (tg := 11) d_X10_cell_6 (by decide) (fun _ => ?_) (fun q => absurd q c3)
    refine zv_aload_n (pc := 11) d_X10_cell_11 rfl ?_
    refine zv_iload_n (pc := 12) d_X10_cell_12 rfl ?_
    refine zv_iload_n (pc := 13) d_X10_cell_13 rfl ?_
    obtain ⟨q4, hq4, hf⟩ := zw_bdE hf
    refine zx_callV (pc := 14) (As := [.int v1, .int v2]) (o := v0) (st := []) (d2 := 0) (M2 := M_X10_drawing) (P2 := (fun r S => r = (some (.ref q4)) ∧ S = (I, R, J))) d_X10_cell_14 (zw_mG (List.mem_of_getElem? (i := 853) (by decide +kernel)) rfl) ce_X10_drawing (zw_RvK g1 rfl rfl) (Nat.le_of_ble_eq_true rfl) rfl (Nat.le_of_ble_eq_true rfl) (by decide) (c_X10_drawing X v0 v1 v2 I R J _ hq4 ⟨rfl, rfl⟩) ?_
    rintro _ _ ⟨rfl, rfl⟩
    show zy_V X M_X10_cell 2 P (14 + 3) [.ref v0, .int v1, .int v2, .int v3, .int v4, .null] [.ref q4] (I, R, J)
    refine zx_astore (pc := 17) (L2 := [.ref v0, .int v1, .int v2, .int v3, .int v4, .ref q4]) d_X10_cell_17 (by decide) rfl ?_
    refine zv_aload (pc := 19) d_X10_cell_19 rfl ?_
    refine zv_iload_n (pc := 21) d_X10_cell_21 rfl ?_
    refine zv_iload (pc := 22) d_X10_cell_22 rfl ?_
    obtain ⟨g5, hf⟩ := zw_gcE hf (by decide)
    obtain ⟨q6, hq6, hf⟩ := zw_bdE hf
    refine zx_callV (pc := 24) (As := [.int v3, .int v4]) (o := q4) (st := []) (d2 := 0) (M2 := M_X0_hasPlace) (P2 := (fun r S => r = (some (.int q6)) ∧ S = (I, R, J))) d_X10_cell_24 (zw_mG (List.mem_of_getElem? (i := 861) (by decide +kernel)) rfl) ce_X0_hasPlace (zw_RvK g5 rfl rfl) (Nat.le_of_ble_eq_true rfl) rfl (Nat.le_of_ble_eq_true rfl) (by decide) (c_X0_hasPlace X q4 v3 v4 I R J _ hq6 ⟨rfl, rfl⟩) ?_
    rintro _ _ ⟨rfl, rfl⟩
    show zy_V X M_X10_cell 2 P (24 + 3) [.ref v0, .int v1, .int v2, .int v3, .int v4, .ref q4] [.int q6] (I, R, J)
    rcases zw_ifE hf with ⟨c7, hf⟩ | ⟨c7, hf⟩
    · refine zv_if_eq (pc := 27) (tg := 41) d_X10_cell_27 (by decide) (fun _ => ?_) (fun q => absurd c7 q)
      refine zv_iconst (pc := 41) d_X10_cell_41 zc_i_m1 ?_
      cases hf
      exact zx_iret (pc := 42) d_X10_cell_42 rfl hk
    · refine zv_if_eq (pc := 27) (tg := 41) d_X10_cell_27 (by decide) (fun q => absurd q c7) (fun _ => ?_)
      refine zv_aload (pc := 30) d_X10_cell_30 rfl ?_
      refine zv_iload_n (pc := 32) d_X10_cell_32 rfl ?_
      refine zv_iload (pc := 33) d_X10_cell_33 rfl ?_
      obtain ⟨q8, hq8, hf⟩ := zw_bdE hf
      refine zx_callV (pc := 35) (As := [.int v3, .int v4]) (o := q4) (st := []) (d2 := 0) (M2 := M_X0_cellAt) (P2 := (fun r S => r = (some (.int q8)) ∧ S = (I, R, J))) d_X10_cell_35 (zw_mG (List.mem_of_getElem? (i := 865) (by decide +kernel)) rfl) ce_X0_cellAt (zw_RvK g5 rfl rfl) (Nat.le_of_ble_eq_true rfl) rfl (Nat.le_of_ble_eq_true rfl) (by decide) (c_X0_cellAt X q4 v3 v4 I R J _ hq8 ⟨rfl, rfl⟩) ?_
      rintro _ _ ⟨rfl, rfl⟩
      show zy_V X M_X10_cell 2 P (35 + 3) [.ref v0, .int v1, .int v2, .int v3, .int v4, .ref q4] [.int q8] (I, R, J)
      refine zv_goto (pc := 38) (tg := 42) d_X10_cell_38 (by decide) ?_
      cases hf
      exact zx_iret (pc := 42) d_X10_cell_42 rfl hk
  · refine zv_if_ne (pc := 6) (tg := 11) d_X10_cell_6 (by decide) (fun q => absurd q c3) (fun _ => ?_)
    refine zv_iconst (pc := 9) d_X10_cell_9 zc_i_m1 ?_
    cases hf
    exact zx_iret (pc := 10) d_X10_cell_10 rfl hk
abbrev M_X10_even : zw_M := (⟨"CutStones", "even", "(I)I"⟩, prog_1_method_8_code, 2, (Option.some Jvm.ClassFile.FieldType.int))
theorem d_X10_even_0 : decode M_X10_even.2.1 0 = .ok (.aload_n 0, 1) := by decide +kernel
theorem d_X10_even_1 : decode M_X10_even.2.1 1 = .ok (.iload_n 1, 1) := by decide +kernel
theorem d_X10_even_2 : decode M_X10_even.2.1 2 = .ok (.invokevirtual 137, 3) := by decide +kernel
theorem d_X10_even_5 : decode M_X10_even.2.1 5 = .ok (.ifCond .ne 5, 3) := by decide +kernel
theorem d_X10_even_8 : decode M_X10_even.2.1 8 = .ok (.iconst (-1), 1) := by decide +kernel
theorem d_X10_even_9 : decode M_X10_even.2.1 9 = .ok (.ireturn, 1) := by decide +kernel
theorem d_X10_even_10 : decode M_X10_even.2.1 10 = .ok (.aload_n 0, 1) := by decide +kernel
theorem d_X10_even_11 : decode M_X10_even.2.1 11 = .ok (.getfield 26, 3) := by decide +kernel
theorem d_X10_even_14 : decode M_X10_even.2.1 14 = .ok (.getfield 141, 3) := by decide +kernel
theorem d_X10_even_17 : decode M_X10_even.2.1 17 = .ok (.iload_n 1, 1) := by decide +kernel
theorem d_X10_even_18 : decode M_X10_even.2.1 18 = .ok (.aaload, 1) := by decide +kernel
theorem d_X10_even_19 : decode M_X10_even.2.1 19 = .ok (.invokevirtual 145, 3) := by decide +kernel
theorem d_X10_even_22 : decode M_X10_even.2.1 22 = .ok (.ifCond .eq 7, 3) := by decide +kernel
theorem d_X10_even_25 : decode M_X10_even.2.1 25 = .ok (.iconst 1, 1) := by decide +kernel
theorem d_X10_even_26 : decode M_X10_even.2.1 26 = .ok (.goto 4, 3) := by decide +kernel
theorem d_X10_even_29 : decode M_X10_even.2.1 29 = .ok (.iconst 0, 1) := by decide +kernel
theorem d_X10_even_30 : decode M_X10_even.2.1 30 = .ok (.ireturn, 1) := by decide +kernel
theorem ce_X10_even : zw_CeV M_X10_even 1 := ⟨⟨⟨by decide +kernel, by decide +kernel, by decide +kernel⟩, (zw_mG (List.mem_of_getElem? (i := 869) (by decide +kernel)) rfl), (zw_mG (List.mem_of_getElem? (i := 96) (by decide +kernel)) rfl), by decide, by decide +kernel⟩, (zw_mG (List.mem_of_getElem? (i := 867) (by decide +kernel)) rfl), (zw_mG (List.mem_of_getElem? (i := 868) (by decide +kernel)) rfl)⟩
def f_X10_even (v0 : Nat) (v1 : Int32) (I : zI) (R : zR) : Option (Int32) :=
  zw_g (zw_gc v0 10) ((f_X10_isCut v0 v1 I R).bind fun q2 => (if ¬ q2 = 0 then zw_g (zw_gc (R v0 2) 1) (zw_g (zw_gc (R (R v0 2) 2) 16) (zw_g (zw_in v1 (zw_SH (R (R v0 2) 2)).2) (zw_g (zw_gc (R (R (R v0 2) 2) (Int32.toNatClampNeg v1)) 0) ((f_X0_isMirrored (R (R (R v0 2) 2) (Int32.toNatClampNeg v1)) I R).bind fun q8 => (if q8 = 0 then some 0 else some 1))))) else some (-1)))
theorem c_X10_even (X : zw_X) (v0 : Nat) (v1 : Int32) (I : zI) (R : zR) (J : zJ) {P : Option Value → aS → Prop} (o : Int32) (hf : f_X10_even v0 v1 I R = some o) (hk : P (some (.int o)) (I, R, J)) : zw_C X M_X10_even 2 0 0 199 [.ref v0, .int v1] (I, R, J) P := by
  show zy_V X M_X10_even 2 P 0 [.ref v0, .int v1] [] (I, R, J)
  unfold f_X10_even at hf
  refine zv_aload_n (pc := 0) d_X10_even_0 rfl ?_
  refine zv_iload_n (pc := 1) d_X10_even_1 rfl ?_
  obtain ⟨g1, hf⟩ := zw_gcE hf (by decide)
  obtain ⟨q2, hq2, hf⟩ := zw_bdE hf
  refine zx_callV (pc := 2) (As := [.int v1]) (o := v0) (st := []) (d2 := 0) (M2 := M_X10_isCut) (P2 := (fun r S => r = (some (.int q2)) ∧ S = (I, R, J))) d_X10_even_2 (zw_mG (List.mem_of_getElem? (i := 849) (by decide +kernel)) rfl) ce_X10_isCut (zw_RvK g1 rfl rfl) (Nat.le_of_ble_eq_true rfl) rfl (Nat.le_of_ble_eq_true rfl) (by decide) (c_X10_isCut X v0 v1 I R J _ hq2 ⟨rfl, rfl⟩) ?_
  rintro _ _ ⟨rfl, rfl⟩
  show zy_V X M_X10_even 2 P (2 + 3) [.ref v0, .int v1] [.int q2] (I, R, J)
  rcases zw_ifE hf with ⟨c3, hf⟩ | ⟨c3, hf⟩
  · refine zv_if_ne (pc := 5) (tg := 10) d_X10_even_5 (by decide) (fun _ => ?_) (fun q => absurd q c3)
    refine zv_aload_n (pc := 10) d_X10_even_10 rfl ?_
    obtain ⟨g4, hf⟩ := zw_gcE hf (by decide)
    refine zx_getR (pc := 11) d_X10_even_11 lk_CutStones_26 (by decide) g1 g4 ?_
    obtain ⟨g5, hf⟩ := zw_gcE hf (by decide)
    refine zx_getR (pc := 14) d_X10_even_14 lk_CutStones_141 (by decide) g4 g5 ?_
    refine zv_iload_n (pc := 17) d_X10_even_17 rfl ?_
    obtain ⟨i6, hf⟩ := zw_inE hf
    obtain ⟨g7, hf⟩ := zw_gcE hf (by decide)
    refine zx_aald (pc := 18) d_X10_even_18 g5 (by decide) i6 g7 ?_
    obtain ⟨q8, hq8, hf⟩ := zw_bdE hf
    refine zx_callV (pc := 19) (As := []) (o := (R (R (R v0 2) 2) (Int32.toNatClampNeg v1))) (st := []) (d2 := 1) (M2 := M_X0_isMirrored) (P2 := (fun r S => r = (some (.int q8)) ∧ S = (I, R, J))) d_X10_even_19 (zw_mG (List.mem_of_getElem? (i := 870) (by decide +kernel)) rfl) ce_X0_isMirrored (zw_RvK g7 rfl rfl) (Nat.le_of_ble_eq_true rfl) rfl (Nat.le_of_ble_eq_true rfl) (by decide) (c_X0_isMirrored X (R (R (R v0 2) 2) (Int32.toNatClampNeg v1)) I R J _ hq8 ⟨rfl, rfl⟩) ?_
    rintro _ _ ⟨rfl, rfl⟩
    show zy_V X M_X10_even 2 P (19 + 3) [.ref v0, .int v1] [.int q8] (I, R, J)
    rcases zw_ifE hf with ⟨c9, hf⟩ | ⟨c9, hf⟩
    · refine zv_if_eq (pc := 22) (tg := 29) d_X10_even_22 (by decide) (fun _ => ?_) (fun q => absurd c9 q)
      refine zv_iconst (pc := 29) d_X10_even_29 zc_i_0 ?_
      cases hf
      exact zx_iret (pc := 30) d_X10_even_30 rfl hk
    · refine zv_if_eq (pc := 22) (tg := 29) d_X10_even_22 (by decide) (fun q => absurd q c9) (fun _ => ?_)
      refine zv_iconst (pc := 25) d_X10_even_25 zc_i_1 ?_
      refine zv_goto (pc := 26) (tg := 30) d_X10_even_26 (by decide) ?_
      cases hf
      exact zx_iret (pc := 30) d_X10_even_30 rfl hk
  · refine zv_if_ne (pc := 5) (tg := 10) d_X10_even_5 (by decide) (fun q => absurd q c3) (fun _ => ?_)
    refine zv_iconst (pc := 8) d_X10_even_8 zc_i_m1 ?_
    cases hf
    exact zx_iret (pc := 9) d_X10_even_9 rfl hk
abbrev M_X10_firstPlace : zw_M := (⟨"CutStones", "firstPlace", "(LCutStones$Drawing;LCutStones$Drawing;II)I"⟩, prog_1_method_42_code, 7, (Option.some Jvm.ClassFile.FieldType.int))
theorem d_X10_firstPlace_0 : decode M_X10_firstPlace.2.1 0 = .ok (.iconst 0, 1) := by decide +kernel
theorem d_X10_firstPlace_1 : decode M_X10_firstPlace.2.1 1 = .ok (.istore 4, 2) := by decide +kernel
theorem d_X10_firstPlace_3 : decode M_X10_firstPlace.2.1 3 = .ok (.iload 4, 2) := by decide +kernel
theorem d_X10_firstPlace_5 : decode M_X10_firstPlace.2.1 5 = .ok (.bipush 12, 2) := by decide +kernel
theorem d_X10_firstPlace_7 : decode M_X10_firstPlace.2.1 7 = .ok (.if_icmp .ge 80, 3) := by decide +kernel
theorem d_X10_firstPlace_10 : decode M_X10_firstPlace.2.1 10 = .ok (.iconst 0, 1) := by decide +kernel
theorem d_X10_firstPlace_11 : decode M_X10_firstPlace.2.1 11 = .ok (.istore 5, 2) := by decide +kernel
theorem d_X10_firstPlace_13 : decode M_X10_firstPlace.2.1 13 = .ok (.iload 5, 2) := by decide +kernel
theorem d_X10_firstPlace_15 : decode M_X10_firstPlace.2.1 15 = .ok (.bipush 12, 2) := by decide +kernel
theorem d_X10_firstPlace_17 : decode M_X10_firstPlace.2.1 17 = .ok (.if_icmp .ge 64, 3) := by decide +kernel
theorem d_X10_firstPlace_20 : decode M_X10_firstPlace.2.1 20 = .ok (.iload 5, 2) := by decide +kernel
theorem d_X10_firstPlace_22 : decode M_X10_firstPlace.2.1 22 = .ok (.aload_n 0, 1) := by decide +kernel
theorem d_X10_firstPlace_23 : decode M_X10_firstPlace.2.1 23 = .ok (.getfield 291, 3) := by decide +kernel
theorem d_X10_firstPlace_26 : decode M_X10_firstPlace.2.1 26 = .ok (.iadd, 1) := by decide +kernel
theorem d_X10_firstPlace_27 : decode M_X10_firstPlace.2.1 27 = .ok (.iload_n 2, 1) := by decide +kernel
theorem d_X10_firstPlace_28 : decode M_X10_firstPlace.2.1 28 = .ok (.if_icmp .lt 18, 3) := by decide +kernel
theorem d_X10_firstPlace_31 : decode M_X10_firstPlace.2.1 31 = .ok (.iload 5, 2) := by decide +kernel
theorem d_X10_firstPlace_33 : decode M_X10_firstPlace.2.1 33 = .ok (.aload_n 0, 1) := by decide +kernel
theorem d_X10_firstPlace_34 : decode M_X10_firstPlace.2.1 34 = .ok (.getfield 294, 3) := by decide +kernel
theorem d_X10_firstPlace_37 : decode M_X10_firstPlace.2.1 37 = .ok (.iadd, 1) := by decide +kernel
theorem d_X10_firstPlace_38 : decode M_X10_firstPlace.2.1 38 = .ok (.iload_n 3, 1) := by decide +kernel
theorem d_X10_firstPlace_39 : decode M_X10_firstPlace.2.1 39 = .ok (.if_icmp .ge 7, 3) := by decide +kernel
theorem d_X10_firstPlace_42 : decode M_X10_firstPlace.2.1 42 = .ok (.iconst 1, 1) := by decide +kernel
theorem d_X10_firstPlace_43 : decode M_X10_firstPlace.2.1 43 = .ok (.goto 4, 3) := by decide +kernel
theorem d_X10_firstPlace_46 : decode M_X10_firstPlace.2.1 46 = .ok (.iconst 0, 1) := by decide +kernel
theorem d_X10_firstPlace_47 : decode M_X10_firstPlace.2.1 47 = .ok (.istore 6, 2) := by decide +kernel
theorem d_X10_firstPlace_49 : decode M_X10_firstPlace.2.1 49 = .ok (.iload 6, 2) := by decide +kernel
theorem d_X10_firstPlace_51 : decode M_X10_firstPlace.2.1 51 = .ok (.ifCond .eq 24, 3) := by decide +kernel
theorem d_X10_firstPlace_54 : decode M_X10_firstPlace.2.1 54 = .ok (.aload_n 0, 1) := by decide +kernel
theorem d_X10_firstPlace_55 : decode M_X10_firstPlace.2.1 55 = .ok (.aload_n 1, 1) := by decide +kernel
theorem d_X10_firstPlace_56 : decode M_X10_firstPlace.2.1 56 = .ok (.iload 5, 2) := by decide +kernel
theorem d_X10_firstPlace_58 : decode M_X10_firstPlace.2.1 58 = .ok (.iload 4, 2) := by decide +kernel
theorem d_X10_firstPlace_60 : decode M_X10_firstPlace.2.1 60 = .ok (.invokevirtual 214, 3) := by decide +kernel
theorem d_X10_firstPlace_63 : decode M_X10_firstPlace.2.1 63 = .ok (.ifCond .eq 12, 3) := by decide +kernel
theorem d_X10_firstPlace_66 : decode M_X10_firstPlace.2.1 66 = .ok (.bipush 12, 2) := by decide +kernel
theorem d_X10_firstPlace_68 : decode M_X10_firstPlace.2.1 68 = .ok (.iload 4, 2) := by decide +kernel
theorem d_X10_firstPlace_70 : decode M_X10_firstPlace.2.1 70 = .ok (.imul, 1) := by decide +kernel
theorem d_X10_firstPlace_71 : decode M_X10_firstPlace.2.1 71 = .ok (.iload 5, 2) := by decide +kernel
theorem d_X10_firstPlace_73 : decode M_X10_firstPlace.2.1 73 = .ok (.iadd, 1) := by decide +kernel
theorem d_X10_firstPlace_74 : decode M_X10_firstPlace.2.1 74 = .ok (.ireturn, 1) := by decide +kernel
theorem d_X10_firstPlace_75 : decode M_X10_firstPlace.2.1 75 = .ok (.iinc 5 1, 3) := by decide +kernel
theorem d_X10_firstPlace_78 : decode M_X10_firstPlace.2.1 78 = .ok (.goto (-65), 3) := by decide +kernel
theorem d_X10_firstPlace_81 : decode M_X10_firstPlace.2.1 81 = .ok (.iinc 4 1, 3) := by decide +kernel
theorem d_X10_firstPlace_84 : decode M_X10_firstPlace.2.1 84 = .ok (.goto (-81), 3) := by decide +kernel
theorem d_X10_firstPlace_87 : decode M_X10_firstPlace.2.1 87 = .ok (.iconst (-1), 1) := by decide +kernel
theorem d_X10_firstPlace_88 : decode M_X10_firstPlace.2.1 88 = .ok (.ireturn, 1) := by decide +kernel
theorem ce_X10_firstPlace : zw_CeS M_X10_firstPlace 4 := ⟨⟨⟨by decide +kernel, by decide +kernel, by decide +kernel⟩, (zw_mG (List.mem_of_getElem? (i := 1061) (by decide +kernel)) rfl), (zw_mG (List.mem_of_getElem? (i := 96) (by decide +kernel)) rfl), by decide, by decide +kernel⟩, (zw_mG (List.mem_of_getElem? (i := 1060) (by decide +kernel)) rfl)⟩
def j_X10_firstPlace_75_13 (v0 : Nat) (v1 : Nat) (v2 : Int32) (v3 : Int32) (v4 : Int32) (v5 : Int32) (I : zI) (R : zR) : Option ((Int32) ⊕ ((Unit) ⊕ (Int32))) :=
  zw_let (v5 + 1 : Int32) fun x6 => (some (.inl x6))
theorem j_X10_firstPlace_75_13_ok (X : zw_X) (P : Option Value → aS → Prop) (v0 : Nat) (v1 : Nat) (v2 : Int32) (v3 : Int32) (v4 : Int32) (v5 : Int32) (I : zI) (R : zR) (J : zJ) (o : (Int32) ⊕ ((Unit) ⊕ (Int32))) (hf : j_X10_firstPlace_75_13 v0 v1 v2 v3 v4 v5 I R = some o) (hk : (zw_se (fun t => zy_V X M_X10_firstPlace 2 P 13 [.ref v0, .ref v1, .int v2, .int v3, .int v4, .int t, .null] [] (I, R, J)) (fun r => (zw_se (fun r0 => zy_V X M_X10_firstPlace 2 P 81 [.ref v0, .ref v1, .int v2, .int v3, .int v4, .null, .null] [] (I, R, J)) (fun t0 => zy_V X M_X10_firstPlace 2 P 66 [.null, .null, .null, .null, .int v4, .int t0, .null] [] (I, R, J)) r)) o)) : zy_V X M_X10_firstPlace 2 P 75 [.ref v0, .ref v1, .int v2, .int v3, .int v4, .int v5, .null] [] (I, R, J) := by
  unfold j_X10_firstPlace_75_13 at hf
  obtain ⟨x6, ex6, hf⟩ := zw_letE hf
  refine zx_iinc (pc := 75) (x2 := x6) (L2 := [.ref v0, .ref v1, .int v2, .int v3, .int v4, .int x6, .null]) d_X10_firstPlace_75 (by decide) rfl zc_i_1 ex6 rfl ?_
  refine zv_goto (pc := 78) (tg := 13) d_X10_firstPlace_78 (by decide) ?_
  cases hf
  exact zx_weak (zw_leS (zw_leS (zw_leS (zw_leS (zw_leS (zw_leS (zw_leN zw_leZ))))))) hk
def j_X10_firstPlace_47_13 (v0 : Nat) (v1 : Nat) (v2 : Int32) (v3 : Int32) (v4 : Int32) (v5 : Int32) (s0 : Int32) (I : zI) (R : zR) : Option ((Int32) ⊕ ((Unit) ⊕ (Int32))) :=
  if s0 = 0 then j_X10_firstPlace_75_13 v0 v1 v2 v3 v4 v5 I R else zw_g (zw_gc v0 0) ((f_X0_liesIn v0 v1 v5 v4 I R).bind fun q8 => (if q8 = 0 then j_X10_firstPlace_75_13 v0 v1 v2 v3 v4 v5 I R else some (.inr (.inr v5))))
theorem j_X10_firstPlace_47_13_ok (X : zw_X) (P : Option Value → aS → Prop) (v0 : Nat) (v1 : Nat) (v2 : Int32) (v3 : Int32) (v4 : Int32) (v5 : Int32) (s0 : Int32) (I : zI) (R : zR) (J : zJ) (o : (Int32) ⊕ ((Unit) ⊕ (Int32))) (hf : j_X10_firstPlace_47_13 v0 v1 v2 v3 v4 v5 s0 I R = some o) (hk : (zw_se (fun t => zy_V X M_X10_firstPlace 2 P 13 [.ref v0, .ref v1, .int v2, .int v3, .int v4, .int t, .null] [] (I, R, J)) (fun r => (zw_se (fun r0 => zy_V X M_X10_firstPlace 2 P 81 [.ref v0, .ref v1, .int v2, .int v3, .int v4, .null, .null] [] (I, R, J)) (fun t0 => zy_V X M_X10_firstPlace 2 P 66 [.null, .null, .null, .null, .int v4, .int t0, .null] [] (I, R, J)) r)) o)) : zy_V X M_X10_firstPlace 2 P 47 [.ref v0, .ref v1, .int v2, .int v3, .int v4, .int v5, .null] [.int s0] (I, R, J) := by
  unfold j_X10_firstPlace_47_13 at hf
  refine zx_istore (pc := 47) (x2 := s0) (L2 := [.ref v0, .ref v1, .int v2, .int v3, .int v4, .int v5, .int s0]) d_X10_firstPlace_47 (by decide) rfl rfl ?_
  refine zv_iload (pc := 49) d_X10_firstPlace_49 rfl ?_
  rcases zw_ifE hf with ⟨c5, hf⟩ | ⟨c5, hf⟩
  · refine zv_if_eq (pc := 51) (tg := 75) d_X10_firstPlace_51 (by decide) (fun _ => ?_) (fun q => absurd c5 q)
    exact zx_weak (zw_leS (zw_leS (zw_leS (zw_leS (zw_leS (zw_leS (zw_leN zw_leZ))))))) (j_X10_firstPlace_75_13_ok X P v0 v1 v2 v3 v4 v5 I R J _ hf hk)
  · refine zv_if_eq (pc := 51) (tg := 75) d_X10_firstPlace_51 (by decide) (fun q => absurd q c5) (fun _ => ?_)
    refine zv_aload_n (pc := 54) d_X10_firstPlace_54 rfl ?_
    refine zv_aload_n (pc := 55) d_X10_firstPlace_55 rfl ?_
    refine zv_iload (pc := 56) d_X10_firstPlace_56 rfl ?_
    refine zv_iload (pc := 58) d_X10_firstPlace_58 rfl ?_
    obtain ⟨g7, hf⟩ := zw_gcE hf (by decide)
    obtain ⟨q8, hq8, hf⟩ := zw_bdE hf
    refine zx_callV (pc := 60) (As := [.ref v1, .int v5, .int v4]) (o := v0) (st := []) (d2 := 1) (M2 := M_X0_liesIn) (P2 := (fun r S => r = (some (.int q8)) ∧ S = (I, R, J))) d_X10_firstPlace_60 (zw_mG (List.mem_of_getElem? (i := 1034) (by decide +kernel)) rfl) ce_X0_liesIn (zw_RvK g7 rfl rfl) (Nat.le_of_ble_eq_true rfl) rfl (Nat.le_of_ble_eq_true rfl) (by decide) (c_X0_liesIn X v0 v1 v5 v4 I R J _ hq8 ⟨rfl, rfl⟩) ?_
    rintro _ _ ⟨rfl, rfl⟩
    show zy_V X M_X10_firstPlace 2 P (60 + 3) [.ref v0, .ref v1, .int v2, .int v3, .int v4, .int v5, .int s0] [.int q8] (I, R, J)
    rcases zw_ifE hf with ⟨c9, hf⟩ | ⟨c9, hf⟩
    · refine zv_if_eq (pc := 63) (tg := 75) d_X10_firstPlace_63 (by decide) (fun _ => ?_) (fun q => absurd c9 q)
      exact zx_weak (zw_leS (zw_leS (zw_leS (zw_leS (zw_leS (zw_leS (zw_leN zw_leZ))))))) (j_X10_firstPlace_75_13_ok X P v0 v1 v2 v3 v4 v5 I R J _ hf hk)
    · refine zv_if_eq (pc := 63) (tg := 75) d_X10_firstPlace_63 (by decide) (fun q => absurd q c9) (fun _ => ?_)
      cases hf
      exact zx_weak (zw_leN (zw_leN (zw_leN (zw_leN (zw_leS (zw_leS (zw_leN zw_leZ))))))) hk
def j_X10_firstPlace_46_13 (v0 : Nat) (v1 : Nat) (v2 : Int32) (v3 : Int32) (v4 : Int32) (v5 : Int32) (I : zI) (R : zR) : Option ((Int32) ⊕ ((Unit) ⊕ (Int32))) :=
  j_X10_firstPlace_47_13 v0 v1 v2 v3 v4 v5 0 I R
theorem j_X10_firstPlace_46_13_ok (X : zw_X) (P : Option Value → aS → Prop) (v0 : Nat) (v1 : Nat) (v2 : Int32) (v3 : Int32) (v4 : Int32) (v5 : Int32) (I : zI) (R : zR) (J : zJ) (o : (Int32) ⊕ ((Unit) ⊕ (Int32))) (hf : j_X10_firstPlace_46_13 v0 v1 v2 v3 v4 v5 I R = some o) (hk : (zw_se (fun t => zy_V X M_X10_firstPlace 2 P 13 [.ref v0, .ref v1, .int v2, .int v3, .int v4, .int t, .null] [] (I, R, J)) (fun r => (zw_se (fun r0 => zy_V X M_X10_firstPlace 2 P 81 [.ref v0, .ref v1, .int v2, .int v3, .int v4, .null, .null] [] (I, R, J)) (fun t0 => zy_V X M_X10_firstPlace 2 P 66 [.null, .null, .null, .null, .int v4, .int t0, .null] [] (I, R, J)) r)) o)) : zy_V X M_X10_firstPlace 2 P 46 [.ref v0, .ref v1, .int v2, .int v3, .int v4, .int v5, .null] [] (I, R, J) := by
  unfold j_X10_firstPlace_46_13 at hf
  refine zv_iconst (pc := 46) d_X10_firstPlace_46 zc_i_0 ?_
  exact zx_weak (zw_leS (zw_leS (zw_leS (zw_leS (zw_leS (zw_leS (zw_leN zw_leZ))))))) (j_X10_firstPlace_47_13_ok X P v0 v1 v2 v3 v4 v5 0 I R J _ hf hk)
def s_X10_firstPlace_13 (v0 : Nat) (v1 : Nat) (v2 : Int32) (v3 : Int32) (v4 : Int32) (I : zI) (R : zR) (s : Int32) : Option ((Int32) ⊕ ((Unit) ⊕ (Int32))) :=
  if 12 ≤ s then some (.inr (.inl ())) else zw_g (zw_gc v0 0) (if (s + (I v0 5)) < v2 then j_X10_firstPlace_46_13 v0 v1 v2 v3 v4 s I R else if v3 ≤ (s + (I v0 6)) then j_X10_firstPlace_46_13 v0 v1 v2 v3 v4 s I R else j_X10_firstPlace_47_13 v0 v1 v2 v3 v4 s 1 I R)
theorem s_X10_firstPlace_13_ok (X : zw_X) (P : Option Value → aS → Prop) (v0 : Nat) (v1 : Nat) (v2 : Int32) (v3 : Int32) (v4 : Int32) (I : zI) (R : zR) (J : zJ) (s : Int32) (o : (Int32) ⊕ ((Unit) ⊕ (Int32))) (hf : s_X10_firstPlace_13 v0 v1 v2 v3 v4 I R s = some o) (hk : (zw_se (fun t => zy_V X M_X10_firstPlace 2 P 13 [.ref v0, .ref v1, .int v2, .int v3, .int v4, .int t, .null] [] (I, R, J)) (fun r => (zw_se (fun r0 => zy_V X M_X10_firstPlace 2 P 81 [.ref v0, .ref v1, .int v2, .int v3, .int v4, .null, .null] [] (I, R, J)) (fun t0 => zy_V X M_X10_firstPlace 2 P 66 [.null, .null, .null, .null, .int v4, .int t0, .null] [] (I, R, J)) r)) o)) : zy_V X M_X10_firstPlace 2 P 13 [.ref v0, .ref v1, .int v2, .int v3, .int v4, .int s, .null] [] (I, R, J) := by
  unfold s_X10_firstPlace_13 at hf
  refine zv_iload (pc := 13) d_X10_firstPlace_13 rfl ?_
  refine zv_bipush (pc := 15) d_X10_firstPlace_15 zc_b_12 ?_
  rcases zw_ifE hf with ⟨c2, hf⟩ | ⟨c2, hf⟩
  · refine zv_icmp_ge (pc := 17) (tg := 81) d_X10_firstPlace_17 (by decide) (fun _ => ?_) (fun q => absurd c2 q)
    cases hf
    exact zx_weak (zw_leS (zw_leS (zw_leS (zw_leS (zw_leS (zw_leN (zw_leN zw_leZ))))))) hk
  · refine zv_icmp_ge (pc := 17) (tg := 81) d_X10_firstPlace_17 (by decide) (fun q => absurd q c2) (fun _ => ?_)
    refine zv_iload (pc := 20) d_X10_firstPlace_20 rfl ?_
    refine zv_aload_n (pc := 22) d_X10_firstPlace_22 rfl ?_
    obtain ⟨g3, hf⟩ := zw_gcE hf (by decide)
    refine zx_getI (pc := 23) d_X10_firstPlace_23 lk_CutStones_291 (by decide) g3 ?_
    refine zv_iadd (pc := 26) d_X10_firstPlace_26 ?_
    refine zv_iload_n (pc := 27) d_X10_firstPlace_27 rfl ?_
    rcases zw_ifE hf with ⟨c4, hf⟩ | ⟨c4, hf⟩
    · refine zv_icmp_lt (pc := 28) (tg := 46) d_X10_firstPlace_28 (by decide) (fun _ => ?_) (fun q => absurd c4 q)
      exact zx_weak (zw_leS (zw_leS (zw_leS (zw_leS (zw_leS (zw_leS (zw_leN zw_leZ))))))) (j_X10_firstPlace_46_13_ok X P v0 v1 v2 v3 v4 s I R J _ hf hk)
    · refine zv_icmp_lt (pc := 28) (tg := 46) d_X10_firstPlace_28 (by decide) (fun q => absurd q c4) (fun _ => ?_)
      refine zv_iload (pc := 31) d_X10_firstPlace_31 rfl ?_
      refine zv_aload_n (pc := 33) d_X10_firstPlace_33 rfl ?_
      refine zx_getI (pc := 34) d_X10_firstPlace_34 lk_CutStones_294 (by decide) g3 ?_
      refine zv_iadd (pc := 37) d_X10_firstPlace_37 ?_
      refine zv_iload_n (pc := 38) d_X10_firstPlace_38 rfl ?_
      rcases zw_ifE hf with ⟨c10, hf⟩ | ⟨c10, hf⟩
      · refine zv_icmp_ge (pc := 39) (tg := 46) d_X10_firstPlace_39 (by decide) (fun _ => ?_) (fun q => absurd c10 q)
        exact zx_weak (zw_leS (zw_leS (zw_leS (zw_leS (zw_leS (zw_leS (zw_leN zw_leZ))))))) (j_X10_firstPlace_46_13_ok X P v0 v1 v2 v3 v4 s I R J _ hf hk)
      · refine zv_icmp_ge (pc := 39) (tg := 46) d_X10_firstPlace_39 (by decide) (fun q => absurd q c10) (fun _ => ?_)
        refine zv_iconst (pc := 42) d_X10_firstPlace_42 zc_i_1 ?_
        refine zv_goto (pc := 43) (tg := 47) d_X10_firstPlace_43 (by decide) ?_
        exact zx_weak (zw_leS (zw_leS (zw_leS (zw_leS (zw_leS (zw_leS (zw_leN zw_leZ))))))) (j_X10_firstPlace_47_13_ok X P v0 v1 v2 v3 v4 s 1 I R J _ hf hk)
theorem s_X10_firstPlace_13_lp (X : zw_X) (P : Option Value → aS → Prop) (v0 : Nat) (v1 : Nat) (v2 : Int32) (v3 : Int32) (v4 : Int32) (I : zI) (R : zR) (J : zJ) (n : Nat) (s : Int32) (r : (Unit) ⊕ (Int32)) (h : zw_it (s_X10_firstPlace_13 v0 v1 v2 v3 v4 I R) n s = some r) (hq : (zw_se (fun r0 => zy_V X M_X10_firstPlace 2 P 81 [.ref v0, .ref v1, .int v2, .int v3, .int v4, .null, .null] [] (I, R, J)) (fun t0 => zy_V X M_X10_firstPlace 2 P 66 [.null, .null, .null, .null, .int v4, .int t0, .null] [] (I, R, J)) r)) : zy_V X M_X10_firstPlace 2 P 13 [.ref v0, .ref v1, .int v2, .int v3, .int v4, .int s, .null] [] (I, R, J) :=
  zw_itE (A := (fun t : Int32 => zy_V X M_X10_firstPlace 2 P 13 [.ref v0, .ref v1, .int v2, .int v3, .int v4, .int t, .null] [] (I, R, J))) (Q := (fun r : (Unit) ⊕ (Int32) => (zw_se (fun r0 => zy_V X M_X10_firstPlace 2 P 81 [.ref v0, .ref v1, .int v2, .int v3, .int v4, .null, .null] [] (I, R, J)) (fun t0 => zy_V X M_X10_firstPlace 2 P 66 [.null, .null, .null, .null, .int v4, .int t0, .null] [] (I, R, J)) r))) (fun s o h1 h2 => s_X10_firstPlace_13_ok X P v0 v1 v2 v3 v4 I R J s o h1 h2) n s r h hq
def s_X10_firstPlace_3 (v0 : Nat) (v1 : Nat) (v2 : Int32) (v3 : Int32) (I : zI) (R : zR) (s : Int32) : Option ((Int32) ⊕ ((Unit) ⊕ (Int32 × Int32))) :=
  if 12 ≤ s then some (.inr (.inl ())) else (zw_it (s_X10_firstPlace_13 v0 v1 v2 v3 s I R) 1000000 0).bind fun q11 => (match q11 with | .inl a12 => (zw_let (s + 1 : Int32) fun x14 => (some (.inl x14))) | .inr a13 => (some (.inr (.inr (s, a13)))))
theorem s_X10_firstPlace_3_ok (X : zw_X) (P : Option Value → aS → Prop) (v0 : Nat) (v1 : Nat) (v2 : Int32) (v3 : Int32) (I : zI) (R : zR) (J : zJ) (s : Int32) (o : (Int32) ⊕ ((Unit) ⊕ (Int32 × Int32))) (hf : s_X10_firstPlace_3 v0 v1 v2 v3 I R s = some o) (hk : (zw_se (fun t => zy_V X M_X10_firstPlace 2 P 3 [.ref v0, .ref v1, .int v2, .int v3, .int t, .null, .null] [] (I, R, J)) (fun r => (zw_se (fun r0 => zy_V X M_X10_firstPlace 2 P 87 [.null, .null, .null, .null, .null, .null, .null] [] (I, R, J)) (fun t0 => zy_V X M_X10_firstPlace 2 P 66 [.null, .null, .null, .null, .int t0.1, .int t0.2, .null] [] (I, R, J)) r)) o)) : zy_V X M_X10_firstPlace 2 P 3 [.ref v0, .ref v1, .int v2, .int v3, .int s, .null, .null] [] (I, R, J) := by
  unfold s_X10_firstPlace_3 at hf
  refine zv_iload (pc := 3) d_X10_firstPlace_3 rfl ?_
  refine zv_bipush (pc := 5) d_X10_firstPlace_5 zc_b_12 ?_
  rcases zw_ifE hf with ⟨c1, hf⟩ | ⟨c1, hf⟩
  · refine zv_icmp_ge (pc := 7) (tg := 87) d_X10_firstPlace_7 (by decide) (fun _ => ?_) (fun q => absurd c1 q)
    cases hf
    exact zx_weak (zw_leN (zw_leN (zw_leN (zw_leN (zw_leN (zw_leN (zw_leN zw_leZ))))))) hk
  · refine zv_icmp_ge (pc := 7) (tg := 87) d_X10_firstPlace_7 (by decide) (fun q => absurd q c1) (fun _ => ?_)
    refine zv_iconst (pc := 10) d_X10_firstPlace_10 zc_i_0 ?_
    refine zx_istore (pc := 11) (x2 := 0) (L2 := [.ref v0, .ref v1, .int v2, .int v3, .int s, .int 0, .null]) d_X10_firstPlace_11 (by decide) rfl rfl ?_
    obtain ⟨q11, hq11, hf⟩ := zw_bdE hf
    refine zx_weak (L' := [.ref v0, .ref v1, .int v2, .int v3, .int s, .int 0, .null]) (zw_leS (zw_leS (zw_leS (zw_leS (zw_leS (zw_leS (zw_leN zw_leZ))))))) (s_X10_firstPlace_13_lp X P v0 v1 v2 v3 s I R J _ _ _ hq11 ?_)
    rcases q11 with a12 | a13
    ·
      show zy_V X M_X10_firstPlace 2 P 81 [.ref v0, .ref v1, .int v2, .int v3, .int s, .null, .null] [] (I, R, J)
      obtain ⟨x14, ex14, hf⟩ := zw_letE hf
      refine zx_iinc (pc := 81) (x2 := x14) (L2 := [.ref v0, .ref v1, .int v2, .int v3, .int x14, .null, .null]) d_X10_firstPlace_81 (by decide) rfl zc_i_1 ex14 rfl ?_
      refine zv_goto (pc := 84) (tg := 3) d_X10_firstPlace_84 (by decide) ?_
      cases hf
      exact zx_weak (zw_leS (zw_leS (zw_leS (zw_leS (zw_leS (zw_leN (zw_leN zw_leZ))))))) hk
    ·
      show zy_V X M_X10_firstPlace 2 P 66 [.null, .null, .null, .null, .int s, .int a13, .null] [] (I, R, J)
      cases hf
      exact zx_weak (zw_leN (zw_leN (zw_leN (zw_leN (zw_leS (zw_leS (zw_leN zw_leZ))))))) hk
theorem s_X10_firstPlace_3_lp (X : zw_X) (P : Option Value → aS → Prop) (v0 : Nat) (v1 : Nat) (v2 : Int32) (v3 : Int32) (I : zI) (R : zR) (J : zJ) (n : Nat) (s : Int32) (r : (Unit) ⊕ (Int32 × Int32)) (h : zw_it (s_X10_firstPlace_3 v0 v1 v2 v3 I R) n s = some r) (hq : (zw_se (fun r0 => zy_V X M_X10_firstPlace 2 P 87 [.null, .null, .null, .null, .null, .null, .null] [] (I, R, J)) (fun t0 => zy_V X M_X10_firstPlace 2 P 66 [.null, .null, .null, .null, .int t0.1, .int t0.2, .null] [] (I, R, J)) r)) : zy_V X M_X10_firstPlace 2 P 3 [.ref v0, .ref v1, .int v2, .int v3, .int s, .null, .null] [] (I, R, J) :=
  zw_itE (A := (fun t : Int32 => zy_V X M_X10_firstPlace 2 P 3 [.ref v0, .ref v1, .int v2, .int v3, .int t, .null, .null] [] (I, R, J))) (Q := (fun r : (Unit) ⊕ (Int32 × Int32) => (zw_se (fun r0 => zy_V X M_X10_firstPlace 2 P 87 [.null, .null, .null, .null, .null, .null, .null] [] (I, R, J)) (fun t0 => zy_V X M_X10_firstPlace 2 P 66 [.null, .null, .null, .null, .int t0.1, .int t0.2, .null] [] (I, R, J)) r))) (fun s o h1 h2 => s_X10_firstPlace_3_ok X P v0 v1 v2 v3 I R J s o h1 h2) n s r h hq
def f_X10_firstPlace (v0 : Nat) (v1 : Nat) (v2 : Int32) (v3 : Int32) (I : zI) (R : zR) : Option (Int32) :=
  (zw_it (s_X10_firstPlace_3 v0 v1 v2 v3 I R) 1000000 0).bind fun q15 => (match q15 with | .inl a16 => (some (-1)) | .inr a17 => (some ((12 * a17.1) + a17.2)))
theorem c_X10_firstPlace (X : zw_X) (v0 : Nat) (v1 : Nat) (v2 : Int32) (v3 : Int32) (I : zI) (R : zR) (J : zJ) {P : Option Value → aS → Prop} (o : Int32) (hf : f_X10_firstPlace v0 v1 v2 v3 I R = some o) (hk : P (some (.int o)) (I, R, J)) : zw_C X M_X10_firstPlace 2 0 0 199 [.ref v0, .ref v1, .int v2, .int v3] (I, R, J) P := by
  show zy_V X M_X10_firstPlace 2 P 0 [.ref v0, .ref v1, .int v2, .int v3, .null, .null, .null] [] (I, R, J)
  unfold f_X10_firstPlace at hf
  refine zv_iconst (pc := 0) d_X10_firstPlace_0 zc_i_0 ?_
  refine zx_istore (pc := 1) (x2 := 0) (L2 := [.ref v0, .ref v1, .int v2, .int v3, .int 0, .null, .null]) d_X10_firstPlace_1 (by decide) rfl rfl ?_
  obtain ⟨q15, hq15, hf⟩ := zw_bdE hf
  refine zx_weak (L' := [.ref v0, .ref v1, .int v2, .int v3, .int 0, .null, .null]) (zw_leS (zw_leS (zw_leS (zw_leS (zw_leS (zw_leN (zw_leN zw_leZ))))))) (s_X10_firstPlace_3_lp X P v0 v1 v2 v3 I R J _ _ _ hq15 ?_)
  rcases q15 with a16 | a17
  ·
    show zy_V X M_X10_firstPlace 2 P 87 [.null, .null, .null, .null, .null, .null, .null] [] (I, R, J)
    refine zv_iconst (pc := 87) d_X10_firstPlace_87 zc_i_m1 ?_
    cases hf
    exact zx_iret (pc := 88) d_X10_firstPlace_88 rfl hk
  ·
    show zy_V X M_X10_firstPlace 2 P 66 [.null, .null, .null, .null, .int a17.1, .int a17.2, .null] [] (I, R, J)
    refine zv_bipush (pc := 66) d_X10_firstPlace_66 zc_b_12 ?_
    refine zv_iload (pc := 68) d_X10_firstPlace_68 rfl ?_
    refine zv_imul (pc := 70) d_X10_firstPlace_70 ?_
    refine zv_iload (pc := 71) d_X10_firstPlace_71 rfl ?_
    refine zv_iadd (pc := 73) d_X10_firstPlace_73 ?_
    cases hf
    exact zx_iret (pc := 74) d_X10_firstPlace_74 rfl hk
abbrev M_X10_fits : zw_M := (⟨"CutStones", "fits", "(IIII)I"⟩, prog_1_method_17_code, 5, (Option.some Jvm.ClassFile.FieldType.int))
theorem d_X10_fits_0 : decode M_X10_fits.2.1 0 = .ok (.aload_n 0, 1) := by decide +kernel
theorem d_X10_fits_1 : decode M_X10_fits.2.1 1 = .ok (.iload_n 1, 1) := by decide +kernel
theorem d_X10_fits_2 : decode M_X10_fits.2.1 2 = .ok (.invokevirtual 137, 3) := by decide +kernel
theorem d_X10_fits_5 : decode M_X10_fits.2.1 5 = .ok (.ifCond .eq 33, 3) := by decide +kernel
theorem d_X10_fits_8 : decode M_X10_fits.2.1 8 = .ok (.aload_n 0, 1) := by decide +kernel
theorem d_X10_fits_9 : decode M_X10_fits.2.1 9 = .ok (.iload_n 2, 1) := by decide +kernel
theorem d_X10_fits_10 : decode M_X10_fits.2.1 10 = .ok (.invokevirtual 208, 3) := by decide +kernel
theorem d_X10_fits_13 : decode M_X10_fits.2.1 13 = .ok (.ifCond .eq 25, 3) := by decide +kernel
theorem d_X10_fits_16 : decode M_X10_fits.2.1 16 = .ok (.iload_n 3, 1) := by decide +kernel
theorem d_X10_fits_17 : decode M_X10_fits.2.1 17 = .ok (.ifCond .lt 21, 3) := by decide +kernel
theorem d_X10_fits_20 : decode M_X10_fits.2.1 20 = .ok (.iload_n 3, 1) := by decide +kernel
theorem d_X10_fits_21 : decode M_X10_fits.2.1 21 = .ok (.bipush 12, 2) := by decide +kernel
theorem d_X10_fits_23 : decode M_X10_fits.2.1 23 = .ok (.if_icmp .ge 15, 3) := by decide +kernel
theorem d_X10_fits_26 : decode M_X10_fits.2.1 26 = .ok (.iload 4, 2) := by decide +kernel
theorem d_X10_fits_28 : decode M_X10_fits.2.1 28 = .ok (.ifCond .lt 10, 3) := by decide +kernel
theorem d_X10_fits_31 : decode M_X10_fits.2.1 31 = .ok (.iload 4, 2) := by decide +kernel
theorem d_X10_fits_33 : decode M_X10_fits.2.1 33 = .ok (.bipush 12, 2) := by decide +kernel
theorem d_X10_fits_35 : decode M_X10_fits.2.1 35 = .ok (.if_icmp .lt 5, 3) := by decide +kernel
theorem d_X10_fits_38 : decode M_X10_fits.2.1 38 = .ok (.iconst (-1), 1) := by decide +kernel
theorem d_X10_fits_39 : decode M_X10_fits.2.1 39 = .ok (.ireturn, 1) := by decide +kernel
theorem d_X10_fits_40 : decode M_X10_fits.2.1 40 = .ok (.aload_n 0, 1) := by decide +kernel
theorem d_X10_fits_41 : decode M_X10_fits.2.1 41 = .ok (.getfield 26, 3) := by decide +kernel
theorem d_X10_fits_44 : decode M_X10_fits.2.1 44 = .ok (.getfield 141, 3) := by decide +kernel
theorem d_X10_fits_47 : decode M_X10_fits.2.1 47 = .ok (.iload_n 1, 1) := by decide +kernel
theorem d_X10_fits_48 : decode M_X10_fits.2.1 48 = .ok (.aaload, 1) := by decide +kernel
theorem d_X10_fits_49 : decode M_X10_fits.2.1 49 = .ok (.aload_n 0, 1) := by decide +kernel
theorem d_X10_fits_50 : decode M_X10_fits.2.1 50 = .ok (.getfield 26, 3) := by decide +kernel
theorem d_X10_fits_53 : decode M_X10_fits.2.1 53 = .ok (.getfield 211, 3) := by decide +kernel
theorem d_X10_fits_56 : decode M_X10_fits.2.1 56 = .ok (.iload_n 2, 1) := by decide +kernel
theorem d_X10_fits_57 : decode M_X10_fits.2.1 57 = .ok (.aaload, 1) := by decide +kernel
theorem d_X10_fits_58 : decode M_X10_fits.2.1 58 = .ok (.iload_n 3, 1) := by decide +kernel
theorem d_X10_fits_59 : decode M_X10_fits.2.1 59 = .ok (.iload 4, 2) := by decide +kernel
theorem d_X10_fits_61 : decode M_X10_fits.2.1 61 = .ok (.invokevirtual 214, 3) := by decide +kernel
theorem d_X10_fits_64 : decode M_X10_fits.2.1 64 = .ok (.ifCond .eq 7, 3) := by decide +kernel
theorem d_X10_fits_67 : decode M_X10_fits.2.1 67 = .ok (.iconst 1, 1) := by decide +kernel
theorem d_X10_fits_68 : decode M_X10_fits.2.1 68 = .ok (.goto 4, 3) := by decide +kernel
theorem d_X10_fits_71 : decode M_X10_fits.2.1 71 = .ok (.iconst 0, 1) := by decide +kernel
theorem d_X10_fits_72 : decode M_X10_fits.2.1 72 = .ok (.ireturn, 1) := by decide +kernel
theorem ce_X10_fits : zw_CeV M_X10_fits 4 := ⟨⟨⟨by decide +kernel, by decide +kernel, by decide +kernel⟩, (zw_mG (List.mem_of_getElem? (i := 1033) (by decide +kernel)) rfl), (zw_mG (List.mem_of_getElem? (i := 96) (by decide +kernel)) rfl), by decide, by decide +kernel⟩, (zw_mG (List.mem_of_getElem? (i := 1031) (by decide +kernel)) rfl), (zw_mG (List.mem_of_getElem? (i := 1032) (by decide +kernel)) rfl)⟩
def f_X10_fits (v0 : Nat) (v1 : Int32) (v2 : Int32) (v3 : Int32) (v4 : Int32) (I : zI) (R : zR) : Option (Int32) :=
  zw_g (zw_gc v0 10) ((f_X10_isCut v0 v1 I R).bind fun q2 => (if q2 = 0 then some (-1) else (f_X10_isRough v0 v2 I R).bind fun q4 => (if q4 = 0 then some (-1) else if v3 < 0 then some (-1) else if 12 ≤ v3 then some (-1) else if v4 < 0 then some (-1) else if v4 < 12 then zw_g (zw_gc (R v0 2) 1) (zw_g (zw_gc (R (R v0 2) 2) 16) (zw_g (zw_in v1 (zw_SH (R (R v0 2) 2)).2) (zw_g (zw_gc (R (R (R v0 2) 2) (Int32.toNatClampNeg v1)) 0) (zw_g (zw_gc (R (R v0 2) 4) 16) (zw_g (zw_in v2 (zw_SH (R (R v0 2) 4)).2) (zw_g (zw_gc (R (R (R v0 2) 4) (Int32.toNatClampNeg v2)) 0) ((f_X0_liesIn (R (R (R v0 2) 2) (Int32.toNatClampNeg v1)) (R (R (R v0 2) 4) (Int32.toNatClampNeg v2)) v3 v4 I R).bind fun q17 => (if q17 = 0 then some 0 else some 1)))))))) else some (-1))))
theorem c_X10_fits (X : zw_X) (v0 : Nat) (v1 : Int32) (v2 : Int32) (v3 : Int32) (v4 : Int32) (I : zI) (R : zR) (J : zJ) {P : Option Value → aS → Prop} (o : Int32) (hf : f_X10_fits v0 v1 v2 v3 v4 I R = some o) (hk : P (some (.int o)) (I, R, J)) : zw_C X M_X10_fits 2 0 0 199 [.ref v0, .int v1, .int v2, .int v3, .int v4] (I, R, J) P := by
  show zy_V X M_X10_fits 2 P 0 [.ref v0, .int v1, .int v2, .int v3, .int v4] [] (I, R, J)
  unfold f_X10_fits at hf
  refine zv_aload_n (pc := 0) d_X10_fits_0 rfl ?_
  refine zv_iload_n (pc := 1) d_X10_fits_1 rfl ?_
  obtain ⟨g1, hf⟩ := zw_gcE hf (by decide)
  obtain ⟨q2, hq2, hf⟩ := zw_bdE hf
  refine zx_callV (pc := 2) (As := [.int v1]) (o := v0) (st := []) (d2 := 0) (M2 := M_X10_isCut) (P2 := (fun r S => r = (some (.int q2)) ∧ S = (I, R, J))) d_X10_fits_2 (zw_mG (List.mem_of_getElem? (i := 849) (by decide +kernel)) rfl) ce_X10_isCut (zw_RvK g1 rfl rfl) (Nat.le_of_ble_eq_true rfl) rfl (Nat.le_of_ble_eq_true rfl) (by decide) (c_X10_isCut X v0 v1 I R J _ hq2 ⟨rfl, rfl⟩) ?_
  rintro _ _ ⟨rfl, rfl⟩
  show zy_V X M_X10_fits 2 P (2 + 3) [.ref v0, .int v1, .int v2, .int v3, .int v4] [.int q2] (I, R, J)
  rcases zw_ifE hf with ⟨c3, hf⟩ | ⟨c3, hf⟩
  · refine zv_if_eq (pc := 5) (tg := 38) d_X10_fits_5 (by decide) (fun _ => ?_) (fun q => absurd c3 q)
    refine zv_iconst (pc := 38) d_X10_fits_38 zc_i_m1 ?_
    cases hf
    exact zx_iret (pc := 39) d_X10_fits_39 rfl hk
  · refine zv_if_eq (pc := 5) (tg := 38) d_X10_fits_5 (by decide) (fun q => absurd q c3) (fun _ => ?_)
    refine zv_aload_n (pc := 8) d_X10_fits_8 rfl ?_
    refine zv_iload_n (pc := 9) d_X10_fits_9 rfl ?_
    obtain ⟨q4, hq4, hf⟩ := zw_bdE hf
    refine zx_callV (pc := 10) (As := [.int v2]) (o := v0) (st := []) (d2 := 0) (M2 := M_X10_isRough) (P2 := (fun r S => r = (some (.int q4)) ∧ S = (I, R, J))) d_X10_fits_10 (zw_mG (List.mem_of_getElem? (i := 845) (by decide +kernel)) rfl) ce_X10_isRough (zw_RvK g1 rfl rfl) (Nat.le_of_ble_eq_true rfl) rfl (Nat.le_of_ble_eq_true rfl) (by decide) (c_X10_isRough X v0 v2 I R J _ hq4 ⟨rfl, rfl⟩) ?_
    rintro _ _ ⟨rfl, rfl⟩
    show zy_V X M_X10_fits 2 P (10 + 3) [.ref v0, .int v1, .int v2, .int v3, .int v4] [.int q4] (I, R, J)
    rcases zw_ifE hf with ⟨c5, hf⟩ | ⟨c5, hf⟩
    · refine zv_if_eq (pc := 13) (tg := 38) d_X10_fits_13 (by decide) (fun _ => ?_) (fun q => absurd c5 q)
      refine zv_iconst (pc := 38) d_X10_fits_38 zc_i_m1 ?_
      cases hf
      exact zx_iret (pc := 39) d_X10_fits_39 rfl hk
    · refine zv_if_eq (pc := 13) (tg := 38) d_X10_fits_13 (by decide) (fun q => absurd q c5) (fun _ => ?_)
      refine zv_iload_n (pc := 16) d_X10_fits_16 rfl ?_
      rcases zw_ifE hf with ⟨c6, hf⟩ | ⟨c6, hf⟩
      · refine zv_if_lt (pc := 17) (tg := 38) d_X10_fits_17 (by decide) (fun _ => ?_) (fun q => absurd c6 q)
        refine zv_iconst (pc := 38) d_X10_fits_38 zc_i_m1 ?_
        cases hf
        exact zx_iret (pc := 39) d_X10_fits_39 rfl hk
      · refine zv_if_lt (pc := 17) (tg := 38) d_X10_fits_17 (by decide) (fun q => absurd q c6) (fun _ => ?_)
        refine zv_iload_n (pc := 20) d_X10_fits_20 rfl ?_
        refine zv_bipush (pc := 21) d_X10_fits_21 zc_b_12 ?_
        rcases zw_ifE hf with ⟨c7, hf⟩ | ⟨c7, hf⟩
        · refine zv_icmp_ge (pc := 23) (tg := 38) d_X10_fits_23 (by decide) (fun _ => ?_) (fun q => absurd c7 q)
          refine zv_iconst (pc := 38) d_X10_fits_38 zc_i_m1 ?_
          cases hf
          exact zx_iret (pc := 39) d_X10_fits_39 rfl hk
        · refine zv_icmp_ge (pc := 23) (tg := 38) d_X10_fits_23 (by decide) (fun q => absurd q c7) (fun _ => ?_)
          refine zv_iload (pc := 26) d_X10_fits_26 rfl ?_
          rcases zw_ifE hf with ⟨c8, hf⟩ | ⟨c8, hf⟩
          · refine zv_if_lt (pc := 28) (tg := 38) d_X10_fits_28 (by decide) (fun _ => ?_) (fun q => absurd c8 q)
            refine zv_iconst (pc := 38) d_X10_fits_38 zc_i_m1 ?_
            cases hf
            exact zx_iret (pc := 39) d_X10_fits_39 rfl hk
          · refine zv_if_lt (pc := 28) (tg := 38) d_X10_fits_28 (by decide) (fun q => absurd q c8) (fun _ => ?_)
            refine zv_iload (pc := 31) d_X10_fits_31 rfl ?_
            refine zv_bipush (pc := 33) d_X10_fits_33 zc_b_12 ?_
            rcases zw_ifE hf with ⟨c9, hf⟩ | ⟨c9, hf⟩
            · refine zv_icmp_lt (pc := 35) (tg := 40) d_X10_fits_35 (by decide) (fun _ => ?_) (fun q => absurd c9 q)
              refine zv_aload_n (pc := 40) d_X10_fits_40 rfl ?_
              obtain ⟨g10, hf⟩ := zw_gcE hf (by decide)
              refine zx_getR (pc := 41) d_X10_fits_41 lk_CutStones_26 (by decide) g1 g10 ?_
              obtain ⟨g11, hf⟩ := zw_gcE hf (by decide)
              refine zx_getR (pc := 44) d_X10_fits_44 lk_CutStones_141 (by decide) g10 g11 ?_
              refine zv_iload_n (pc := 47) d_X10_fits_47 rfl ?_
              obtain ⟨i12, hf⟩ := zw_inE hf
              obtain ⟨g13, hf⟩ := zw_gcE hf (by decide)
              refine zx_aald (pc := 48) d_X10_fits_48 g11 (by decide) i12 g13 ?_
              refine zv_aload_n (pc := 49) d_X10_fits_49 rfl ?_
              refine zx_getR (pc := 50) d_X10_fits_50 lk_CutStones_26 (by decide) g1 g10 ?_
              obtain ⟨g14, hf⟩ := zw_gcE hf (by decide)
              refine zx_getR (pc := 53) d_X10_fits_53 lk_CutStones_211 (by decide) g10 g14 ?_
              refine zv_iload_n (pc := 56) d_X10_fits_56 rfl ?_
              obtain ⟨i15, hf⟩ := zw_inE hf
              obtain ⟨g16, hf⟩ := zw_gcE hf (by decide)
              refine zx_aald (pc := 57) d_X10_fits_57 g14 (by decide) i15 g16 ?_
              refine zv_iload_n (pc := 58) d_X10_fits_58 rfl ?_
              refine zv_iload (pc := 59) d_X10_fits_59 rfl ?_
              obtain ⟨q17, hq17, hf⟩ := zw_bdE hf
              refine zx_callV (pc := 61) (As := [.ref (R (R (R v0 2) 4) (Int32.toNatClampNeg v2)), .int v3, .int v4]) (o := (R (R (R v0 2) 2) (Int32.toNatClampNeg v1))) (st := []) (d2 := 1) (M2 := M_X0_liesIn) (P2 := (fun r S => r = (some (.int q17)) ∧ S = (I, R, J))) d_X10_fits_61 (zw_mG (List.mem_of_getElem? (i := 1034) (by decide +kernel)) rfl) ce_X0_liesIn (zw_RvK g13 rfl rfl) (Nat.le_of_ble_eq_true rfl) rfl (Nat.le_of_ble_eq_true rfl) (by decide) (c_X0_liesIn X (R (R (R v0 2) 2) (Int32.toNatClampNeg v1)) (R (R (R v0 2) 4) (Int32.toNatClampNeg v2)) v3 v4 I R J _ hq17 ⟨rfl, rfl⟩) ?_
              rintro _ _ ⟨rfl, rfl⟩
              show zy_V X M_X10_fits 2 P (61 + 3) [.ref v0, .int v1, .int v2, .int v3, .int v4] [.int q17] (I, R, J)
              rcases zw_ifE hf with ⟨c18, hf⟩ | ⟨c18, hf⟩
              · refine zv_if_eq (pc := 64) (tg := 71) d_X10_fits_64 (by decide) (fun _ => ?_) (fun q => absurd c18 q)
                refine zv_iconst (pc := 71) d_X10_fits_71 zc_i_0 ?_
                cases hf
                exact zx_iret (pc := 72) d_X10_fits_72 rfl hk
              · refine zv_if_eq (pc := 64) (tg := 71) d_X10_fits_64 (by decide) (fun q => absurd q c18) (fun _ => ?_)
                refine zv_iconst (pc := 67) d_X10_fits_67 zc_i_1 ?_
                refine zv_goto (pc := 68) (tg := 72) d_X10_fits_68 (by decide) ?_
                cases hf
                exact zx_iret (pc := 72) d_X10_fits_72 rfl hk
            · refine zv_icmp_lt (pc := 35) (tg := 40) d_X10_fits_35 (by decide) (fun q => absurd q c9) (fun _ => ?_)
              refine zv_iconst (pc := 38) d_X10_fits_38 zc_i_m1 ?_
              cases hf
              exact zx_iret (pc := 39) d_X10_fits_39 rfl hk
