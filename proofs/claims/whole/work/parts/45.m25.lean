abbrev M_X3_takeRow : zw_M := (⟨"CutStones$Reader", "takeRow", "(LCutStones$Tape;LCutStones$Drawing;)V"⟩, prog_5_method_13_code, 5, (Option.none : Option Jvm.ClassFile.FieldType))
theorem d_X3_takeRow_0 : decode M_X3_takeRow.2.1 0 = .ok (.aload_n 1, 1) := by decide +kernel
theorem d_X3_takeRow_1 : decode M_X3_takeRow.2.1 1 = .ok (.getfield 59, 3) := by decide +kernel
theorem d_X3_takeRow_4 : decode M_X3_takeRow.2.1 4 = .ok (.aload_n 0, 1) := by decide +kernel
theorem d_X3_takeRow_5 : decode M_X3_takeRow.2.1 5 = .ok (.getfield 25, 3) := by decide +kernel
theorem d_X3_takeRow_8 : decode M_X3_takeRow.2.1 8 = .ok (.iaload, 1) := by decide +kernel
theorem d_X3_takeRow_9 : decode M_X3_takeRow.2.1 9 = .ok (.istore_n 3, 1) := by decide +kernel
theorem d_X3_takeRow_10 : decode M_X3_takeRow.2.1 10 = .ok (.aload_n 1, 1) := by decide +kernel
theorem d_X3_takeRow_11 : decode M_X3_takeRow.2.1 11 = .ok (.getfield 62, 3) := by decide +kernel
theorem d_X3_takeRow_14 : decode M_X3_takeRow.2.1 14 = .ok (.aload_n 0, 1) := by decide +kernel
theorem d_X3_takeRow_15 : decode M_X3_takeRow.2.1 15 = .ok (.getfield 25, 3) := by decide +kernel
theorem d_X3_takeRow_18 : decode M_X3_takeRow.2.1 18 = .ok (.laload, 1) := by decide +kernel
theorem d_X3_takeRow_19 : decode M_X3_takeRow.2.1 19 = .ok (.l2i, 1) := by decide +kernel
theorem d_X3_takeRow_20 : decode M_X3_takeRow.2.1 20 = .ok (.istore 4, 2) := by decide +kernel
theorem d_X3_takeRow_22 : decode M_X3_takeRow.2.1 22 = .ok (.aload_n 0, 1) := by decide +kernel
theorem d_X3_takeRow_23 : decode M_X3_takeRow.2.1 23 = .ok (.aload_n 1, 1) := by decide +kernel
theorem d_X3_takeRow_24 : decode M_X3_takeRow.2.1 24 = .ok (.iconst 4, 1) := by decide +kernel
theorem d_X3_takeRow_25 : decode M_X3_takeRow.2.1 25 = .ok (.aload_n 2, 1) := by decide +kernel
theorem d_X3_takeRow_26 : decode M_X3_takeRow.2.1 26 = .ok (.getfield 133, 3) := by decide +kernel
theorem d_X3_takeRow_29 : decode M_X3_takeRow.2.1 29 = .ok (.bipush 12, 2) := by decide +kernel
theorem d_X3_takeRow_31 : decode M_X3_takeRow.2.1 31 = .ok (.if_icmp .ge 7, 3) := by decide +kernel
theorem d_X3_takeRow_34 : decode M_X3_takeRow.2.1 34 = .ok (.iconst 1, 1) := by decide +kernel
theorem d_X3_takeRow_35 : decode M_X3_takeRow.2.1 35 = .ok (.goto 4, 3) := by decide +kernel
theorem d_X3_takeRow_38 : decode M_X3_takeRow.2.1 38 = .ok (.iconst 0, 1) := by decide +kernel
theorem d_X3_takeRow_39 : decode M_X3_takeRow.2.1 39 = .ok (.invokevirtual 66, 3) := by decide +kernel
theorem d_X3_takeRow_42 : decode M_X3_takeRow.2.1 42 = .ok (.ifCond .ne 4, 3) := by decide +kernel
theorem d_X3_takeRow_45 : decode M_X3_takeRow.2.1 45 = .ok (.return_, 1) := by decide +kernel
theorem d_X3_takeRow_46 : decode M_X3_takeRow.2.1 46 = .ok (.aload_n 2, 1) := by decide +kernel
theorem d_X3_takeRow_47 : decode M_X3_takeRow.2.1 47 = .ok (.getfield 133, 3) := by decide +kernel
theorem d_X3_takeRow_50 : decode M_X3_takeRow.2.1 50 = .ok (.ifCond .le 18, 3) := by decide +kernel
theorem d_X3_takeRow_53 : decode M_X3_takeRow.2.1 53 = .ok (.aload_n 2, 1) := by decide +kernel
theorem d_X3_takeRow_54 : decode M_X3_takeRow.2.1 54 = .ok (.getfield 136, 3) := by decide +kernel
theorem d_X3_takeRow_57 : decode M_X3_takeRow.2.1 57 = .ok (.iload 4, 2) := by decide +kernel
theorem d_X3_takeRow_59 : decode M_X3_takeRow.2.1 59 = .ok (.if_icmp .eq 9, 3) := by decide +kernel
theorem d_X3_takeRow_62 : decode M_X3_takeRow.2.1 62 = .ok (.aload_n 0, 1) := by decide +kernel
theorem d_X3_takeRow_63 : decode M_X3_takeRow.2.1 63 = .ok (.iconst 5, 1) := by decide +kernel
theorem d_X3_takeRow_64 : decode M_X3_takeRow.2.1 64 = .ok (.iload_n 3, 1) := by decide +kernel
theorem d_X3_takeRow_65 : decode M_X3_takeRow.2.1 65 = .ok (.invokevirtual 74, 3) := by decide +kernel
theorem d_X3_takeRow_68 : decode M_X3_takeRow.2.1 68 = .ok (.aload_n 2, 1) := by decide +kernel
theorem d_X3_takeRow_69 : decode M_X3_takeRow.2.1 69 = .ok (.aload_n 1, 1) := by decide +kernel
theorem d_X3_takeRow_70 : decode M_X3_takeRow.2.1 70 = .ok (.iload_n 3, 1) := by decide +kernel
theorem d_X3_takeRow_71 : decode M_X3_takeRow.2.1 71 = .ok (.iconst 1, 1) := by decide +kernel
theorem d_X3_takeRow_72 : decode M_X3_takeRow.2.1 72 = .ok (.iadd, 1) := by decide +kernel
theorem d_X3_takeRow_73 : decode M_X3_takeRow.2.1 73 = .ok (.iload 4, 2) := by decide +kernel
theorem d_X3_takeRow_75 : decode M_X3_takeRow.2.1 75 = .ok (.invokevirtual 139, 3) := by decide +kernel
theorem d_X3_takeRow_78 : decode M_X3_takeRow.2.1 78 = .ok (.return_, 1) := by decide +kernel
theorem ce_X3_takeRow : zw_CeV M_X3_takeRow 2 := ⟨⟨⟨by decide +kernel, by decide +kernel, by decide +kernel⟩, (zw_mG (List.mem_of_getElem? (i := 738) (by decide +kernel)) rfl), (zw_mG (List.mem_of_getElem? (i := 98) (by decide +kernel)) rfl), by decide, by decide +kernel⟩, (zw_mG (List.mem_of_getElem? (i := 737) (by decide +kernel)) rfl), (zw_mG (List.mem_of_getElem? (i := 11) (by decide +kernel)) rfl)⟩
def j_X3_takeRow_68 (v1 : Nat) (v2 : Nat) (v3 : Int32) (v4 : Int32) (I : zI) (R : zR) (J : zJ) : Option (zI) :=
  zw_g (zw_gc v2 0) ((f_X0_addRow v2 v1 (v3 + 1) v4 I R).bind fun q17 => (some q17))
theorem j_X3_takeRow_68_ok (X : zw_X) (P : Option Value → aS → Prop) (v1 : Nat) (v2 : Nat) (v3 : Int32) (v4 : Int32) (I : zI) (R : zR) (J : zJ) (o : zI) (hf : j_X3_takeRow_68 v1 v2 v3 v4 I R J = some o) (hk : P none (o, R, J)) : zy_V X M_X3_takeRow 9 P 68 [.null, .ref v1, .ref v2, .int v3, .int v4] [] (I, R, J) := by
  unfold j_X3_takeRow_68 at hf
  refine zv_aload_n (pc := 68) d_X3_takeRow_68 rfl ?_
  refine zv_aload_n (pc := 69) d_X3_takeRow_69 rfl ?_
  refine zv_iload_n (pc := 70) d_X3_takeRow_70 rfl ?_
  refine zv_iconst (pc := 71) d_X3_takeRow_71 zc_i_1 ?_
  refine zv_iadd (pc := 72) d_X3_takeRow_72 ?_
  refine zv_iload (pc := 73) d_X3_takeRow_73 rfl ?_
  obtain ⟨g16, hf⟩ := zw_gcE hf (by decide)
  obtain ⟨q17, hq17, hf⟩ := zw_bdE hf
  refine zx_callV (pc := 75) (As := [.ref v1, .int (v3 + 1), .int v4]) (o := v2) (st := []) (d2 := 8) (M2 := M_X0_addRow) (P2 := (fun r S => r = none ∧ S = (q17, R, J))) d_X3_takeRow_75 (zw_mG (List.mem_of_getElem? (i := 739) (by decide +kernel)) rfl) ce_X0_addRow (zw_RvK g16 rfl rfl) (Nat.le_of_ble_eq_true rfl) rfl (Nat.le_of_ble_eq_true rfl) (by decide) (c_X0_addRow X v2 v1 (v3 + 1) v4 I R J _ hq17 ⟨rfl, rfl⟩) ?_
  rintro _ _ ⟨rfl, rfl⟩
  show zy_V X M_X3_takeRow 9 P (75 + 3) [.null, .ref v1, .ref v2, .int v3, .int v4] [] (q17, R, J)
  cases hf
  exact zx_vret (pc := 78) d_X3_takeRow_78 rfl hk
def j_X3_takeRow_39 (v0 : Nat) (v1 : Nat) (v2 : Nat) (v3 : Int32) (v4 : Int32) (s0 : Nat) (s1 : Nat) (s2 : Int32) (s3 : Int32) (I : zI) (R : zR) (J : zJ) : Option (zI) :=
  zw_g (zw_gc s0 3) ((f_X3_take s0 s1 s2 s3 I R).bind fun q12 => (if ¬ q12.1 = 0 then zw_g (zw_gc v2 0) (if (q12.2 v2 2) ≤ 0 then j_X3_takeRow_68 v1 v2 v3 v4 q12.2 R J else if (q12.2 v2 1) = v4 then j_X3_takeRow_68 v1 v2 v3 v4 q12.2 R J else zw_g (zw_gc v0 3) ((f_X3_noteLater v0 5 v3 q12.2).bind fun q20 => (j_X3_takeRow_68 v1 v2 v3 v4 q20 R J))) else some q12.2))
theorem j_X3_takeRow_39_ok (X : zw_X) (P : Option Value → aS → Prop) (v0 : Nat) (v1 : Nat) (v2 : Nat) (v3 : Int32) (v4 : Int32) (s0 : Nat) (s1 : Nat) (s2 : Int32) (s3 : Int32) (I : zI) (R : zR) (J : zJ) (o : zI) (hf : j_X3_takeRow_39 v0 v1 v2 v3 v4 s0 s1 s2 s3 I R J = some o) (hk : P none (o, R, J)) : zy_V X M_X3_takeRow 9 P 39 [.ref v0, .ref v1, .ref v2, .int v3, .int v4] [.int s3, .int s2, .ref s1, .ref s0] (I, R, J) := by
  unfold j_X3_takeRow_39 at hf
  obtain ⟨g11, hf⟩ := zw_gcE hf (by decide)
  obtain ⟨q12, hq12, hf⟩ := zw_bdE hf
  refine zx_callV (pc := 39) (As := [.ref s1, .int s2, .int s3]) (o := s0) (st := []) (d2 := 0) (M2 := M_X3_take) (P2 := (fun r S => r = (some (.int q12.1)) ∧ S = (q12.2, R, J))) d_X3_takeRow_39 (zw_mG (List.mem_of_getElem? (i := 707) (by decide +kernel)) rfl) ce_X3_take (zw_RvK g11 rfl rfl) (Nat.le_of_ble_eq_true rfl) rfl (Nat.le_of_ble_eq_true rfl) (by decide) (c_X3_take X s0 s1 s2 s3 I R J _ hq12 ⟨rfl, rfl⟩) ?_
  rintro _ _ ⟨rfl, rfl⟩
  show zy_V X M_X3_takeRow 9 P (39 + 3) [.ref v0, .ref v1, .ref v2, .int v3, .int v4] [.int q12.1] (q12.2, R, J)
  rcases zw_ifE hf with ⟨c13, hf⟩ | ⟨c13, hf⟩
  · refine zv_if_ne (pc := 42) (tg := 46) d_X3_takeRow_42 (by decide) (fun _ => ?_) (fun q => absurd q c13)
    refine zv_aload_n (pc := 46) d_X3_takeRow_46 rfl ?_
    obtain ⟨g14, hf⟩ := zw_gcE hf (by decide)
    refine zx_getI (pc := 47) d_X3_takeRow_47 lk_CutStones_Reader_133 (by decide) g14 ?_
    rcases zw_ifE hf with ⟨c15, hf⟩ | ⟨c15, hf⟩
    · refine zv_if_le (pc := 50) (tg := 68) d_X3_takeRow_50 (by decide) (fun _ => ?_) (fun q => absurd c15 q)
      exact zx_weak (zw_leN (zw_leS (zw_leS (zw_leS (zw_leS zw_leZ))))) (j_X3_takeRow_68_ok X P v1 v2 v3 v4 q12.2 R J _ hf hk)
    · refine zv_if_le (pc := 50) (tg := 68) d_X3_takeRow_50 (by decide) (fun q => absurd q c15) (fun _ => ?_)
      refine zv_aload_n (pc := 53) d_X3_takeRow_53 rfl ?_
      refine zx_getI (pc := 54) d_X3_takeRow_54 lk_CutStones_Reader_136 (by decide) g14 ?_
      refine zv_iload (pc := 57) d_X3_takeRow_57 rfl ?_
      rcases zw_ifE hf with ⟨c18, hf⟩ | ⟨c18, hf⟩
      · refine zv_icmp_eq (pc := 59) (tg := 68) d_X3_takeRow_59 (by decide) (fun _ => ?_) (fun q => absurd c18 q)
        exact zx_weak (zw_leN (zw_leS (zw_leS (zw_leS (zw_leS zw_leZ))))) (j_X3_takeRow_68_ok X P v1 v2 v3 v4 q12.2 R J _ hf hk)
      · refine zv_icmp_eq (pc := 59) (tg := 68) d_X3_takeRow_59 (by decide) (fun q => absurd q c18) (fun _ => ?_)
        refine zv_aload_n (pc := 62) d_X3_takeRow_62 rfl ?_
        refine zv_iconst (pc := 63) d_X3_takeRow_63 zc_i_5 ?_
        refine zv_iload_n (pc := 64) d_X3_takeRow_64 rfl ?_
        obtain ⟨g19, hf⟩ := zw_gcE hf (by decide)
        obtain ⟨q20, hq20, hf⟩ := zw_bdE hf
        refine zx_callV (pc := 65) (As := [.int 5, .int v3]) (o := v0) (st := []) (d2 := 0) (M2 := M_X3_noteLater) (P2 := (fun r S => r = none ∧ S = (q20, R, J))) d_X3_takeRow_65 (zw_mG (List.mem_of_getElem? (i := 731) (by decide +kernel)) rfl) ce_X3_noteLater (zw_RvK g19 rfl rfl) (Nat.le_of_ble_eq_true rfl) rfl (Nat.le_of_ble_eq_true rfl) (by decide) (c_X3_noteLater X v0 5 v3 q12.2 R J _ hq20 ⟨rfl, rfl⟩) ?_
        rintro _ _ ⟨rfl, rfl⟩
        show zy_V X M_X3_takeRow 9 P (65 + 3) [.ref v0, .ref v1, .ref v2, .int v3, .int v4] [] (q20, R, J)
        exact zx_weak (zw_leN (zw_leS (zw_leS (zw_leS (zw_leS zw_leZ))))) (j_X3_takeRow_68_ok X P v1 v2 v3 v4 q20 R J _ hf hk)
  · refine zv_if_ne (pc := 42) (tg := 46) d_X3_takeRow_42 (by decide) (fun q => absurd q c13) (fun _ => ?_)
    cases hf
    exact zx_vret (pc := 45) d_X3_takeRow_45 rfl hk
def f_X3_takeRow (v0 : Nat) (v1 : Nat) (v2 : Nat) (I : zI) (R : zR) (J : zJ) : Option (zI) :=
  zw_g (zw_gc v1 8) (zw_g (zw_gc (R v1 3) 13) (zw_g (zw_gc v0 3) (zw_g (zw_in (I v0 3) (zw_SH (R v1 3)).2) (zw_let ((I (R v1 3) (Int32.toNatClampNeg (I v0 3))) : Int32) fun x5 => (zw_g (zw_gc (R v1 4) 14) (zw_g (zw_in (I v0 3) (zw_SH (R v1 4)).2) (zw_let ((Int64.toInt32 (J (R v1 4) (Int32.toNatClampNeg (I v0 3)))) : Int32) fun x8 => (zw_g (zw_gc v2 0) (if 12 ≤ (I v2 2) then j_X3_takeRow_39 v0 v1 v2 x5 x8 v0 v1 4 0 I R J else j_X3_takeRow_39 v0 v1 v2 x5 x8 v0 v1 4 1 I R J)))))))))
theorem c_X3_takeRow (X : zw_X) (v0 : Nat) (v1 : Nat) (v2 : Nat) (I : zI) (R : zR) (J : zJ) {P : Option Value → aS → Prop} (o : zI) (hf : f_X3_takeRow v0 v1 v2 I R J = some o) (hk : P none (o, R, J)) : zw_C X M_X3_takeRow 9 0 0 199 [.ref v0, .ref v1, .ref v2] (I, R, J) P := by
  show zy_V X M_X3_takeRow 9 P 0 [.ref v0, .ref v1, .ref v2, .null, .null] [] (I, R, J)
  unfold f_X3_takeRow at hf
  refine zv_aload_n (pc := 0) d_X3_takeRow_0 rfl ?_
  obtain ⟨g1, hf⟩ := zw_gcE hf (by decide)
  obtain ⟨g2, hf⟩ := zw_gcE hf (by decide)
  refine zx_getR (pc := 1) d_X3_takeRow_1 lk_CutStones_Reader_59 (by decide) g1 g2 ?_
  refine zv_aload_n (pc := 4) d_X3_takeRow_4 rfl ?_
  obtain ⟨g3, hf⟩ := zw_gcE hf (by decide)
  refine zx_getI (pc := 5) d_X3_takeRow_5 lk_CutStones_Reader_25 (by decide) g3 ?_
  obtain ⟨i4, hf⟩ := zw_inE hf
  refine zx_iald (pc := 8) d_X3_takeRow_8 g2 i4 ?_
  obtain ⟨x5, ex5, hf⟩ := zw_letE hf
  refine zx_istore_n (pc := 9) (x2 := x5) (L2 := [.ref v0, .ref v1, .ref v2, .int x5, .null]) d_X3_takeRow_9 (by decide) ex5 rfl ?_
  refine zv_aload_n (pc := 10) d_X3_takeRow_10 rfl ?_
  obtain ⟨g6, hf⟩ := zw_gcE hf (by decide)
  refine zx_getR (pc := 11) d_X3_takeRow_11 lk_CutStones_Reader_62 (by decide) g1 g6 ?_
  refine zv_aload_n (pc := 14) d_X3_takeRow_14 rfl ?_
  refine zx_getI (pc := 15) d_X3_takeRow_15 lk_CutStones_Reader_25 (by decide) g3 ?_
  obtain ⟨i7, hf⟩ := zw_inE hf
  refine zx_lald (pc := 18) d_X3_takeRow_18 g6 i7 ?_
  refine zv_l2i (pc := 19) d_X3_takeRow_19 ?_
  obtain ⟨x8, ex8, hf⟩ := zw_letE hf
  refine zx_istore (pc := 20) (x2 := x8) (L2 := [.ref v0, .ref v1, .ref v2, .int x5, .int x8]) d_X3_takeRow_20 (by decide) ex8 rfl ?_
  refine zv_aload_n (pc := 22) d_X3_takeRow_22 rfl ?_
  refine zv_aload_n (pc := 23) d_X3_takeRow_23 rfl ?_
  refine zv_iconst (pc := 24) d_X3_takeRow_24 zc_i_4 ?_
  refine zv_aload_n (pc := 25) d_X3_takeRow_25 rfl ?_
  obtain ⟨g9, hf⟩ := zw_gcE hf (by decide)
  refine zx_getI (pc := 26) d_X3_takeRow_26 lk_CutStones_Reader_133 (by decide) g9 ?_
  refine zv_bipush (pc := 29) d_X3_takeRow_29 zc_b_12 ?_
  rcases zw_ifE hf with ⟨c10, hf⟩ | ⟨c10, hf⟩
  · refine zv_icmp_ge (pc := 31) (tg := 38) d_X3_takeRow_31 (by decide) (fun _ => ?_) (fun q => absurd c10 q)
    refine zv_iconst (pc := 38) d_X3_takeRow_38 zc_i_0 ?_
    exact zx_weak (zw_leS (zw_leS (zw_leS (zw_leS (zw_leS zw_leZ))))) (j_X3_takeRow_39_ok X P v0 v1 v2 x5 x8 v0 v1 4 0 I R J _ hf hk)
  · refine zv_icmp_ge (pc := 31) (tg := 38) d_X3_takeRow_31 (by decide) (fun q => absurd q c10) (fun _ => ?_)
    refine zv_iconst (pc := 34) d_X3_takeRow_34 zc_i_1 ?_
    refine zv_goto (pc := 35) (tg := 39) d_X3_takeRow_35 (by decide) ?_
    exact zx_weak (zw_leS (zw_leS (zw_leS (zw_leS (zw_leS zw_leZ))))) (j_X3_takeRow_39_ok X P v0 v1 v2 x5 x8 v0 v1 4 1 I R J _ hf hk)
abbrev M_X8_scan : zw_M := (⟨"CutStones$Tape", "scan", "()V"⟩, prog_10_method_3_code, 4, (Option.none : Option Jvm.ClassFile.FieldType))
theorem d_X8_scan_0 : decode M_X8_scan.2.1 0 = .ok (.iconst 0, 1) := by decide +kernel
theorem d_X8_scan_1 : decode M_X8_scan.2.1 1 = .ok (.istore_n 1, 1) := by decide +kernel
theorem d_X8_scan_2 : decode M_X8_scan.2.1 2 = .ok (.iconst 1, 1) := by decide +kernel
theorem d_X8_scan_3 : decode M_X8_scan.2.1 3 = .ok (.istore_n 2, 1) := by decide +kernel
theorem d_X8_scan_4 : decode M_X8_scan.2.1 4 = .ok (.iconst 0, 1) := by decide +kernel
theorem d_X8_scan_5 : decode M_X8_scan.2.1 5 = .ok (.istore_n 3, 1) := by decide +kernel
theorem d_X8_scan_6 : decode M_X8_scan.2.1 6 = .ok (.iload_n 2, 1) := by decide +kernel
theorem d_X8_scan_7 : decode M_X8_scan.2.1 7 = .ok (.ifCond .eq 83, 3) := by decide +kernel
theorem d_X8_scan_10 : decode M_X8_scan.2.1 10 = .ok (.iload_n 3, 1) := by decide +kernel
theorem d_X8_scan_11 : decode M_X8_scan.2.1 11 = .ok (.sipush 500, 3) := by decide +kernel
theorem d_X8_scan_14 : decode M_X8_scan.2.1 14 = .ok (.if_icmp .gt 76, 3) := by decide +kernel
theorem d_X8_scan_17 : decode M_X8_scan.2.1 17 = .ok (.aload_n 0, 1) := by decide +kernel
theorem d_X8_scan_18 : decode M_X8_scan.2.1 18 = .ok (.iload_n 1, 1) := by decide +kernel
theorem d_X8_scan_19 : decode M_X8_scan.2.1 19 = .ok (.invokevirtual 30, 3) := by decide +kernel
theorem d_X8_scan_22 : decode M_X8_scan.2.1 22 = .ok (.istore_n 1, 1) := by decide +kernel
theorem d_X8_scan_23 : decode M_X8_scan.2.1 23 = .ok (.aload_n 0, 1) := by decide +kernel
theorem d_X8_scan_24 : decode M_X8_scan.2.1 24 = .ok (.getfield 23, 3) := by decide +kernel
theorem d_X8_scan_27 : decode M_X8_scan.2.1 27 = .ok (.iload_n 3, 1) := by decide +kernel
theorem d_X8_scan_28 : decode M_X8_scan.2.1 28 = .ok (.iload_n 1, 1) := by decide +kernel
theorem d_X8_scan_29 : decode M_X8_scan.2.1 29 = .ok (.iastore, 1) := by decide +kernel
theorem d_X8_scan_30 : decode M_X8_scan.2.1 30 = .ok (.aload_n 0, 1) := by decide +kernel
theorem d_X8_scan_31 : decode M_X8_scan.2.1 31 = .ok (.getfield 26, 3) := by decide +kernel
theorem d_X8_scan_34 : decode M_X8_scan.2.1 34 = .ok (.iload_n 3, 1) := by decide +kernel
theorem d_X8_scan_35 : decode M_X8_scan.2.1 35 = .ok (.lconst 0, 1) := by decide +kernel
theorem d_X8_scan_36 : decode M_X8_scan.2.1 36 = .ok (.lastore, 1) := by decide +kernel
theorem d_X8_scan_37 : decode M_X8_scan.2.1 37 = .ok (.aload_n 0, 1) := by decide +kernel
theorem d_X8_scan_38 : decode M_X8_scan.2.1 38 = .ok (.getfield 19, 3) := by decide +kernel
theorem d_X8_scan_41 : decode M_X8_scan.2.1 41 = .ok (.iload_n 3, 1) := by decide +kernel
theorem d_X8_scan_42 : decode M_X8_scan.2.1 42 = .ok (.iconst 0, 1) := by decide +kernel
theorem d_X8_scan_43 : decode M_X8_scan.2.1 43 = .ok (.iastore, 1) := by decide +kernel
theorem d_X8_scan_44 : decode M_X8_scan.2.1 44 = .ok (.iload_n 1, 1) := by decide +kernel
theorem d_X8_scan_45 : decode M_X8_scan.2.1 45 = .ok (.aload_n 0, 1) := by decide +kernel
theorem d_X8_scan_46 : decode M_X8_scan.2.1 46 = .ok (.getfield 15, 3) := by decide +kernel
theorem d_X8_scan_49 : decode M_X8_scan.2.1 49 = .ok (.if_icmp .ge 10, 3) := by decide +kernel
theorem d_X8_scan_52 : decode M_X8_scan.2.1 52 = .ok (.aload_n 0, 1) := by decide +kernel
theorem d_X8_scan_53 : decode M_X8_scan.2.1 53 = .ok (.iload_n 3, 1) := by decide +kernel
theorem d_X8_scan_54 : decode M_X8_scan.2.1 54 = .ok (.iload_n 1, 1) := by decide +kernel
theorem d_X8_scan_55 : decode M_X8_scan.2.1 55 = .ok (.invokevirtual 34, 3) := by decide +kernel
theorem d_X8_scan_58 : decode M_X8_scan.2.1 58 = .ok (.istore_n 1, 1) := by decide +kernel
theorem d_X8_scan_59 : decode M_X8_scan.2.1 59 = .ok (.aload_n 0, 1) := by decide +kernel
theorem d_X8_scan_60 : decode M_X8_scan.2.1 60 = .ok (.getfield 19, 3) := by decide +kernel
theorem d_X8_scan_63 : decode M_X8_scan.2.1 63 = .ok (.iload_n 3, 1) := by decide +kernel
theorem d_X8_scan_64 : decode M_X8_scan.2.1 64 = .ok (.iaload, 1) := by decide +kernel
theorem d_X8_scan_65 : decode M_X8_scan.2.1 65 = .ok (.ifCond .eq 17, 3) := by decide +kernel
theorem d_X8_scan_68 : decode M_X8_scan.2.1 68 = .ok (.aload_n 0, 1) := by decide +kernel
theorem d_X8_scan_69 : decode M_X8_scan.2.1 69 = .ok (.getfield 19, 3) := by decide +kernel
theorem d_X8_scan_72 : decode M_X8_scan.2.1 72 = .ok (.iload_n 3, 1) := by decide +kernel
theorem d_X8_scan_73 : decode M_X8_scan.2.1 73 = .ok (.iaload, 1) := by decide +kernel
theorem d_X8_scan_74 : decode M_X8_scan.2.1 74 = .ok (.iconst 1, 1) := by decide +kernel
theorem d_X8_scan_75 : decode M_X8_scan.2.1 75 = .ok (.if_icmp .eq 7, 3) := by decide +kernel
theorem d_X8_scan_78 : decode M_X8_scan.2.1 78 = .ok (.iconst 1, 1) := by decide +kernel
theorem d_X8_scan_79 : decode M_X8_scan.2.1 79 = .ok (.goto 4, 3) := by decide +kernel
theorem d_X8_scan_82 : decode M_X8_scan.2.1 82 = .ok (.iconst 0, 1) := by decide +kernel
theorem d_X8_scan_83 : decode M_X8_scan.2.1 83 = .ok (.istore_n 2, 1) := by decide +kernel
theorem d_X8_scan_84 : decode M_X8_scan.2.1 84 = .ok (.iinc 3 1, 3) := by decide +kernel
theorem d_X8_scan_87 : decode M_X8_scan.2.1 87 = .ok (.goto (-81), 3) := by decide +kernel
theorem d_X8_scan_90 : decode M_X8_scan.2.1 90 = .ok (.return_, 1) := by decide +kernel
theorem ce_X8_scan : zw_CeV M_X8_scan 0 := ⟨⟨⟨by decide +kernel, by decide +kernel, by decide +kernel⟩, (zw_mG (List.mem_of_getElem? (i := 540) (by decide +kernel)) rfl), (zw_mG (List.mem_of_getElem? (i := 97) (by decide +kernel)) rfl), by decide, by decide +kernel⟩, (zw_mG (List.mem_of_getElem? (i := 538) (by decide +kernel)) rfl), (zw_mG (List.mem_of_getElem? (i := 539) (by decide +kernel)) rfl)⟩
def j_X8_scan_83_6 (v0 : Nat) (v1 : Int32) (v3 : Int32) (s0 : Int32) (I : zI) (R : zR) (J : zJ) : Option ((Int32 × Int32 × Int32 × zI × zJ) ⊕ (zI × zJ)) :=
  zw_let (v3 + 1 : Int32) fun x19 => (some (.inl (v1, s0, x19, I, J)))
theorem j_X8_scan_83_6_ok (X : zw_X) (P : Option Value → aS → Prop) (v0 : Nat) (v1 : Int32) (v3 : Int32) (s0 : Int32) (I : zI) (R : zR) (J : zJ) (o : (Int32 × Int32 × Int32 × zI × zJ) ⊕ (zI × zJ)) (hf : j_X8_scan_83_6 v0 v1 v3 s0 I R J = some o) (hk : (zw_se (fun t => zy_V X M_X8_scan 9 P 6 [.ref v0, .int t.1, .int t.2.1, .int t.2.2.1] [] (t.2.2.2.1, R, t.2.2.2.2)) (fun r => zy_V X M_X8_scan 9 P 90 [.null, .null, .null, .null] [] (r.1, R, r.2)) o)) : zy_V X M_X8_scan 9 P 83 [.ref v0, .int v1, .null, .int v3] [.int s0] (I, R, J) := by
  unfold j_X8_scan_83_6 at hf
  refine zx_istore_n (pc := 83) (x2 := s0) (L2 := [.ref v0, .int v1, .int s0, .int v3]) d_X8_scan_83 (by decide) rfl rfl ?_
  obtain ⟨x19, ex19, hf⟩ := zw_letE hf
  refine zx_iinc (pc := 84) (x2 := x19) (L2 := [.ref v0, .int v1, .int s0, .int x19]) d_X8_scan_84 (by decide) rfl zc_i_1 ex19 rfl ?_
  refine zv_goto (pc := 87) (tg := 6) d_X8_scan_87 (by decide) ?_
  cases hf
  exact zx_weak (zw_leS (zw_leS (zw_leS (zw_leS zw_leZ)))) hk
def j_X8_scan_82_6 (v0 : Nat) (v1 : Int32) (v3 : Int32) (I : zI) (R : zR) (J : zJ) : Option ((Int32 × Int32 × Int32 × zI × zJ) ⊕ (zI × zJ)) :=
  j_X8_scan_83_6 v0 v1 v3 0 I R J
theorem j_X8_scan_82_6_ok (X : zw_X) (P : Option Value → aS → Prop) (v0 : Nat) (v1 : Int32) (v3 : Int32) (I : zI) (R : zR) (J : zJ) (o : (Int32 × Int32 × Int32 × zI × zJ) ⊕ (zI × zJ)) (hf : j_X8_scan_82_6 v0 v1 v3 I R J = some o) (hk : (zw_se (fun t => zy_V X M_X8_scan 9 P 6 [.ref v0, .int t.1, .int t.2.1, .int t.2.2.1] [] (t.2.2.2.1, R, t.2.2.2.2)) (fun r => zy_V X M_X8_scan 9 P 90 [.null, .null, .null, .null] [] (r.1, R, r.2)) o)) : zy_V X M_X8_scan 9 P 82 [.ref v0, .int v1, .null, .int v3] [] (I, R, J) := by
  unfold j_X8_scan_82_6 at hf
  refine zv_iconst (pc := 82) d_X8_scan_82 zc_i_0 ?_
  exact zx_weak (zw_leS (zw_leS (zw_leN (zw_leS zw_leZ)))) (j_X8_scan_83_6_ok X P v0 v1 v3 0 I R J _ hf hk)
def j_X8_scan_59_6 (v0 : Nat) (v1 : Int32) (v3 : Int32) (I : zI) (R : zR) (J : zJ) : Option ((Int32 × Int32 × Int32 × zI × zJ) ⊕ (zI × zJ)) :=
  zw_g (zw_gc v0 8) (zw_g (zw_gc (R v0 2) 13) (zw_g (zw_in v3 (zw_SH (R v0 2)).2) (if (I (R v0 2) (Int32.toNatClampNeg v3)) = 0 then j_X8_scan_82_6 v0 v1 v3 I R J else zw_g (zw_in v3 (zw_SH (R v0 2)).2) (if (I (R v0 2) (Int32.toNatClampNeg v3)) = 1 then j_X8_scan_82_6 v0 v1 v3 I R J else j_X8_scan_83_6 v0 v1 v3 1 I R J))))
theorem j_X8_scan_59_6_ok (X : zw_X) (P : Option Value → aS → Prop) (v0 : Nat) (v1 : Int32) (v3 : Int32) (I : zI) (R : zR) (J : zJ) (o : (Int32 × Int32 × Int32 × zI × zJ) ⊕ (zI × zJ)) (hf : j_X8_scan_59_6 v0 v1 v3 I R J = some o) (hk : (zw_se (fun t => zy_V X M_X8_scan 9 P 6 [.ref v0, .int t.1, .int t.2.1, .int t.2.2.1] [] (t.2.2.2.1, R, t.2.2.2.2)) (fun r => zy_V X M_X8_scan 9 P 90 [.null, .null, .null, .null] [] (r.1, R, r.2)) o)) : zy_V X M_X8_scan 9 P 59 [.ref v0, .int v1, .null, .int v3] [] (I, R, J) := by
  unfold j_X8_scan_59_6 at hf
  refine zv_aload_n (pc := 59) d_X8_scan_59 rfl ?_
  obtain ⟨g15, hf⟩ := zw_gcE hf (by decide)
  obtain ⟨g16, hf⟩ := zw_gcE hf (by decide)
  refine zx_getR (pc := 60) d_X8_scan_60 lk_CutStones_Tape_19 (by decide) g15 g16 ?_
  refine zv_iload_n (pc := 63) d_X8_scan_63 rfl ?_
  obtain ⟨i17, hf⟩ := zw_inE hf
  refine zx_iald (pc := 64) d_X8_scan_64 g16 i17 ?_
  rcases zw_ifE hf with ⟨c18, hf⟩ | ⟨c18, hf⟩
  · refine zv_if_eq (pc := 65) (tg := 82) d_X8_scan_65 (by decide) (fun _ => ?_) (fun q => absurd c18 q)
    exact zx_weak (zw_leS (zw_leS (zw_leN (zw_leS zw_leZ)))) (j_X8_scan_82_6_ok X P v0 v1 v3 I R J _ hf hk)
  · refine zv_if_eq (pc := 65) (tg := 82) d_X8_scan_65 (by decide) (fun q => absurd q c18) (fun _ => ?_)
    refine zv_aload_n (pc := 68) d_X8_scan_68 rfl ?_
    refine zx_getR (pc := 69) d_X8_scan_69 lk_CutStones_Tape_19 (by decide) g15 g16 ?_
    refine zv_iload_n (pc := 72) d_X8_scan_72 rfl ?_
    obtain ⟨i20, hf⟩ := zw_inE hf
    refine zx_iald (pc := 73) d_X8_scan_73 g16 i20 ?_
    refine zv_iconst (pc := 74) d_X8_scan_74 zc_i_1 ?_
    rcases zw_ifE hf with ⟨c21, hf⟩ | ⟨c21, hf⟩
    · refine zv_icmp_eq (pc := 75) (tg := 82) d_X8_scan_75 (by decide) (fun _ => ?_) (fun q => absurd c21 q)
      exact zx_weak (zw_leS (zw_leS (zw_leN (zw_leS zw_leZ)))) (j_X8_scan_82_6_ok X P v0 v1 v3 I R J _ hf hk)
    · refine zv_icmp_eq (pc := 75) (tg := 82) d_X8_scan_75 (by decide) (fun q => absurd q c21) (fun _ => ?_)
      refine zv_iconst (pc := 78) d_X8_scan_78 zc_i_1 ?_
      refine zv_goto (pc := 79) (tg := 83) d_X8_scan_79 (by decide) ?_
      exact zx_weak (zw_leS (zw_leS (zw_leN (zw_leS zw_leZ)))) (j_X8_scan_83_6_ok X P v0 v1 v3 1 I R J _ hf hk)
def s_X8_scan_6 (v0 : Nat) (R : zR) (s : Int32 × Int32 × Int32 × zI × zJ) : Option ((Int32 × Int32 × Int32 × zI × zJ) ⊕ (zI × zJ)) :=
  if s.2.1 = 0 then some (.inr (s.2.2.2.1, s.2.2.2.2)) else if 500 < s.2.2.1 then some (.inr (s.2.2.2.1, s.2.2.2.2)) else zw_g (zw_gc v0 8) ((f_X8_pastBlanks v0 s.1 s.2.2.2.1 R).bind fun q4 => (zw_g (zw_gc (R v0 3) 13) (zw_g (zw_in s.2.2.1 (zw_SH (R v0 3)).2) (zw_let (zw_u s.2.2.2.1 (R v0 3) (Int32.toNatClampNeg s.2.2.1) q4 : zI) fun I7 => (zw_g (zw_gc (R v0 4) 14) (zw_g (zw_in s.2.2.1 (zw_SH (R v0 4)).2) (zw_let (zw_u s.2.2.2.2 (R v0 4) (Int32.toNatClampNeg s.2.2.1) 0 : zJ) fun J10 => (zw_g (zw_gc (R v0 2) 13) (zw_g (zw_in s.2.2.1 (zw_SH (R v0 2)).2) (zw_let (zw_u I7 (R v0 2) (Int32.toNatClampNeg s.2.2.1) 0 : zI) fun I13 => (if (I13 v0 1) ≤ q4 then j_X8_scan_59_6 v0 q4 s.2.2.1 I13 R J10 else (f_X8_scanToken v0 s.2.2.1 q4 I13 R J10).bind fun q22 => (j_X8_scan_59_6 v0 q22.1 s.2.2.1 q22.2.1 R q22.2.2))))))))))))
theorem s_X8_scan_6_ok (X : zw_X) (P : Option Value → aS → Prop) (v0 : Nat) (R : zR) (s : Int32 × Int32 × Int32 × zI × zJ) (o : (Int32 × Int32 × Int32 × zI × zJ) ⊕ (zI × zJ)) (hf : s_X8_scan_6 v0 R s = some o) (hk : (zw_se (fun t => zy_V X M_X8_scan 9 P 6 [.ref v0, .int t.1, .int t.2.1, .int t.2.2.1] [] (t.2.2.2.1, R, t.2.2.2.2)) (fun r => zy_V X M_X8_scan 9 P 90 [.null, .null, .null, .null] [] (r.1, R, r.2)) o)) : zy_V X M_X8_scan 9 P 6 [.ref v0, .int s.1, .int s.2.1, .int s.2.2.1] [] (s.2.2.2.1, R, s.2.2.2.2) := by
  unfold s_X8_scan_6 at hf
  refine zv_iload_n (pc := 6) d_X8_scan_6 rfl ?_
  rcases zw_ifE hf with ⟨c1, hf⟩ | ⟨c1, hf⟩
  · refine zv_if_eq (pc := 7) (tg := 90) d_X8_scan_7 (by decide) (fun _ => ?_) (fun q => absurd c1 q)
    cases hf
    exact zx_weak (zw_leN (zw_leN (zw_leN (zw_leN zw_leZ)))) hk
  · refine zv_if_eq (pc := 7) (tg := 90) d_X8_scan_7 (by decide) (fun q => absurd q c1) (fun _ => ?_)
    refine zv_iload_n (pc := 10) d_X8_scan_10 rfl ?_
    refine zv_sipush (pc := 11) d_X8_scan_11 zc_s_500 ?_
    rcases zw_ifE hf with ⟨c2, hf⟩ | ⟨c2, hf⟩
    · refine zv_icmp_gt (pc := 14) (tg := 90) d_X8_scan_14 (by decide) (fun _ => ?_) (fun q => absurd c2 q)
      cases hf
      exact zx_weak (zw_leN (zw_leN (zw_leN (zw_leN zw_leZ)))) hk
    · refine zv_icmp_gt (pc := 14) (tg := 90) d_X8_scan_14 (by decide) (fun q => absurd q c2) (fun _ => ?_)
      refine zv_aload_n (pc := 17) d_X8_scan_17 rfl ?_
      refine zv_iload_n (pc := 18) d_X8_scan_18 rfl ?_
      obtain ⟨g3, hf⟩ := zw_gcE hf (by decide)
      obtain ⟨q4, hq4, hf⟩ := zw_bdE hf
      refine zx_callV (pc := 19) (As := [.int s.1]) (o := v0) (st := []) (d2 := 1) (M2 := M_X8_pastBlanks) (P2 := (fun r S => r = (some (.int q4)) ∧ S = (s.2.2.2.1, R, s.2.2.2.2))) d_X8_scan_19 (zw_mG (List.mem_of_getElem? (i := 541) (by decide +kernel)) rfl) ce_X8_pastBlanks (zw_RvK g3 rfl rfl) (Nat.le_of_ble_eq_true rfl) rfl (Nat.le_of_ble_eq_true rfl) (by decide) (c_X8_pastBlanks X v0 s.1 s.2.2.2.1 R s.2.2.2.2 _ hq4 ⟨rfl, rfl⟩) ?_
      rintro _ _ ⟨rfl, rfl⟩
      show zy_V X M_X8_scan 9 P (19 + 3) [.ref v0, .int s.1, .int s.2.1, .int s.2.2.1] [.int q4] (s.2.2.2.1, R, s.2.2.2.2)
      refine zx_istore_n (pc := 22) (x2 := q4) (L2 := [.ref v0, .int q4, .int s.2.1, .int s.2.2.1]) d_X8_scan_22 (by decide) rfl rfl ?_
      refine zv_aload_n (pc := 23) d_X8_scan_23 rfl ?_
      obtain ⟨g5, hf⟩ := zw_gcE hf (by decide)
      refine zx_getR (pc := 24) d_X8_scan_24 lk_CutStones_Tape_23 (by decide) g3 g5 ?_
      refine zv_iload_n (pc := 27) d_X8_scan_27 rfl ?_
      refine zv_iload_n (pc := 28) d_X8_scan_28 rfl ?_
      obtain ⟨i6, hf⟩ := zw_inE hf
      obtain ⟨I7, eI7, hf⟩ := zw_letE hf
      refine zx_iast (pc := 29) (I2 := I7) d_X8_scan_29 g5 i6 eI7 ?_
      refine zv_aload_n (pc := 30) d_X8_scan_30 rfl ?_
      obtain ⟨g8, hf⟩ := zw_gcE hf (by decide)
      refine zx_getR (pc := 31) d_X8_scan_31 lk_CutStones_Tape_26 (by decide) g3 g8 ?_
      refine zv_iload_n (pc := 34) d_X8_scan_34 rfl ?_
      refine zv_lconst (pc := 35) d_X8_scan_35 zc_l_0 ?_
      obtain ⟨i9, hf⟩ := zw_inE hf
      obtain ⟨J10, eJ10, hf⟩ := zw_letE hf
      refine zx_last (pc := 36) (J2 := J10) d_X8_scan_36 g8 i9 eJ10 ?_
      refine zv_aload_n (pc := 37) d_X8_scan_37 rfl ?_
      obtain ⟨g11, hf⟩ := zw_gcE hf (by decide)
      refine zx_getR (pc := 38) d_X8_scan_38 lk_CutStones_Tape_19 (by decide) g3 g11 ?_
      refine zv_iload_n (pc := 41) d_X8_scan_41 rfl ?_
      refine zv_iconst (pc := 42) d_X8_scan_42 zc_i_0 ?_
      obtain ⟨i12, hf⟩ := zw_inE hf
      obtain ⟨I13, eI13, hf⟩ := zw_letE hf
      refine zx_iast (pc := 43) (I2 := I13) d_X8_scan_43 g11 i12 eI13 ?_
      refine zv_iload_n (pc := 44) d_X8_scan_44 rfl ?_
      refine zv_aload_n (pc := 45) d_X8_scan_45 rfl ?_
      refine zx_getI (pc := 46) d_X8_scan_46 lk_CutStones_Tape_15 (by decide) g3 ?_
      rcases zw_ifE hf with ⟨c14, hf⟩ | ⟨c14, hf⟩
      · refine zv_icmp_ge (pc := 49) (tg := 59) d_X8_scan_49 (by decide) (fun _ => ?_) (fun q => absurd c14 q)
        exact zx_weak (zw_leS (zw_leS (zw_leN (zw_leS zw_leZ)))) (j_X8_scan_59_6_ok X P v0 q4 s.2.2.1 I13 R J10 _ hf hk)
      · refine zv_icmp_ge (pc := 49) (tg := 59) d_X8_scan_49 (by decide) (fun q => absurd q c14) (fun _ => ?_)
        refine zv_aload_n (pc := 52) d_X8_scan_52 rfl ?_
        refine zv_iload_n (pc := 53) d_X8_scan_53 rfl ?_
        refine zv_iload_n (pc := 54) d_X8_scan_54 rfl ?_
        obtain ⟨q22, hq22, hf⟩ := zw_bdE hf
        refine zx_callV (pc := 55) (As := [.int s.2.2.1, .int q4]) (o := v0) (st := []) (d2 := 8) (M2 := M_X8_scanToken) (P2 := (fun r S => r = (some (.int q22.1)) ∧ S = (q22.2.1, R, q22.2.2))) d_X8_scan_55 (zw_mG (List.mem_of_getElem? (i := 552) (by decide +kernel)) rfl) ce_X8_scanToken (zw_RvK g3 rfl rfl) (Nat.le_of_ble_eq_true rfl) rfl (Nat.le_of_ble_eq_true rfl) (by decide) (c_X8_scanToken X v0 s.2.2.1 q4 I13 R J10 _ hq22 ⟨rfl, rfl⟩) ?_
        rintro _ _ ⟨rfl, rfl⟩
        show zy_V X M_X8_scan 9 P (55 + 3) [.ref v0, .int q4, .int s.2.1, .int s.2.2.1] [.int q22.1] (q22.2.1, R, q22.2.2)
        refine zx_istore_n (pc := 58) (x2 := q22.1) (L2 := [.ref v0, .int q22.1, .int s.2.1, .int s.2.2.1]) d_X8_scan_58 (by decide) rfl rfl ?_
        exact zx_weak (zw_leS (zw_leS (zw_leN (zw_leS zw_leZ)))) (j_X8_scan_59_6_ok X P v0 q22.1 s.2.2.1 q22.2.1 R q22.2.2 _ hf hk)
theorem s_X8_scan_6_lp (X : zw_X) (P : Option Value → aS → Prop) (v0 : Nat) (R : zR) (n : Nat) (s : Int32 × Int32 × Int32 × zI × zJ) (r : zI × zJ) (h : zw_it (s_X8_scan_6 v0 R) n s = some r) (hq : zy_V X M_X8_scan 9 P 90 [.null, .null, .null, .null] [] (r.1, R, r.2)) : zy_V X M_X8_scan 9 P 6 [.ref v0, .int s.1, .int s.2.1, .int s.2.2.1] [] (s.2.2.2.1, R, s.2.2.2.2) :=
  zw_itE (A := (fun t : Int32 × Int32 × Int32 × zI × zJ => zy_V X M_X8_scan 9 P 6 [.ref v0, .int t.1, .int t.2.1, .int t.2.2.1] [] (t.2.2.2.1, R, t.2.2.2.2))) (Q := (fun r : zI × zJ => zy_V X M_X8_scan 9 P 90 [.null, .null, .null, .null] [] (r.1, R, r.2))) (fun s o h1 h2 => s_X8_scan_6_ok X P v0 R s o h1 h2) n s r h hq
def f_X8_scan (v0 : Nat) (I : zI) (R : zR) (J : zJ) : Option (zI × zJ) :=
  (zw_it (s_X8_scan_6 v0 R) 1000000 (0, 1, 0, I, J)).bind fun q23 => (some (q23.1, q23.2))
theorem c_X8_scan (X : zw_X) (v0 : Nat) (I : zI) (R : zR) (J : zJ) {P : Option Value → aS → Prop} (o : zI × zJ) (hf : f_X8_scan v0 I R J = some o) (hk : P none (o.1, R, o.2)) : zw_C X M_X8_scan 9 0 0 199 [.ref v0] (I, R, J) P := by
  show zy_V X M_X8_scan 9 P 0 [.ref v0, .null, .null, .null] [] (I, R, J)
  unfold f_X8_scan at hf
  refine zv_iconst (pc := 0) d_X8_scan_0 zc_i_0 ?_
  refine zx_istore_n (pc := 1) (x2 := 0) (L2 := [.ref v0, .int 0, .null, .null]) d_X8_scan_1 (by decide) rfl rfl ?_
  refine zv_iconst (pc := 2) d_X8_scan_2 zc_i_1 ?_
  refine zx_istore_n (pc := 3) (x2 := 1) (L2 := [.ref v0, .int 0, .int 1, .null]) d_X8_scan_3 (by decide) rfl rfl ?_
  refine zv_iconst (pc := 4) d_X8_scan_4 zc_i_0 ?_
  refine zx_istore_n (pc := 5) (x2 := 0) (L2 := [.ref v0, .int 0, .int 1, .int 0]) d_X8_scan_5 (by decide) rfl rfl ?_
  obtain ⟨q23, hq23, hf⟩ := zw_bdE hf
  refine zx_weak (L' := [.ref v0, .int 0, .int 1, .int 0]) (zw_leS (zw_leS (zw_leS (zw_leS zw_leZ)))) (s_X8_scan_6_lp X P v0 R _ _ _ hq23 ?_)
  show zy_V X M_X8_scan 9 P 90 [.null, .null, .null, .null] [] (q23.1, R, q23.2)
  cases hf
  exact zx_vret (pc := 90) d_X8_scan_90 rfl hk
abbrev M_X3_readDrawing : zw_M := (⟨"CutStones$Reader", "readDrawing", "(LCutStones$Tape;LCutStones$Drawing;)V"⟩, prog_5_method_12_code, 6, (Option.none : Option Jvm.ClassFile.FieldType))
theorem d_X3_readDrawing_0 : decode M_X3_readDrawing.2.1 0 = .ok (.aload_n 0, 1) := by decide +kernel
theorem d_X3_readDrawing_1 : decode M_X3_readDrawing.2.1 1 = .ok (.aload_n 1, 1) := by decide +kernel
theorem d_X3_readDrawing_2 : decode M_X3_readDrawing.2.1 2 = .ok (.invokevirtual 81, 3) := by decide +kernel
theorem d_X3_readDrawing_5 : decode M_X3_readDrawing.2.1 5 = .ok (.iconst (-1), 1) := by decide +kernel
theorem d_X3_readDrawing_6 : decode M_X3_readDrawing.2.1 6 = .ok (.istore_n 3, 1) := by decide +kernel
theorem d_X3_readDrawing_7 : decode M_X3_readDrawing.2.1 7 = .ok (.iconst 1, 1) := by decide +kernel
theorem d_X3_readDrawing_8 : decode M_X3_readDrawing.2.1 8 = .ok (.istore 4, 2) := by decide +kernel
theorem d_X3_readDrawing_10 : decode M_X3_readDrawing.2.1 10 = .ok (.iconst 0, 1) := by decide +kernel
theorem d_X3_readDrawing_11 : decode M_X3_readDrawing.2.1 11 = .ok (.istore 5, 2) := by decide +kernel
theorem d_X3_readDrawing_13 : decode M_X3_readDrawing.2.1 13 = .ok (.iload 4, 2) := by decide +kernel
theorem d_X3_readDrawing_15 : decode M_X3_readDrawing.2.1 15 = .ok (.ifCond .eq 48, 3) := by decide +kernel
theorem d_X3_readDrawing_18 : decode M_X3_readDrawing.2.1 18 = .ok (.iload 5, 2) := by decide +kernel
theorem d_X3_readDrawing_20 : decode M_X3_readDrawing.2.1 20 = .ok (.bipush 12, 2) := by decide +kernel
theorem d_X3_readDrawing_22 : decode M_X3_readDrawing.2.1 22 = .ok (.if_icmp .gt 41, 3) := by decide +kernel
theorem d_X3_readDrawing_25 : decode M_X3_readDrawing.2.1 25 = .ok (.aload_n 1, 1) := by decide +kernel
theorem d_X3_readDrawing_26 : decode M_X3_readDrawing.2.1 26 = .ok (.getfield 59, 3) := by decide +kernel
theorem d_X3_readDrawing_29 : decode M_X3_readDrawing.2.1 29 = .ok (.aload_n 0, 1) := by decide +kernel
theorem d_X3_readDrawing_30 : decode M_X3_readDrawing.2.1 30 = .ok (.getfield 25, 3) := by decide +kernel
theorem d_X3_readDrawing_33 : decode M_X3_readDrawing.2.1 33 = .ok (.iaload, 1) := by decide +kernel
theorem d_X3_readDrawing_34 : decode M_X3_readDrawing.2.1 34 = .ok (.istore_n 3, 1) := by decide +kernel
theorem d_X3_readDrawing_35 : decode M_X3_readDrawing.2.1 35 = .ok (.aload_n 0, 1) := by decide +kernel
theorem d_X3_readDrawing_36 : decode M_X3_readDrawing.2.1 36 = .ok (.aload_n 1, 1) := by decide +kernel
theorem d_X3_readDrawing_37 : decode M_X3_readDrawing.2.1 37 = .ok (.aload_n 2, 1) := by decide +kernel
theorem d_X3_readDrawing_38 : decode M_X3_readDrawing.2.1 38 = .ok (.invokevirtual 122, 3) := by decide +kernel
theorem d_X3_readDrawing_41 : decode M_X3_readDrawing.2.1 41 = .ok (.aload_n 0, 1) := by decide +kernel
theorem d_X3_readDrawing_42 : decode M_X3_readDrawing.2.1 42 = .ok (.aload_n 1, 1) := by decide +kernel
theorem d_X3_readDrawing_43 : decode M_X3_readDrawing.2.1 43 = .ok (.invokevirtual 98, 3) := by decide +kernel
theorem d_X3_readDrawing_46 : decode M_X3_readDrawing.2.1 46 = .ok (.iconst 4, 1) := by decide +kernel
theorem d_X3_readDrawing_47 : decode M_X3_readDrawing.2.1 47 = .ok (.if_icmp .ne 7, 3) := by decide +kernel
theorem d_X3_readDrawing_50 : decode M_X3_readDrawing.2.1 50 = .ok (.iconst 1, 1) := by decide +kernel
theorem d_X3_readDrawing_51 : decode M_X3_readDrawing.2.1 51 = .ok (.goto 4, 3) := by decide +kernel
theorem d_X3_readDrawing_54 : decode M_X3_readDrawing.2.1 54 = .ok (.iconst 0, 1) := by decide +kernel
theorem d_X3_readDrawing_55 : decode M_X3_readDrawing.2.1 55 = .ok (.istore 4, 2) := by decide +kernel
theorem d_X3_readDrawing_57 : decode M_X3_readDrawing.2.1 57 = .ok (.iinc 5 1, 3) := by decide +kernel
theorem d_X3_readDrawing_60 : decode M_X3_readDrawing.2.1 60 = .ok (.goto (-47), 3) := by decide +kernel
theorem d_X3_readDrawing_63 : decode M_X3_readDrawing.2.1 63 = .ok (.aload_n 0, 1) := by decide +kernel
theorem d_X3_readDrawing_64 : decode M_X3_readDrawing.2.1 64 = .ok (.aload_n 1, 1) := by decide +kernel
theorem d_X3_readDrawing_65 : decode M_X3_readDrawing.2.1 65 = .ok (.iconst 5, 1) := by decide +kernel
theorem d_X3_readDrawing_66 : decode M_X3_readDrawing.2.1 66 = .ok (.iconst 1, 1) := by decide +kernel
theorem d_X3_readDrawing_67 : decode M_X3_readDrawing.2.1 67 = .ok (.invokevirtual 66, 3) := by decide +kernel
theorem d_X3_readDrawing_70 : decode M_X3_readDrawing.2.1 70 = .ok (.pop, 1) := by decide +kernel
theorem d_X3_readDrawing_71 : decode M_X3_readDrawing.2.1 71 = .ok (.aload_n 2, 1) := by decide +kernel
theorem d_X3_readDrawing_72 : decode M_X3_readDrawing.2.1 72 = .ok (.invokevirtual 125, 3) := by decide +kernel
theorem d_X3_readDrawing_75 : decode M_X3_readDrawing.2.1 75 = .ok (.aload_n 2, 1) := by decide +kernel
theorem d_X3_readDrawing_76 : decode M_X3_readDrawing.2.1 76 = .ok (.getfield 130, 3) := by decide +kernel
theorem d_X3_readDrawing_79 : decode M_X3_readDrawing.2.1 79 = .ok (.ifCond .ne 9, 3) := by decide +kernel
theorem d_X3_readDrawing_82 : decode M_X3_readDrawing.2.1 82 = .ok (.aload_n 0, 1) := by decide +kernel
theorem d_X3_readDrawing_83 : decode M_X3_readDrawing.2.1 83 = .ok (.iconst 5, 1) := by decide +kernel
theorem d_X3_readDrawing_84 : decode M_X3_readDrawing.2.1 84 = .ok (.iload_n 3, 1) := by decide +kernel
theorem d_X3_readDrawing_85 : decode M_X3_readDrawing.2.1 85 = .ok (.invokevirtual 74, 3) := by decide +kernel
theorem d_X3_readDrawing_88 : decode M_X3_readDrawing.2.1 88 = .ok (.return_, 1) := by decide +kernel
theorem ce_X3_readDrawing : zw_CeV M_X3_readDrawing 2 := ⟨⟨⟨by decide +kernel, by decide +kernel, by decide +kernel⟩, (zw_mG (List.mem_of_getElem? (i := 722) (by decide +kernel)) rfl), (zw_mG (List.mem_of_getElem? (i := 98) (by decide +kernel)) rfl), by decide, by decide +kernel⟩, (zw_mG (List.mem_of_getElem? (i := 721) (by decide +kernel)) rfl), (zw_mG (List.mem_of_getElem? (i := 8) (by decide +kernel)) rfl)⟩
def j_X3_readDrawing_55_13 (v0 : Nat) (v1 : Nat) (v2 : Nat) (v3 : Int32) (v5 : Int32) (s0 : Int32) (I : zI) (R : zR) (J : zJ) : Option ((Int32 × Int32 × Int32 × zI) ⊕ (Int32 × zI)) :=
  zw_let (v5 + 1 : Int32) fun x13 => (some (.inl (v3, s0, x13, I)))
theorem j_X3_readDrawing_55_13_ok (X : zw_X) (P : Option Value → aS → Prop) (v0 : Nat) (v1 : Nat) (v2 : Nat) (v3 : Int32) (v5 : Int32) (s0 : Int32) (I : zI) (R : zR) (J : zJ) (o : (Int32 × Int32 × Int32 × zI) ⊕ (Int32 × zI)) (hf : j_X3_readDrawing_55_13 v0 v1 v2 v3 v5 s0 I R J = some o) (hk : (zw_se (fun t => zy_V X M_X3_readDrawing 10 P 13 [.ref v0, .ref v1, .ref v2, .int t.1, .int t.2.1, .int t.2.2.1] [] (t.2.2.2, R, J)) (fun r => zy_V X M_X3_readDrawing 10 P 63 [.ref v0, .ref v1, .ref v2, .int r.1, .null, .null] [] (r.2, R, J)) o)) : zy_V X M_X3_readDrawing 10 P 55 [.ref v0, .ref v1, .ref v2, .int v3, .null, .int v5] [.int s0] (I, R, J) := by
  unfold j_X3_readDrawing_55_13 at hf
  refine zx_istore (pc := 55) (x2 := s0) (L2 := [.ref v0, .ref v1, .ref v2, .int v3, .int s0, .int v5]) d_X3_readDrawing_55 (by decide) rfl rfl ?_
  obtain ⟨x13, ex13, hf⟩ := zw_letE hf
  refine zx_iinc (pc := 57) (x2 := x13) (L2 := [.ref v0, .ref v1, .ref v2, .int v3, .int s0, .int x13]) d_X3_readDrawing_57 (by decide) rfl zc_i_1 ex13 rfl ?_
  refine zv_goto (pc := 60) (tg := 13) d_X3_readDrawing_60 (by decide) ?_
  cases hf
  exact zx_weak (zw_leS (zw_leS (zw_leS (zw_leS (zw_leS (zw_leS zw_leZ)))))) hk
def s_X3_readDrawing_13 (v0 : Nat) (v1 : Nat) (v2 : Nat) (R : zR) (J : zJ) (s : Int32 × Int32 × Int32 × zI) : Option ((Int32 × Int32 × Int32 × zI) ⊕ (Int32 × zI)) :=
  if s.2.1 = 0 then some (.inr (s.1, s.2.2.2)) else if 12 < s.2.2.1 then some (.inr (s.1, s.2.2.2)) else zw_g (zw_gc v1 8) (zw_g (zw_gc (R v1 3) 13) (zw_g (zw_gc v0 3) (zw_g (zw_in (s.2.2.2 v0 3) (zw_SH (R v1 3)).2) (zw_let ((s.2.2.2 (R v1 3) (Int32.toNatClampNeg (s.2.2.2 v0 3))) : Int32) fun x9 => ((f_X3_takeRow v0 v1 v2 s.2.2.2 R J).bind fun q10 => ((f_X3_kind v0 v1 q10 R).bind fun q11 => (if ¬ q11 = 4 then j_X3_readDrawing_55_13 v0 v1 v2 x9 s.2.2.1 0 q10 R J else j_X3_readDrawing_55_13 v0 v1 v2 x9 s.2.2.1 1 q10 R J)))))))
theorem s_X3_readDrawing_13_ok (X : zw_X) (P : Option Value → aS → Prop) (v0 : Nat) (v1 : Nat) (v2 : Nat) (R : zR) (J : zJ) (s : Int32 × Int32 × Int32 × zI) (o : (Int32 × Int32 × Int32 × zI) ⊕ (Int32 × zI)) (hf : s_X3_readDrawing_13 v0 v1 v2 R J s = some o) (hk : (zw_se (fun t => zy_V X M_X3_readDrawing 10 P 13 [.ref v0, .ref v1, .ref v2, .int t.1, .int t.2.1, .int t.2.2.1] [] (t.2.2.2, R, J)) (fun r => zy_V X M_X3_readDrawing 10 P 63 [.ref v0, .ref v1, .ref v2, .int r.1, .null, .null] [] (r.2, R, J)) o)) : zy_V X M_X3_readDrawing 10 P 13 [.ref v0, .ref v1, .ref v2, .int s.1, .int s.2.1, .int s.2.2.1] [] (s.2.2.2, R, J) := by
  unfold s_X3_readDrawing_13 at hf
  refine zv_iload (pc := 13) d_X3_readDrawing_13 rfl ?_
  rcases zw_ifE hf with ⟨c3, hf⟩ | ⟨c3, hf⟩
  · refine zv_if_eq (pc := 15) (tg := 63) d_X3_readDrawing_15 (by decide) (fun _ => ?_) (fun q => absurd c3 q)
    cases hf
    exact zx_weak (zw_leS (zw_leS (zw_leS (zw_leS (zw_leN (zw_leN zw_leZ)))))) hk
  · refine zv_if_eq (pc := 15) (tg := 63) d_X3_readDrawing_15 (by decide) (fun q => absurd q c3) (fun _ => ?_)
    refine zv_iload (pc := 18) d_X3_readDrawing_18 rfl ?_
    refine zv_bipush (pc := 20) d_X3_readDrawing_20 zc_b_12 ?_
    rcases zw_ifE hf with ⟨c4, hf⟩ | ⟨c4, hf⟩
    · refine zv_icmp_gt (pc := 22) (tg := 63) d_X3_readDrawing_22 (by decide) (fun _ => ?_) (fun q => absurd c4 q)
      cases hf
      exact zx_weak (zw_leS (zw_leS (zw_leS (zw_leS (zw_leN (zw_leN zw_leZ)))))) hk
    · refine zv_icmp_gt (pc := 22) (tg := 63) d_X3_readDrawing_22 (by decide) (fun q => absurd q c4) (fun _ => ?_)
      refine zv_aload_n (pc := 25) d_X3_readDrawing_25 rfl ?_
      obtain ⟨g5, hf⟩ := zw_gcE hf (by decide)
      obtain ⟨g6, hf⟩ := zw_gcE hf (by decide)
      refine zx_getR (pc := 26) d_X3_readDrawing_26 lk_CutStones_Reader_59 (by decide) g5 g6 ?_
      refine zv_aload_n (pc := 29) d_X3_readDrawing_29 rfl ?_
      obtain ⟨g7, hf⟩ := zw_gcE hf (by decide)
      refine zx_getI (pc := 30) d_X3_readDrawing_30 lk_CutStones_Reader_25 (by decide) g7 ?_
      obtain ⟨i8, hf⟩ := zw_inE hf
      refine zx_iald (pc := 33) d_X3_readDrawing_33 g6 i8 ?_
      obtain ⟨x9, ex9, hf⟩ := zw_letE hf
      refine zx_istore_n (pc := 34) (x2 := x9) (L2 := [.ref v0, .ref v1, .ref v2, .int x9, .int s.2.1, .int s.2.2.1]) d_X3_readDrawing_34 (by decide) ex9 rfl ?_
      refine zv_aload_n (pc := 35) d_X3_readDrawing_35 rfl ?_
      refine zv_aload_n (pc := 36) d_X3_readDrawing_36 rfl ?_
      refine zv_aload_n (pc := 37) d_X3_readDrawing_37 rfl ?_
      obtain ⟨q10, hq10, hf⟩ := zw_bdE hf
      refine zx_callV (pc := 38) (As := [.ref v1, .ref v2]) (o := v0) (st := []) (d2 := 9) (M2 := M_X3_takeRow) (P2 := (fun r S => r = none ∧ S = (q10, R, J))) d_X3_readDrawing_38 (zw_mG (List.mem_of_getElem? (i := 735) (by decide +kernel)) rfl) ce_X3_takeRow (zw_RvK g7 rfl rfl) (Nat.le_of_ble_eq_true rfl) rfl (Nat.le_of_ble_eq_true rfl) (by decide) (c_X3_takeRow X v0 v1 v2 s.2.2.2 R J _ hq10 ⟨rfl, rfl⟩) ?_
      rintro _ _ ⟨rfl, rfl⟩
      show zy_V X M_X3_readDrawing 10 P (38 + 3) [.ref v0, .ref v1, .ref v2, .int x9, .int s.2.1, .int s.2.2.1] [] (q10, R, J)
      refine zv_aload_n (pc := 41) d_X3_readDrawing_41 rfl ?_
      refine zv_aload_n (pc := 42) d_X3_readDrawing_42 rfl ?_
      obtain ⟨q11, hq11, hf⟩ := zw_bdE hf
      refine zx_callV (pc := 43) (As := [.ref v1]) (o := v0) (st := []) (d2 := 0) (M2 := M_X3_kind) (P2 := (fun r S => r = (some (.int q11)) ∧ S = (q10, R, J))) d_X3_readDrawing_43 (zw_mG (List.mem_of_getElem? (i := 746) (by decide +kernel)) rfl) ce_X3_kind (zw_RvK g7 rfl rfl) (Nat.le_of_ble_eq_true rfl) rfl (Nat.le_of_ble_eq_true rfl) (by decide) (c_X3_kind X v0 v1 q10 R J _ hq11 ⟨rfl, rfl⟩) ?_
      rintro _ _ ⟨rfl, rfl⟩
      show zy_V X M_X3_readDrawing 10 P (43 + 3) [.ref v0, .ref v1, .ref v2, .int x9, .int s.2.1, .int s.2.2.1] [.int q11] (q10, R, J)
      refine zv_iconst (pc := 46) d_X3_readDrawing_46 zc_i_4 ?_
      rcases zw_ifE hf with ⟨c12, hf⟩ | ⟨c12, hf⟩
      · refine zv_icmp_ne (pc := 47) (tg := 54) d_X3_readDrawing_47 (by decide) (fun _ => ?_) (fun q => absurd q c12)
        refine zv_iconst (pc := 54) d_X3_readDrawing_54 zc_i_0 ?_
        exact zx_weak (zw_leS (zw_leS (zw_leS (zw_leS (zw_leN (zw_leS zw_leZ)))))) (j_X3_readDrawing_55_13_ok X P v0 v1 v2 x9 s.2.2.1 0 q10 R J _ hf hk)
      · refine zv_icmp_ne (pc := 47) (tg := 54) d_X3_readDrawing_47 (by decide) (fun q => absurd q c12) (fun _ => ?_)
        refine zv_iconst (pc := 50) d_X3_readDrawing_50 zc_i_1 ?_
        refine zv_goto (pc := 51) (tg := 55) d_X3_readDrawing_51 (by decide) ?_
        exact zx_weak (zw_leS (zw_leS (zw_leS (zw_leS (zw_leN (zw_leS zw_leZ)))))) (j_X3_readDrawing_55_13_ok X P v0 v1 v2 x9 s.2.2.1 1 q10 R J _ hf hk)
theorem s_X3_readDrawing_13_lp (X : zw_X) (P : Option Value → aS → Prop) (v0 : Nat) (v1 : Nat) (v2 : Nat) (R : zR) (J : zJ) (n : Nat) (s : Int32 × Int32 × Int32 × zI) (r : Int32 × zI) (h : zw_it (s_X3_readDrawing_13 v0 v1 v2 R J) n s = some r) (hq : zy_V X M_X3_readDrawing 10 P 63 [.ref v0, .ref v1, .ref v2, .int r.1, .null, .null] [] (r.2, R, J)) : zy_V X M_X3_readDrawing 10 P 13 [.ref v0, .ref v1, .ref v2, .int s.1, .int s.2.1, .int s.2.2.1] [] (s.2.2.2, R, J) :=
  zw_itE (A := (fun t : Int32 × Int32 × Int32 × zI => zy_V X M_X3_readDrawing 10 P 13 [.ref v0, .ref v1, .ref v2, .int t.1, .int t.2.1, .int t.2.2.1] [] (t.2.2.2, R, J))) (Q := (fun r : Int32 × zI => zy_V X M_X3_readDrawing 10 P 63 [.ref v0, .ref v1, .ref v2, .int r.1, .null, .null] [] (r.2, R, J))) (fun s o h1 h2 => s_X3_readDrawing_13_ok X P v0 v1 v2 R J s o h1 h2) n s r h hq
def j_X3_readDrawing_63 (v0 : Nat) (v1 : Nat) (v2 : Nat) (v3 : Int32) (I : zI) (R : zR) (J : zJ) : Option (zI × zJ) :=
  zw_g (zw_gc v0 3) ((f_X3_take v0 v1 5 1 I R).bind fun q16 => (zw_g (zw_gc v2 0) ((f_X0_measureUp v2 q16.2 R).bind fun q18 => (if ¬ (q18 v2 3) = 0 then some (q18, J) else (f_X3_noteLater v0 5 v3 q18).bind fun q20 => (some (q20, J))))))
theorem j_X3_readDrawing_63_ok (X : zw_X) (P : Option Value → aS → Prop) (v0 : Nat) (v1 : Nat) (v2 : Nat) (v3 : Int32) (I : zI) (R : zR) (J : zJ) (o : zI × zJ) (hf : j_X3_readDrawing_63 v0 v1 v2 v3 I R J = some o) (hk : P none (o.1, R, o.2)) : zy_V X M_X3_readDrawing 10 P 63 [.ref v0, .ref v1, .ref v2, .int v3, .null, .null] [] (I, R, J) := by
  unfold j_X3_readDrawing_63 at hf
  refine zv_aload_n (pc := 63) d_X3_readDrawing_63 rfl ?_
  refine zv_aload_n (pc := 64) d_X3_readDrawing_64 rfl ?_
  refine zv_iconst (pc := 65) d_X3_readDrawing_65 zc_i_5 ?_
  refine zv_iconst (pc := 66) d_X3_readDrawing_66 zc_i_1 ?_
  obtain ⟨g15, hf⟩ := zw_gcE hf (by decide)
  obtain ⟨q16, hq16, hf⟩ := zw_bdE hf
  refine zx_callV (pc := 67) (As := [.ref v1, .int 5, .int 1]) (o := v0) (st := []) (d2 := 0) (M2 := M_X3_take) (P2 := (fun r S => r = (some (.int q16.1)) ∧ S = (q16.2, R, J))) d_X3_readDrawing_67 (zw_mG (List.mem_of_getElem? (i := 707) (by decide +kernel)) rfl) ce_X3_take (zw_RvK g15 rfl rfl) (Nat.le_of_ble_eq_true rfl) rfl (Nat.le_of_ble_eq_true rfl) (by decide) (c_X3_take X v0 v1 5 1 I R J _ hq16 ⟨rfl, rfl⟩) ?_
  rintro _ _ ⟨rfl, rfl⟩
  show zy_V X M_X3_readDrawing 10 P (67 + 3) [.ref v0, .ref v1, .ref v2, .int v3, .null, .null] [.int q16.1] (q16.2, R, J)
  refine zv_pop (pc := 70) d_X3_readDrawing_70 rfl ?_
  refine zv_aload_n (pc := 71) d_X3_readDrawing_71 rfl ?_
  obtain ⟨g17, hf⟩ := zw_gcE hf (by decide)
  obtain ⟨q18, hq18, hf⟩ := zw_bdE hf
  refine zx_callV (pc := 72) (As := []) (o := v2) (st := []) (d2 := 1) (M2 := M_X0_measureUp) (P2 := (fun r S => r = none ∧ S = (q18, R, J))) d_X3_readDrawing_72 (zw_mG (List.mem_of_getElem? (i := 750) (by decide +kernel)) rfl) ce_X0_measureUp (zw_RvK g17 rfl rfl) (Nat.le_of_ble_eq_true rfl) rfl (Nat.le_of_ble_eq_true rfl) (by decide) (c_X0_measureUp X v2 q16.2 R J _ hq18 ⟨rfl, rfl⟩) ?_
  rintro _ _ ⟨rfl, rfl⟩
  show zy_V X M_X3_readDrawing 10 P (72 + 3) [.ref v0, .ref v1, .ref v2, .int v3, .null, .null] [] (q18, R, J)
  refine zv_aload_n (pc := 75) d_X3_readDrawing_75 rfl ?_
  refine zx_getI (pc := 76) d_X3_readDrawing_76 lk_CutStones_Reader_130 (by decide) g17 ?_
  rcases zw_ifE hf with ⟨c19, hf⟩ | ⟨c19, hf⟩
  · refine zv_if_ne (pc := 79) (tg := 88) d_X3_readDrawing_79 (by decide) (fun _ => ?_) (fun q => absurd q c19)
    cases hf
    exact zx_vret (pc := 88) d_X3_readDrawing_88 rfl hk
  · refine zv_if_ne (pc := 79) (tg := 88) d_X3_readDrawing_79 (by decide) (fun q => absurd q c19) (fun _ => ?_)
    refine zv_aload_n (pc := 82) d_X3_readDrawing_82 rfl ?_
    refine zv_iconst (pc := 83) d_X3_readDrawing_83 zc_i_5 ?_
    refine zv_iload_n (pc := 84) d_X3_readDrawing_84 rfl ?_
    obtain ⟨q20, hq20, hf⟩ := zw_bdE hf
    refine zx_callV (pc := 85) (As := [.int 5, .int v3]) (o := v0) (st := []) (d2 := 0) (M2 := M_X3_noteLater) (P2 := (fun r S => r = none ∧ S = (q20, R, J))) d_X3_readDrawing_85 (zw_mG (List.mem_of_getElem? (i := 731) (by decide +kernel)) rfl) ce_X3_noteLater (zw_RvK g15 rfl rfl) (Nat.le_of_ble_eq_true rfl) rfl (Nat.le_of_ble_eq_true rfl) (by decide) (c_X3_noteLater X v0 5 v3 q18 R J _ hq20 ⟨rfl, rfl⟩) ?_
    rintro _ _ ⟨rfl, rfl⟩
    show zy_V X M_X3_readDrawing 10 P (85 + 3) [.ref v0, .ref v1, .ref v2, .int v3, .null, .null] [] (q20, R, J)
    cases hf
    exact zx_vret (pc := 88) d_X3_readDrawing_88 rfl hk
def f_X3_readDrawing (v0 : Nat) (v1 : Nat) (v2 : Nat) (I : zI) (R : zR) (J : zJ) : Option (zI × zJ) :=
  zw_g (zw_gc v0 3) ((f_X3_takeName v0 v1 I R J).bind fun q2 => ((zw_it (s_X3_readDrawing_13 v0 v1 v2 R q2.2) 1000000 ((-1), 1, 0, q2.1)).bind fun q14 => (j_X3_readDrawing_63 v0 v1 v2 q14.1 q14.2 R q2.2)))
theorem c_X3_readDrawing (X : zw_X) (v0 : Nat) (v1 : Nat) (v2 : Nat) (I : zI) (R : zR) (J : zJ) {P : Option Value → aS → Prop} (o : zI × zJ) (hf : f_X3_readDrawing v0 v1 v2 I R J = some o) (hk : P none (o.1, R, o.2)) : zw_C X M_X3_readDrawing 10 0 0 199 [.ref v0, .ref v1, .ref v2] (I, R, J) P := by
  show zy_V X M_X3_readDrawing 10 P 0 [.ref v0, .ref v1, .ref v2, .null, .null, .null] [] (I, R, J)
  unfold f_X3_readDrawing at hf
  refine zv_aload_n (pc := 0) d_X3_readDrawing_0 rfl ?_
  refine zv_aload_n (pc := 1) d_X3_readDrawing_1 rfl ?_
  obtain ⟨g1, hf⟩ := zw_gcE hf (by decide)
  obtain ⟨q2, hq2, hf⟩ := zw_bdE hf
  refine zx_callV (pc := 2) (As := [.ref v1]) (o := v0) (st := []) (d2 := 1) (M2 := M_X3_takeName) (P2 := (fun r S => r = none ∧ S = (q2.1, R, q2.2))) d_X3_readDrawing_2 (zw_mG (List.mem_of_getElem? (i := 723) (by decide +kernel)) rfl) ce_X3_takeName (zw_RvK g1 rfl rfl) (Nat.le_of_ble_eq_true rfl) rfl (Nat.le_of_ble_eq_true rfl) (by decide) (c_X3_takeName X v0 v1 I R J _ hq2 ⟨rfl, rfl⟩) ?_
  rintro _ _ ⟨rfl, rfl⟩
  show zy_V X M_X3_readDrawing 10 P (2 + 3) [.ref v0, .ref v1, .ref v2, .null, .null, .null] [] (q2.1, R, q2.2)
  refine zv_iconst (pc := 5) d_X3_readDrawing_5 zc_i_m1 ?_
  refine zx_istore_n (pc := 6) (x2 := (-1)) (L2 := [.ref v0, .ref v1, .ref v2, .int (-1), .null, .null]) d_X3_readDrawing_6 (by decide) rfl rfl ?_
  refine zv_iconst (pc := 7) d_X3_readDrawing_7 zc_i_1 ?_
  refine zx_istore (pc := 8) (x2 := 1) (L2 := [.ref v0, .ref v1, .ref v2, .int (-1), .int 1, .null]) d_X3_readDrawing_8 (by decide) rfl rfl ?_
  refine zv_iconst (pc := 10) d_X3_readDrawing_10 zc_i_0 ?_
  refine zx_istore (pc := 11) (x2 := 0) (L2 := [.ref v0, .ref v1, .ref v2, .int (-1), .int 1, .int 0]) d_X3_readDrawing_11 (by decide) rfl rfl ?_
  obtain ⟨q14, hq14, hf⟩ := zw_bdE hf
  refine zx_weak (L' := [.ref v0, .ref v1, .ref v2, .int (-1), .int 1, .int 0]) (zw_leS (zw_leS (zw_leS (zw_leS (zw_leS (zw_leS zw_leZ)))))) (s_X3_readDrawing_13_lp X P v0 v1 v2 R q2.2 _ _ _ hq14 ?_)
  show zy_V X M_X3_readDrawing 10 P 63 [.ref v0, .ref v1, .ref v2, .int q14.1, .null, .null] [] (q14.2, R, q2.2)
  exact zx_weak (zw_leS (zw_leS (zw_leS (zw_leS (zw_leN (zw_leN zw_leZ)))))) (j_X3_readDrawing_63_ok X P v0 v1 v2 q14.1 q14.2 R q2.2 _ hf hk)
abbrev M_X3_readCut : zw_M := (⟨"CutStones$Reader", "readCut", "(LCutStones$Tape;)V"⟩, prog_5_method_10_code, 2, (Option.none : Option Jvm.ClassFile.FieldType))
theorem d_X3_readCut_0 : decode M_X3_readCut.2.1 0 = .ok (.aload_n 0, 1) := by decide +kernel
theorem d_X3_readCut_1 : decode M_X3_readCut.2.1 1 = .ok (.aload_n 1, 1) := by decide +kernel
theorem d_X3_readCut_2 : decode M_X3_readCut.2.1 2 = .ok (.bipush 19, 2) := by decide +kernel
theorem d_X3_readCut_4 : decode M_X3_readCut.2.1 4 = .ok (.aload_n 0, 1) := by decide +kernel
theorem d_X3_readCut_5 : decode M_X3_readCut.2.1 5 = .ok (.getfield 21, 3) := by decide +kernel
theorem d_X3_readCut_8 : decode M_X3_readCut.2.1 8 = .ok (.getfield 105, 3) := by decide +kernel
theorem d_X3_readCut_11 : decode M_X3_readCut.2.1 11 = .ok (.bipush 6, 2) := by decide +kernel
theorem d_X3_readCut_13 : decode M_X3_readCut.2.1 13 = .ok (.if_icmp .ge 7, 3) := by decide +kernel
theorem d_X3_readCut_16 : decode M_X3_readCut.2.1 16 = .ok (.iconst 1, 1) := by decide +kernel
theorem d_X3_readCut_17 : decode M_X3_readCut.2.1 17 = .ok (.goto 4, 3) := by decide +kernel
theorem d_X3_readCut_20 : decode M_X3_readCut.2.1 20 = .ok (.iconst 0, 1) := by decide +kernel
theorem d_X3_readCut_21 : decode M_X3_readCut.2.1 21 = .ok (.invokevirtual 66, 3) := by decide +kernel
theorem d_X3_readCut_24 : decode M_X3_readCut.2.1 24 = .ok (.ifCond .eq 15, 3) := by decide +kernel
theorem d_X3_readCut_27 : decode M_X3_readCut.2.1 27 = .ok (.aload_n 0, 1) := by decide +kernel
theorem d_X3_readCut_28 : decode M_X3_readCut.2.1 28 = .ok (.aload_n 1, 1) := by decide +kernel
theorem d_X3_readCut_29 : decode M_X3_readCut.2.1 29 = .ok (.aload_n 0, 1) := by decide +kernel
theorem d_X3_readCut_30 : decode M_X3_readCut.2.1 30 = .ok (.getfield 21, 3) := by decide +kernel
theorem d_X3_readCut_33 : decode M_X3_readCut.2.1 33 = .ok (.invokevirtual 108, 3) := by decide +kernel
theorem d_X3_readCut_36 : decode M_X3_readCut.2.1 36 = .ok (.invokevirtual 112, 3) := by decide +kernel
theorem d_X3_readCut_39 : decode M_X3_readCut.2.1 39 = .ok (.return_, 1) := by decide +kernel
theorem ce_X3_readCut : zw_CeV M_X3_readCut 1 := ⟨⟨⟨by decide +kernel, by decide +kernel, by decide +kernel⟩, (zw_mG (List.mem_of_getElem? (i := 706) (by decide +kernel)) rfl), (zw_mG (List.mem_of_getElem? (i := 98) (by decide +kernel)) rfl), by decide, by decide +kernel⟩, (zw_mG (List.mem_of_getElem? (i := 705) (by decide +kernel)) rfl), (zw_mG (List.mem_of_getElem? (i := 6) (by decide +kernel)) rfl)⟩
def j_X3_readCut_21 (v0 : Nat) (v1 : Nat) (s0 : Nat) (s1 : Nat) (s2 : Int32) (s3 : Int32) (I : zI) (R : zR) (J : zJ) : Option (zI × zJ) :=
  zw_g (zw_gc s0 3) ((f_X3_take s0 s1 s2 s3 I R).bind fun q5 => (if q5.1 = 0 then some (q5.2, J) else zw_g (zw_gc v0 3) (zw_g (zw_gc (R v0 2) 1) ((f_X1_addCut (R v0 2) q5.2 R).bind fun q9 => ((f_X3_readDrawing v0 v1 q9.1 q9.2 R J).bind fun q10 => (some (q10.1, q10.2)))))))
theorem j_X3_readCut_21_ok (X : zw_X) (P : Option Value → aS → Prop) (v0 : Nat) (v1 : Nat) (s0 : Nat) (s1 : Nat) (s2 : Int32) (s3 : Int32) (I : zI) (R : zR) (J : zJ) (o : zI × zJ) (hf : j_X3_readCut_21 v0 v1 s0 s1 s2 s3 I R J = some o) (hk : P none (o.1, R, o.2)) : zy_V X M_X3_readCut 11 P 21 [.ref v0, .ref v1] [.int s3, .int s2, .ref s1, .ref s0] (I, R, J) := by
  unfold j_X3_readCut_21 at hf
  obtain ⟨g4, hf⟩ := zw_gcE hf (by decide)
  obtain ⟨q5, hq5, hf⟩ := zw_bdE hf
  refine zx_callV (pc := 21) (As := [.ref s1, .int s2, .int s3]) (o := s0) (st := []) (d2 := 0) (M2 := M_X3_take) (P2 := (fun r S => r = (some (.int q5.1)) ∧ S = (q5.2, R, J))) d_X3_readCut_21 (zw_mG (List.mem_of_getElem? (i := 707) (by decide +kernel)) rfl) ce_X3_take (zw_RvK g4 rfl rfl) (Nat.le_of_ble_eq_true rfl) rfl (Nat.le_of_ble_eq_true rfl) (by decide) (c_X3_take X s0 s1 s2 s3 I R J _ hq5 ⟨rfl, rfl⟩) ?_
  rintro _ _ ⟨rfl, rfl⟩
  show zy_V X M_X3_readCut 11 P (21 + 3) [.ref v0, .ref v1] [.int q5.1] (q5.2, R, J)
  rcases zw_ifE hf with ⟨c6, hf⟩ | ⟨c6, hf⟩
  · refine zv_if_eq (pc := 24) (tg := 39) d_X3_readCut_24 (by decide) (fun _ => ?_) (fun q => absurd c6 q)
    cases hf
    exact zx_vret (pc := 39) d_X3_readCut_39 rfl hk
  · refine zv_if_eq (pc := 24) (tg := 39) d_X3_readCut_24 (by decide) (fun q => absurd q c6) (fun _ => ?_)
    refine zv_aload_n (pc := 27) d_X3_readCut_27 rfl ?_
    refine zv_aload_n (pc := 28) d_X3_readCut_28 rfl ?_
    refine zv_aload_n (pc := 29) d_X3_readCut_29 rfl ?_
    obtain ⟨g7, hf⟩ := zw_gcE hf (by decide)
    obtain ⟨g8, hf⟩ := zw_gcE hf (by decide)
    refine zx_getR (pc := 30) d_X3_readCut_30 lk_CutStones_Reader_21 (by decide) g7 g8 ?_
    obtain ⟨q9, hq9, hf⟩ := zw_bdE hf
    refine zx_callV (pc := 33) (As := []) (o := (R v0 2)) (st := [.ref v1, .ref v0]) (d2 := 1) (M2 := M_X1_addCut) (P2 := (fun r S => r = (some (.ref q9.1)) ∧ S = (q9.2, R, J))) d_X3_readCut_33 (zw_mG (List.mem_of_getElem? (i := 711) (by decide +kernel)) rfl) ce_X1_addCut (zw_RvK g8 rfl rfl) (Nat.le_of_ble_eq_true rfl) rfl (Nat.le_of_ble_eq_true rfl) (by decide) (c_X1_addCut X (R v0 2) q5.2 R J _ hq9 ⟨rfl, rfl⟩) ?_
    rintro _ _ ⟨rfl, rfl⟩
    show zy_V X M_X3_readCut 11 P (33 + 3) [.ref v0, .ref v1] [.ref q9.1, .ref v1, .ref v0] (q9.2, R, J)
    obtain ⟨q10, hq10, hf⟩ := zw_bdE hf
    refine zx_callV (pc := 36) (As := [.ref v1, .ref q9.1]) (o := v0) (st := []) (d2 := 10) (M2 := M_X3_readDrawing) (P2 := (fun r S => r = none ∧ S = (q10.1, R, q10.2))) d_X3_readCut_36 (zw_mG (List.mem_of_getElem? (i := 719) (by decide +kernel)) rfl) ce_X3_readDrawing (zw_RvK g7 rfl rfl) (Nat.le_of_ble_eq_true rfl) rfl (Nat.le_of_ble_eq_true rfl) (by decide) (c_X3_readDrawing X v0 v1 q9.1 q9.2 R J _ hq10 ⟨rfl, rfl⟩) ?_
    rintro _ _ ⟨rfl, rfl⟩
    show zy_V X M_X3_readCut 11 P (36 + 3) [.ref v0, .ref v1] [] (q10.1, R, q10.2)
    cases hf
    exact zx_vret (pc := 39) d_X3_readCut_39 rfl hk
def f_X3_readCut (v0 : Nat) (v1 : Nat) (I : zI) (R : zR) (J : zJ) : Option (zI × zJ) :=
  zw_g (zw_gc v0 3) (zw_g (zw_gc (R v0 2) 1) (if 6 ≤ (I (R v0 2) 3) then j_X3_readCut_21 v0 v1 v0 v1 19 0 I R J else j_X3_readCut_21 v0 v1 v0 v1 19 1 I R J))
theorem c_X3_readCut (X : zw_X) (v0 : Nat) (v1 : Nat) (I : zI) (R : zR) (J : zJ) {P : Option Value → aS → Prop} (o : zI × zJ) (hf : f_X3_readCut v0 v1 I R J = some o) (hk : P none (o.1, R, o.2)) : zw_C X M_X3_readCut 11 0 0 199 [.ref v0, .ref v1] (I, R, J) P := by
  show zy_V X M_X3_readCut 11 P 0 [.ref v0, .ref v1] [] (I, R, J)
  unfold f_X3_readCut at hf
  refine zv_aload_n (pc := 0) d_X3_readCut_0 rfl ?_
  refine zv_aload_n (pc := 1) d_X3_readCut_1 rfl ?_
  refine zv_bipush (pc := 2) d_X3_readCut_2 zc_b_19 ?_
  refine zv_aload_n (pc := 4) d_X3_readCut_4 rfl ?_
  obtain ⟨g1, hf⟩ := zw_gcE hf (by decide)
  obtain ⟨g2, hf⟩ := zw_gcE hf (by decide)
  refine zx_getR (pc := 5) d_X3_readCut_5 lk_CutStones_Reader_21 (by decide) g1 g2 ?_
  refine zx_getI (pc := 8) d_X3_readCut_8 lk_CutStones_Reader_105 (by decide) g2 ?_
  refine zv_bipush (pc := 11) d_X3_readCut_11 zc_b_6 ?_
  rcases zw_ifE hf with ⟨c3, hf⟩ | ⟨c3, hf⟩
  · refine zv_icmp_ge (pc := 13) (tg := 20) d_X3_readCut_13 (by decide) (fun _ => ?_) (fun q => absurd c3 q)
    refine zv_iconst (pc := 20) d_X3_readCut_20 zc_i_0 ?_
    exact zx_weak (zw_leS (zw_leS zw_leZ)) (j_X3_readCut_21_ok X P v0 v1 v0 v1 19 0 I R J _ hf hk)
  · refine zv_icmp_ge (pc := 13) (tg := 20) d_X3_readCut_13 (by decide) (fun q => absurd q c3) (fun _ => ?_)
    refine zv_iconst (pc := 16) d_X3_readCut_16 zc_i_1 ?_
    refine zv_goto (pc := 17) (tg := 21) d_X3_readCut_17 (by decide) ?_
    exact zx_weak (zw_leS (zw_leS zw_leZ)) (j_X3_readCut_21_ok X P v0 v1 v0 v1 19 1 I R J _ hf hk)
abbrev M_X3_readRough : zw_M := (⟨"CutStones$Reader", "readRough", "(LCutStones$Tape;)V"⟩, prog_5_method_11_code, 2, (Option.none : Option Jvm.ClassFile.FieldType))
theorem d_X3_readRough_0 : decode M_X3_readRough.2.1 0 = .ok (.aload_n 0, 1) := by decide +kernel
theorem d_X3_readRough_1 : decode M_X3_readRough.2.1 1 = .ok (.aload_n 1, 1) := by decide +kernel
theorem d_X3_readRough_2 : decode M_X3_readRough.2.1 2 = .ok (.bipush 20, 2) := by decide +kernel
theorem d_X3_readRough_4 : decode M_X3_readRough.2.1 4 = .ok (.aload_n 0, 1) := by decide +kernel
theorem d_X3_readRough_5 : decode M_X3_readRough.2.1 5 = .ok (.getfield 21, 3) := by decide +kernel
theorem d_X3_readRough_8 : decode M_X3_readRough.2.1 8 = .ok (.getfield 116, 3) := by decide +kernel
theorem d_X3_readRough_11 : decode M_X3_readRough.2.1 11 = .ok (.iconst 4, 1) := by decide +kernel
theorem d_X3_readRough_12 : decode M_X3_readRough.2.1 12 = .ok (.if_icmp .ge 7, 3) := by decide +kernel
theorem d_X3_readRough_15 : decode M_X3_readRough.2.1 15 = .ok (.iconst 1, 1) := by decide +kernel
theorem d_X3_readRough_16 : decode M_X3_readRough.2.1 16 = .ok (.goto 4, 3) := by decide +kernel
theorem d_X3_readRough_19 : decode M_X3_readRough.2.1 19 = .ok (.iconst 0, 1) := by decide +kernel
theorem d_X3_readRough_20 : decode M_X3_readRough.2.1 20 = .ok (.invokevirtual 66, 3) := by decide +kernel
theorem d_X3_readRough_23 : decode M_X3_readRough.2.1 23 = .ok (.ifCond .eq 15, 3) := by decide +kernel
theorem d_X3_readRough_26 : decode M_X3_readRough.2.1 26 = .ok (.aload_n 0, 1) := by decide +kernel
theorem d_X3_readRough_27 : decode M_X3_readRough.2.1 27 = .ok (.aload_n 1, 1) := by decide +kernel
theorem d_X3_readRough_28 : decode M_X3_readRough.2.1 28 = .ok (.aload_n 0, 1) := by decide +kernel
theorem d_X3_readRough_29 : decode M_X3_readRough.2.1 29 = .ok (.getfield 21, 3) := by decide +kernel
theorem d_X3_readRough_32 : decode M_X3_readRough.2.1 32 = .ok (.invokevirtual 119, 3) := by decide +kernel
theorem d_X3_readRough_35 : decode M_X3_readRough.2.1 35 = .ok (.invokevirtual 112, 3) := by decide +kernel
theorem d_X3_readRough_38 : decode M_X3_readRough.2.1 38 = .ok (.return_, 1) := by decide +kernel
theorem ce_X3_readRough : zw_CeV M_X3_readRough 1 := ⟨⟨⟨by decide +kernel, by decide +kernel, by decide +kernel⟩, (zw_mG (List.mem_of_getElem? (i := 764) (by decide +kernel)) rfl), (zw_mG (List.mem_of_getElem? (i := 98) (by decide +kernel)) rfl), by decide, by decide +kernel⟩, (zw_mG (List.mem_of_getElem? (i := 763) (by decide +kernel)) rfl), (zw_mG (List.mem_of_getElem? (i := 13) (by decide +kernel)) rfl)⟩
def j_X3_readRough_20 (v0 : Nat) (v1 : Nat) (s0 : Nat) (s1 : Nat) (s2 : Int32) (s3 : Int32) (I : zI) (R : zR) (J : zJ) : Option (zI × zJ) :=
  zw_g (zw_gc s0 3) ((f_X3_take s0 s1 s2 s3 I R).bind fun q5 => (if q5.1 = 0 then some (q5.2, J) else zw_g (zw_gc v0 3) (zw_g (zw_gc (R v0 2) 1) ((f_X1_addRough (R v0 2) q5.2 R).bind fun q9 => ((f_X3_readDrawing v0 v1 q9.1 q9.2 R J).bind fun q10 => (some (q10.1, q10.2)))))))
theorem j_X3_readRough_20_ok (X : zw_X) (P : Option Value → aS → Prop) (v0 : Nat) (v1 : Nat) (s0 : Nat) (s1 : Nat) (s2 : Int32) (s3 : Int32) (I : zI) (R : zR) (J : zJ) (o : zI × zJ) (hf : j_X3_readRough_20 v0 v1 s0 s1 s2 s3 I R J = some o) (hk : P none (o.1, R, o.2)) : zy_V X M_X3_readRough 11 P 20 [.ref v0, .ref v1] [.int s3, .int s2, .ref s1, .ref s0] (I, R, J) := by
  unfold j_X3_readRough_20 at hf
  obtain ⟨g4, hf⟩ := zw_gcE hf (by decide)
  obtain ⟨q5, hq5, hf⟩ := zw_bdE hf
  refine zx_callV (pc := 20) (As := [.ref s1, .int s2, .int s3]) (o := s0) (st := []) (d2 := 0) (M2 := M_X3_take) (P2 := (fun r S => r = (some (.int q5.1)) ∧ S = (q5.2, R, J))) d_X3_readRough_20 (zw_mG (List.mem_of_getElem? (i := 707) (by decide +kernel)) rfl) ce_X3_take (zw_RvK g4 rfl rfl) (Nat.le_of_ble_eq_true rfl) rfl (Nat.le_of_ble_eq_true rfl) (by decide) (c_X3_take X s0 s1 s2 s3 I R J _ hq5 ⟨rfl, rfl⟩) ?_
  rintro _ _ ⟨rfl, rfl⟩
  show zy_V X M_X3_readRough 11 P (20 + 3) [.ref v0, .ref v1] [.int q5.1] (q5.2, R, J)
  rcases zw_ifE hf with ⟨c6, hf⟩ | ⟨c6, hf⟩
  · refine zv_if_eq (pc := 23) (tg := 38) d_X3_readRough_23 (by decide) (fun _ => ?_) (fun q => absurd c6 q)
    cases hf
    exact zx_vret (pc := 38) d_X3_readRough_38 rfl hk
  · refine zv_if_eq (pc := 23) (tg := 38) d_X3_readRough_23 (by decide) (fun q => absurd q c6) (fun _ => ?_)
    refine zv_aload_n (pc := 26) d_X3_readRough_26 rfl ?_
    refine zv_aload_n (pc := 27) d_X3_readRough_27 rfl ?_
    refine zv_aload_n (pc := 28) d_X3_readRough_28 rfl ?_
    obtain ⟨g7, hf⟩ := zw_gcE hf (by decide)
    obtain ⟨g8, hf⟩ := zw_gcE hf (by decide)
    refine zx_getR (pc := 29) d_X3_readRough_29 lk_CutStones_Reader_21 (by decide) g7 g8 ?_
    obtain ⟨q9, hq9, hf⟩ := zw_bdE hf
    refine zx_callV (pc := 32) (As := []) (o := (R v0 2)) (st := [.ref v1, .ref v0]) (d2 := 1) (M2 := M_X1_addRough) (P2 := (fun r S => r = (some (.ref q9.1)) ∧ S = (q9.2, R, J))) d_X3_readRough_32 (zw_mG (List.mem_of_getElem? (i := 765) (by decide +kernel)) rfl) ce_X1_addRough (zw_RvK g8 rfl rfl) (Nat.le_of_ble_eq_true rfl) rfl (Nat.le_of_ble_eq_true rfl) (by decide) (c_X1_addRough X (R v0 2) q5.2 R J _ hq9 ⟨rfl, rfl⟩) ?_
    rintro _ _ ⟨rfl, rfl⟩
    show zy_V X M_X3_readRough 11 P (32 + 3) [.ref v0, .ref v1] [.ref q9.1, .ref v1, .ref v0] (q9.2, R, J)
    obtain ⟨q10, hq10, hf⟩ := zw_bdE hf
    refine zx_callV (pc := 35) (As := [.ref v1, .ref q9.1]) (o := v0) (st := []) (d2 := 10) (M2 := M_X3_readDrawing) (P2 := (fun r S => r = none ∧ S = (q10.1, R, q10.2))) d_X3_readRough_35 (zw_mG (List.mem_of_getElem? (i := 719) (by decide +kernel)) rfl) ce_X3_readDrawing (zw_RvK g7 rfl rfl) (Nat.le_of_ble_eq_true rfl) rfl (Nat.le_of_ble_eq_true rfl) (by decide) (c_X3_readDrawing X v0 v1 q9.1 q9.2 R J _ hq10 ⟨rfl, rfl⟩) ?_
    rintro _ _ ⟨rfl, rfl⟩
    show zy_V X M_X3_readRough 11 P (35 + 3) [.ref v0, .ref v1] [] (q10.1, R, q10.2)
    cases hf
    exact zx_vret (pc := 38) d_X3_readRough_38 rfl hk
def f_X3_readRough (v0 : Nat) (v1 : Nat) (I : zI) (R : zR) (J : zJ) : Option (zI × zJ) :=
  zw_g (zw_gc v0 3) (zw_g (zw_gc (R v0 2) 1) (if 4 ≤ (I (R v0 2) 5) then j_X3_readRough_20 v0 v1 v0 v1 20 0 I R J else j_X3_readRough_20 v0 v1 v0 v1 20 1 I R J))
theorem c_X3_readRough (X : zw_X) (v0 : Nat) (v1 : Nat) (I : zI) (R : zR) (J : zJ) {P : Option Value → aS → Prop} (o : zI × zJ) (hf : f_X3_readRough v0 v1 I R J = some o) (hk : P none (o.1, R, o.2)) : zw_C X M_X3_readRough 11 0 0 199 [.ref v0, .ref v1] (I, R, J) P := by
  show zy_V X M_X3_readRough 11 P 0 [.ref v0, .ref v1] [] (I, R, J)
  unfold f_X3_readRough at hf
  refine zv_aload_n (pc := 0) d_X3_readRough_0 rfl ?_
  refine zv_aload_n (pc := 1) d_X3_readRough_1 rfl ?_
  refine zv_bipush (pc := 2) d_X3_readRough_2 zc_b_20 ?_
  refine zv_aload_n (pc := 4) d_X3_readRough_4 rfl ?_
  obtain ⟨g1, hf⟩ := zw_gcE hf (by decide)
  obtain ⟨g2, hf⟩ := zw_gcE hf (by decide)
  refine zx_getR (pc := 5) d_X3_readRough_5 lk_CutStones_Reader_21 (by decide) g1 g2 ?_
  refine zx_getI (pc := 8) d_X3_readRough_8 lk_CutStones_Reader_116 (by decide) g2 ?_
  refine zv_iconst (pc := 11) d_X3_readRough_11 zc_i_4 ?_
  rcases zw_ifE hf with ⟨c3, hf⟩ | ⟨c3, hf⟩
  · refine zv_icmp_ge (pc := 12) (tg := 19) d_X3_readRough_12 (by decide) (fun _ => ?_) (fun q => absurd c3 q)
    refine zv_iconst (pc := 19) d_X3_readRough_19 zc_i_0 ?_
    exact zx_weak (zw_leS (zw_leS zw_leZ)) (j_X3_readRough_20_ok X P v0 v1 v0 v1 20 0 I R J _ hf hk)
  · refine zv_icmp_ge (pc := 12) (tg := 19) d_X3_readRough_12 (by decide) (fun q => absurd q c3) (fun _ => ?_)
    refine zv_iconst (pc := 15) d_X3_readRough_15 zc_i_1 ?_
    refine zv_goto (pc := 16) (tg := 20) d_X3_readRough_16 (by decide) ?_
    exact zx_weak (zw_leS (zw_leS zw_leZ)) (j_X3_readRough_20_ok X P v0 v1 v0 v1 20 1 I R J _ hf hk)
abbrev M_X3_readLiteral : zw_M := (⟨"CutStones$Reader", "readLiteral", "(LCutStones$Tape;)V"⟩, prog_5_method_17_code, 4, (Option.none : Option Jvm.ClassFile.FieldType))
theorem d_X3_readLiteral_0 : decode M_X3_readLiteral.2.1 0 = .ok (.iconst 0, 1) := by decide +kernel
theorem d_X3_readLiteral_1 : decode M_X3_readLiteral.2.1 1 = .ok (.istore_n 2, 1) := by decide +kernel
theorem d_X3_readLiteral_2 : decode M_X3_readLiteral.2.1 2 = .ok (.iconst 0, 1) := by decide +kernel
theorem d_X3_readLiteral_3 : decode M_X3_readLiteral.2.1 3 = .ok (.istore_n 3, 1) := by decide +kernel
theorem d_X3_readLiteral_4 : decode M_X3_readLiteral.2.1 4 = .ok (.iload_n 3, 1) := by decide +kernel
theorem d_X3_readLiteral_5 : decode M_X3_readLiteral.2.1 5 = .ok (.sipush 500, 3) := by decide +kernel
theorem d_X3_readLiteral_8 : decode M_X3_readLiteral.2.1 8 = .ok (.if_icmp .ge 38, 3) := by decide +kernel
theorem d_X3_readLiteral_11 : decode M_X3_readLiteral.2.1 11 = .ok (.aload_n 0, 1) := by decide +kernel
theorem d_X3_readLiteral_12 : decode M_X3_readLiteral.2.1 12 = .ok (.aload_n 1, 1) := by decide +kernel
theorem d_X3_readLiteral_13 : decode M_X3_readLiteral.2.1 13 = .ok (.invokevirtual 98, 3) := by decide +kernel
theorem d_X3_readLiteral_16 : decode M_X3_readLiteral.2.1 16 = .ok (.bipush 27, 2) := by decide +kernel
theorem d_X3_readLiteral_18 : decode M_X3_readLiteral.2.1 18 = .ok (.if_icmp .ne 28, 3) := by decide +kernel
theorem d_X3_readLiteral_21 : decode M_X3_readLiteral.2.1 21 = .ok (.aload_n 0, 1) := by decide +kernel
theorem d_X3_readLiteral_22 : decode M_X3_readLiteral.2.1 22 = .ok (.aload_n 1, 1) := by decide +kernel
theorem d_X3_readLiteral_23 : decode M_X3_readLiteral.2.1 23 = .ok (.bipush 27, 2) := by decide +kernel
theorem d_X3_readLiteral_25 : decode M_X3_readLiteral.2.1 25 = .ok (.iconst 1, 1) := by decide +kernel
theorem d_X3_readLiteral_26 : decode M_X3_readLiteral.2.1 26 = .ok (.invokevirtual 66, 3) := by decide +kernel
theorem d_X3_readLiteral_29 : decode M_X3_readLiteral.2.1 29 = .ok (.pop, 1) := by decide +kernel
theorem d_X3_readLiteral_30 : decode M_X3_readLiteral.2.1 30 = .ok (.iload_n 2, 1) := by decide +kernel
theorem d_X3_readLiteral_31 : decode M_X3_readLiteral.2.1 31 = .ok (.ifCond .ne 7, 3) := by decide +kernel
theorem d_X3_readLiteral_34 : decode M_X3_readLiteral.2.1 34 = .ok (.iconst 1, 1) := by decide +kernel
theorem d_X3_readLiteral_35 : decode M_X3_readLiteral.2.1 35 = .ok (.goto 4, 3) := by decide +kernel
theorem d_X3_readLiteral_38 : decode M_X3_readLiteral.2.1 38 = .ok (.iconst 0, 1) := by decide +kernel
theorem d_X3_readLiteral_39 : decode M_X3_readLiteral.2.1 39 = .ok (.istore_n 2, 1) := by decide +kernel
theorem d_X3_readLiteral_40 : decode M_X3_readLiteral.2.1 40 = .ok (.iinc 3 1, 3) := by decide +kernel
theorem d_X3_readLiteral_43 : decode M_X3_readLiteral.2.1 43 = .ok (.goto (-39), 3) := by decide +kernel
theorem d_X3_readLiteral_46 : decode M_X3_readLiteral.2.1 46 = .ok (.aload_n 0, 1) := by decide +kernel
theorem d_X3_readLiteral_47 : decode M_X3_readLiteral.2.1 47 = .ok (.aload_n 1, 1) := by decide +kernel
theorem d_X3_readLiteral_48 : decode M_X3_readLiteral.2.1 48 = .ok (.iconst 0, 1) := by decide +kernel
theorem d_X3_readLiteral_49 : decode M_X3_readLiteral.2.1 49 = .ok (.invokevirtual 171, 3) := by decide +kernel
theorem d_X3_readLiteral_52 : decode M_X3_readLiteral.2.1 52 = .ok (.aload_n 0, 1) := by decide +kernel
theorem d_X3_readLiteral_53 : decode M_X3_readLiteral.2.1 53 = .ok (.aload_n 1, 1) := by decide +kernel
theorem d_X3_readLiteral_54 : decode M_X3_readLiteral.2.1 54 = .ok (.invokevirtual 98, 3) := by decide +kernel
theorem d_X3_readLiteral_57 : decode M_X3_readLiteral.2.1 57 = .ok (.istore_n 3, 1) := by decide +kernel
theorem d_X3_readLiteral_58 : decode M_X3_readLiteral.2.1 58 = .ok (.aload_n 0, 1) := by decide +kernel
theorem d_X3_readLiteral_59 : decode M_X3_readLiteral.2.1 59 = .ok (.aload_n 1, 1) := by decide +kernel
theorem d_X3_readLiteral_60 : decode M_X3_readLiteral.2.1 60 = .ok (.iload_n 3, 1) := by decide +kernel
theorem d_X3_readLiteral_61 : decode M_X3_readLiteral.2.1 61 = .ok (.bipush 14, 2) := by decide +kernel
theorem d_X3_readLiteral_63 : decode M_X3_readLiteral.2.1 63 = .ok (.if_icmp .lt 13, 3) := by decide +kernel
theorem d_X3_readLiteral_66 : decode M_X3_readLiteral.2.1 66 = .ok (.iload_n 3, 1) := by decide +kernel
theorem d_X3_readLiteral_67 : decode M_X3_readLiteral.2.1 67 = .ok (.bipush 17, 2) := by decide +kernel
theorem d_X3_readLiteral_69 : decode M_X3_readLiteral.2.1 69 = .ok (.if_icmp .gt 7, 3) := by decide +kernel
theorem d_X3_readLiteral_72 : decode M_X3_readLiteral.2.1 72 = .ok (.iload_n 3, 1) := by decide +kernel
theorem d_X3_readLiteral_73 : decode M_X3_readLiteral.2.1 73 = .ok (.goto 5, 3) := by decide +kernel
theorem d_X3_readLiteral_76 : decode M_X3_readLiteral.2.1 76 = .ok (.bipush 16, 2) := by decide +kernel
theorem d_X3_readLiteral_78 : decode M_X3_readLiteral.2.1 78 = .ok (.iconst 1, 1) := by decide +kernel
theorem d_X3_readLiteral_79 : decode M_X3_readLiteral.2.1 79 = .ok (.invokevirtual 66, 3) := by decide +kernel
theorem d_X3_readLiteral_82 : decode M_X3_readLiteral.2.1 82 = .ok (.pop, 1) := by decide +kernel
theorem d_X3_readLiteral_83 : decode M_X3_readLiteral.2.1 83 = .ok (.aload_n 0, 1) := by decide +kernel
theorem d_X3_readLiteral_84 : decode M_X3_readLiteral.2.1 84 = .ok (.aload_n 1, 1) := by decide +kernel
theorem d_X3_readLiteral_85 : decode M_X3_readLiteral.2.1 85 = .ok (.iconst 0, 1) := by decide +kernel
theorem d_X3_readLiteral_86 : decode M_X3_readLiteral.2.1 86 = .ok (.invokevirtual 171, 3) := by decide +kernel
theorem d_X3_readLiteral_89 : decode M_X3_readLiteral.2.1 89 = .ok (.aload_n 0, 1) := by decide +kernel
theorem d_X3_readLiteral_90 : decode M_X3_readLiteral.2.1 90 = .ok (.getfield 21, 3) := by decide +kernel
theorem d_X3_readLiteral_93 : decode M_X3_readLiteral.2.1 93 = .ok (.iload_n 3, 1) := by decide +kernel
theorem d_X3_readLiteral_94 : decode M_X3_readLiteral.2.1 94 = .ok (.iconst 0, 1) := by decide +kernel
theorem d_X3_readLiteral_95 : decode M_X3_readLiteral.2.1 95 = .ok (.invokevirtual 181, 3) := by decide +kernel
theorem d_X3_readLiteral_98 : decode M_X3_readLiteral.2.1 98 = .ok (.iload_n 2, 1) := by decide +kernel
theorem d_X3_readLiteral_99 : decode M_X3_readLiteral.2.1 99 = .ok (.ifCond .eq 13, 3) := by decide +kernel
theorem d_X3_readLiteral_102 : decode M_X3_readLiteral.2.1 102 = .ok (.aload_n 0, 1) := by decide +kernel
theorem d_X3_readLiteral_103 : decode M_X3_readLiteral.2.1 103 = .ok (.getfield 21, 3) := by decide +kernel
theorem d_X3_readLiteral_106 : decode M_X3_readLiteral.2.1 106 = .ok (.bipush 27, 2) := by decide +kernel
theorem d_X3_readLiteral_108 : decode M_X3_readLiteral.2.1 108 = .ok (.iconst 0, 1) := by decide +kernel
theorem d_X3_readLiteral_109 : decode M_X3_readLiteral.2.1 109 = .ok (.invokevirtual 181, 3) := by decide +kernel
theorem d_X3_readLiteral_112 : decode M_X3_readLiteral.2.1 112 = .ok (.return_, 1) := by decide +kernel
theorem ce_X3_readLiteral : zw_CeV M_X3_readLiteral 1 := ⟨⟨⟨by decide +kernel, by decide +kernel, by decide +kernel⟩, (zw_mG (List.mem_of_getElem? (i := 788) (by decide +kernel)) rfl), (zw_mG (List.mem_of_getElem? (i := 98) (by decide +kernel)) rfl), by decide, by decide +kernel⟩, (zw_mG (List.mem_of_getElem? (i := 787) (by decide +kernel)) rfl), (zw_mG (List.mem_of_getElem? (i := 16) (by decide +kernel)) rfl)⟩
def j_X3_readLiteral_39_4 (v0 : Nat) (v1 : Nat) (v3 : Int32) (s0 : Int32) (I : zI) (R : zR) (J : zJ) : Option ((Int32 × Int32 × zI) ⊕ (Int32 × zI)) :=
  zw_let (v3 + 1 : Int32) fun x7 => (some (.inl (s0, x7, I)))
theorem j_X3_readLiteral_39_4_ok (X : zw_X) (P : Option Value → aS → Prop) (v0 : Nat) (v1 : Nat) (v3 : Int32) (s0 : Int32) (I : zI) (R : zR) (J : zJ) (o : (Int32 × Int32 × zI) ⊕ (Int32 × zI)) (hf : j_X3_readLiteral_39_4 v0 v1 v3 s0 I R J = some o) (hk : (zw_se (fun t => zy_V X M_X3_readLiteral 18 P 4 [.ref v0, .ref v1, .int t.1, .int t.2.1] [] (t.2.2, R, J)) (fun r => zy_V X M_X3_readLiteral 18 P 46 [.ref v0, .ref v1, .int r.1, .null] [] (r.2, R, J)) o)) : zy_V X M_X3_readLiteral 18 P 39 [.ref v0, .ref v1, .null, .int v3] [.int s0] (I, R, J) := by
  unfold j_X3_readLiteral_39_4 at hf
  refine zx_istore_n (pc := 39) (x2 := s0) (L2 := [.ref v0, .ref v1, .int s0, .int v3]) d_X3_readLiteral_39 (by decide) rfl rfl ?_
  obtain ⟨x7, ex7, hf⟩ := zw_letE hf
  refine zx_iinc (pc := 40) (x2 := x7) (L2 := [.ref v0, .ref v1, .int s0, .int x7]) d_X3_readLiteral_40 (by decide) rfl zc_i_1 ex7 rfl ?_
  refine zv_goto (pc := 43) (tg := 4) d_X3_readLiteral_43 (by decide) ?_
  cases hf
  exact zx_weak (zw_leS (zw_leS (zw_leS (zw_leS zw_leZ)))) hk
def s_X3_readLiteral_4 (v0 : Nat) (v1 : Nat) (R : zR) (J : zJ) (s : Int32 × Int32 × zI) : Option ((Int32 × Int32 × zI) ⊕ (Int32 × zI)) :=
  if 500 ≤ s.2.1 then some (.inr (s.1, s.2.2)) else zw_g (zw_gc v0 3) ((f_X3_kind v0 v1 s.2.2 R).bind fun q3 => (if ¬ q3 = 27 then some (.inr (s.1, s.2.2)) else (f_X3_take v0 v1 27 1 s.2.2 R).bind fun q5 => (if ¬ s.1 = 0 then j_X3_readLiteral_39_4 v0 v1 s.2.1 0 q5.2 R J else j_X3_readLiteral_39_4 v0 v1 s.2.1 1 q5.2 R J)))
theorem s_X3_readLiteral_4_ok (X : zw_X) (P : Option Value → aS → Prop) (v0 : Nat) (v1 : Nat) (R : zR) (J : zJ) (s : Int32 × Int32 × zI) (o : (Int32 × Int32 × zI) ⊕ (Int32 × zI)) (hf : s_X3_readLiteral_4 v0 v1 R J s = some o) (hk : (zw_se (fun t => zy_V X M_X3_readLiteral 18 P 4 [.ref v0, .ref v1, .int t.1, .int t.2.1] [] (t.2.2, R, J)) (fun r => zy_V X M_X3_readLiteral 18 P 46 [.ref v0, .ref v1, .int r.1, .null] [] (r.2, R, J)) o)) : zy_V X M_X3_readLiteral 18 P 4 [.ref v0, .ref v1, .int s.1, .int s.2.1] [] (s.2.2, R, J) := by
  unfold s_X3_readLiteral_4 at hf
  refine zv_iload_n (pc := 4) d_X3_readLiteral_4 rfl ?_
  refine zv_sipush (pc := 5) d_X3_readLiteral_5 zc_s_500 ?_
  rcases zw_ifE hf with ⟨c1, hf⟩ | ⟨c1, hf⟩
  · refine zv_icmp_ge (pc := 8) (tg := 46) d_X3_readLiteral_8 (by decide) (fun _ => ?_) (fun q => absurd c1 q)
    cases hf
    exact zx_weak (zw_leS (zw_leS (zw_leS (zw_leN zw_leZ)))) hk
  · refine zv_icmp_ge (pc := 8) (tg := 46) d_X3_readLiteral_8 (by decide) (fun q => absurd q c1) (fun _ => ?_)
    refine zv_aload_n (pc := 11) d_X3_readLiteral_11 rfl ?_
    refine zv_aload_n (pc := 12) d_X3_readLiteral_12 rfl ?_
    obtain ⟨g2, hf⟩ := zw_gcE hf (by decide)
    obtain ⟨q3, hq3, hf⟩ := zw_bdE hf
    refine zx_callV (pc := 13) (As := [.ref v1]) (o := v0) (st := []) (d2 := 0) (M2 := M_X3_kind) (P2 := (fun r S => r = (some (.int q3)) ∧ S = (s.2.2, R, J))) d_X3_readLiteral_13 (zw_mG (List.mem_of_getElem? (i := 746) (by decide +kernel)) rfl) ce_X3_kind (zw_RvK g2 rfl rfl) (Nat.le_of_ble_eq_true rfl) rfl (Nat.le_of_ble_eq_true rfl) (by decide) (c_X3_kind X v0 v1 s.2.2 R J _ hq3 ⟨rfl, rfl⟩) ?_
    rintro _ _ ⟨rfl, rfl⟩
    show zy_V X M_X3_readLiteral 18 P (13 + 3) [.ref v0, .ref v1, .int s.1, .int s.2.1] [.int q3] (s.2.2, R, J)
    refine zv_bipush (pc := 16) d_X3_readLiteral_16 zc_b_27 ?_
    rcases zw_ifE hf with ⟨c4, hf⟩ | ⟨c4, hf⟩
    · refine zv_icmp_ne (pc := 18) (tg := 46) d_X3_readLiteral_18 (by decide) (fun _ => ?_) (fun q => absurd q c4)
      cases hf
      exact zx_weak (zw_leS (zw_leS (zw_leS (zw_leN zw_leZ)))) hk
    · refine zv_icmp_ne (pc := 18) (tg := 46) d_X3_readLiteral_18 (by decide) (fun q => absurd q c4) (fun _ => ?_)
      refine zv_aload_n (pc := 21) d_X3_readLiteral_21 rfl ?_
      refine zv_aload_n (pc := 22) d_X3_readLiteral_22 rfl ?_
      refine zv_bipush (pc := 23) d_X3_readLiteral_23 zc_b_27 ?_
      refine zv_iconst (pc := 25) d_X3_readLiteral_25 zc_i_1 ?_
      obtain ⟨q5, hq5, hf⟩ := zw_bdE hf
      refine zx_callV (pc := 26) (As := [.ref v1, .int 27, .int 1]) (o := v0) (st := []) (d2 := 0) (M2 := M_X3_take) (P2 := (fun r S => r = (some (.int q5.1)) ∧ S = (q5.2, R, J))) d_X3_readLiteral_26 (zw_mG (List.mem_of_getElem? (i := 707) (by decide +kernel)) rfl) ce_X3_take (zw_RvK g2 rfl rfl) (Nat.le_of_ble_eq_true rfl) rfl (Nat.le_of_ble_eq_true rfl) (by decide) (c_X3_take X v0 v1 27 1 s.2.2 R J _ hq5 ⟨rfl, rfl⟩) ?_
      rintro _ _ ⟨rfl, rfl⟩
      show zy_V X M_X3_readLiteral 18 P (26 + 3) [.ref v0, .ref v1, .int s.1, .int s.2.1] [.int q5.1] (q5.2, R, J)
      refine zv_pop (pc := 29) d_X3_readLiteral_29 rfl ?_
      refine zv_iload_n (pc := 30) d_X3_readLiteral_30 rfl ?_
      rcases zw_ifE hf with ⟨c6, hf⟩ | ⟨c6, hf⟩
      · refine zv_if_ne (pc := 31) (tg := 38) d_X3_readLiteral_31 (by decide) (fun _ => ?_) (fun q => absurd q c6)
        refine zv_iconst (pc := 38) d_X3_readLiteral_38 zc_i_0 ?_
        exact zx_weak (zw_leS (zw_leS (zw_leN (zw_leS zw_leZ)))) (j_X3_readLiteral_39_4_ok X P v0 v1 s.2.1 0 q5.2 R J _ hf hk)
      · refine zv_if_ne (pc := 31) (tg := 38) d_X3_readLiteral_31 (by decide) (fun q => absurd q c6) (fun _ => ?_)
        refine zv_iconst (pc := 34) d_X3_readLiteral_34 zc_i_1 ?_
        refine zv_goto (pc := 35) (tg := 39) d_X3_readLiteral_35 (by decide) ?_
        exact zx_weak (zw_leS (zw_leS (zw_leN (zw_leS zw_leZ)))) (j_X3_readLiteral_39_4_ok X P v0 v1 s.2.1 1 q5.2 R J _ hf hk)
theorem s_X3_readLiteral_4_lp (X : zw_X) (P : Option Value → aS → Prop) (v0 : Nat) (v1 : Nat) (R : zR) (J : zJ) (n : Nat) (s : Int32 × Int32 × zI) (r : Int32 × zI) (h : zw_it (s_X3_readLiteral_4 v0 v1 R J) n s = some r) (hq : zy_V X M_X3_readLiteral 18 P 46 [.ref v0, .ref v1, .int r.1, .null] [] (r.2, R, J)) : zy_V X M_X3_readLiteral 18 P 4 [.ref v0, .ref v1, .int s.1, .int s.2.1] [] (s.2.2, R, J) :=
  zw_itE (A := (fun t : Int32 × Int32 × zI => zy_V X M_X3_readLiteral 18 P 4 [.ref v0, .ref v1, .int t.1, .int t.2.1] [] (t.2.2, R, J))) (Q := (fun r : Int32 × zI => zy_V X M_X3_readLiteral 18 P 46 [.ref v0, .ref v1, .int r.1, .null] [] (r.2, R, J))) (fun s o h1 h2 => s_X3_readLiteral_4_ok X P v0 v1 R J s o h1 h2) n s r h hq
def j_X3_readLiteral_78 (v0 : Nat) (v1 : Nat) (v2 : Int32) (v3 : Int32) (s0 : Nat) (s1 : Nat) (s2 : Int32) (I : zI) (R : zR) (J : zJ) : Option (zI) :=
  zw_g (zw_gc s0 3) ((f_X3_take s0 s1 s2 1 I R).bind fun q14 => (zw_g (zw_gc v0 3) ((r_X3_readSum 8 v0 v1 0 q14.2 R J).bind fun q16 => (zw_g (zw_gc (R v0 2) 1) ((f_X1_addCode (R v0 2) v3 0 q16 R).bind fun q18 => (if v2 = 0 then some q18 else (f_X1_addCode (R v0 2) 27 0 q18 R).bind fun q20 => (some q20)))))))
theorem j_X3_readLiteral_78_ok (X : zw_X) (P : Option Value → aS → Prop) (v0 : Nat) (v1 : Nat) (v2 : Int32) (v3 : Int32) (s0 : Nat) (s1 : Nat) (s2 : Int32) (I : zI) (R : zR) (J : zJ) (o : zI) (hf : j_X3_readLiteral_78 v0 v1 v2 v3 s0 s1 s2 I R J = some o) (hk : P none (o, R, J)) : zy_V X M_X3_readLiteral 18 P 78 [.ref v0, .ref v1, .int v2, .int v3] [.int s2, .ref s1, .ref s0] (I, R, J) := by
  unfold j_X3_readLiteral_78 at hf
  refine zv_iconst (pc := 78) d_X3_readLiteral_78 zc_i_1 ?_
  obtain ⟨g13, hf⟩ := zw_gcE hf (by decide)
  obtain ⟨q14, hq14, hf⟩ := zw_bdE hf
  refine zx_callV (pc := 79) (As := [.ref s1, .int s2, .int 1]) (o := s0) (st := []) (d2 := 0) (M2 := M_X3_take) (P2 := (fun r S => r = (some (.int q14.1)) ∧ S = (q14.2, R, J))) d_X3_readLiteral_79 (zw_mG (List.mem_of_getElem? (i := 707) (by decide +kernel)) rfl) ce_X3_take (zw_RvK g13 rfl rfl) (Nat.le_of_ble_eq_true rfl) rfl (Nat.le_of_ble_eq_true rfl) (by decide) (c_X3_take X s0 s1 s2 1 I R J _ hq14 ⟨rfl, rfl⟩) ?_
  rintro _ _ ⟨rfl, rfl⟩
  show zy_V X M_X3_readLiteral 18 P (79 + 3) [.ref v0, .ref v1, .int v2, .int v3] [.int q14.1] (q14.2, R, J)
  refine zv_pop (pc := 82) d_X3_readLiteral_82 rfl ?_
  refine zv_aload_n (pc := 83) d_X3_readLiteral_83 rfl ?_
  refine zv_aload_n (pc := 84) d_X3_readLiteral_84 rfl ?_
  refine zv_iconst (pc := 85) d_X3_readLiteral_85 zc_i_0 ?_
  obtain ⟨g15, hf⟩ := zw_gcE hf (by decide)
  obtain ⟨q16, hq16, hf⟩ := zw_bdE hf
  refine zx_callV (pc := 86) (As := [.ref v1, .int 0]) (o := v0) (st := []) (d2 := (1 + 2 * 8)) (M2 := M_X3_readSum) (P2 := (fun r S => r = none ∧ S = (q16, R, J))) d_X3_readLiteral_86 (zw_mG (List.mem_of_getElem? (i := 789) (by decide +kernel)) rfl) ce_X3_readSum (zw_RvK g15 rfl rfl) (Nat.le_of_ble_eq_true rfl) rfl (Nat.le_of_ble_eq_true rfl) (by decide) (c_r_readSum X 8 v0 v1 0 q14.2 R J _ hq16 ⟨rfl, rfl⟩) ?_
  rintro _ _ ⟨rfl, rfl⟩
  show zy_V X M_X3_readLiteral 18 P (86 + 3) [.ref v0, .ref v1, .int v2, .int v3] [] (q16, R, J)
  refine zv_aload_n (pc := 89) d_X3_readLiteral_89 rfl ?_
  obtain ⟨g17, hf⟩ := zw_gcE hf (by decide)
  refine zx_getR (pc := 90) d_X3_readLiteral_90 lk_CutStones_Reader_21 (by decide) g15 g17 ?_
  refine zv_iload_n (pc := 93) d_X3_readLiteral_93 rfl ?_
  refine zv_iconst (pc := 94) d_X3_readLiteral_94 zc_i_0 ?_
  obtain ⟨q18, hq18, hf⟩ := zw_bdE hf
  refine zx_callV (pc := 95) (As := [.int v3, .int 0]) (o := (R v0 2)) (st := []) (d2 := 0) (M2 := M_X1_addCode) (P2 := (fun r S => r = none ∧ S = (q18, R, J))) d_X3_readLiteral_95 (zw_mG (List.mem_of_getElem? (i := 797) (by decide +kernel)) rfl) ce_X1_addCode (zw_RvK g17 rfl rfl) (Nat.le_of_ble_eq_true rfl) rfl (Nat.le_of_ble_eq_true rfl) (by decide) (c_X1_addCode X (R v0 2) v3 0 q16 R J _ hq18 ⟨rfl, rfl⟩) ?_
  rintro _ _ ⟨rfl, rfl⟩
  show zy_V X M_X3_readLiteral 18 P (95 + 3) [.ref v0, .ref v1, .int v2, .int v3] [] (q18, R, J)
  refine zv_iload_n (pc := 98) d_X3_readLiteral_98 rfl ?_
  rcases zw_ifE hf with ⟨c19, hf⟩ | ⟨c19, hf⟩
  · refine zv_if_eq (pc := 99) (tg := 112) d_X3_readLiteral_99 (by decide) (fun _ => ?_) (fun q => absurd c19 q)
    cases hf
    exact zx_vret (pc := 112) d_X3_readLiteral_112 rfl hk
  · refine zv_if_eq (pc := 99) (tg := 112) d_X3_readLiteral_99 (by decide) (fun q => absurd q c19) (fun _ => ?_)
    refine zv_aload_n (pc := 102) d_X3_readLiteral_102 rfl ?_
    refine zx_getR (pc := 103) d_X3_readLiteral_103 lk_CutStones_Reader_21 (by decide) g15 g17 ?_
    refine zv_bipush (pc := 106) d_X3_readLiteral_106 zc_b_27 ?_
    refine zv_iconst (pc := 108) d_X3_readLiteral_108 zc_i_0 ?_
    obtain ⟨q20, hq20, hf⟩ := zw_bdE hf
    refine zx_callV (pc := 109) (As := [.int 27, .int 0]) (o := (R v0 2)) (st := []) (d2 := 0) (M2 := M_X1_addCode) (P2 := (fun r S => r = none ∧ S = (q20, R, J))) d_X3_readLiteral_109 (zw_mG (List.mem_of_getElem? (i := 797) (by decide +kernel)) rfl) ce_X1_addCode (zw_RvK g17 rfl rfl) (Nat.le_of_ble_eq_true rfl) rfl (Nat.le_of_ble_eq_true rfl) (by decide) (c_X1_addCode X (R v0 2) 27 0 q18 R J _ hq20 ⟨rfl, rfl⟩) ?_
    rintro _ _ ⟨rfl, rfl⟩
    show zy_V X M_X3_readLiteral 18 P (109 + 3) [.ref v0, .ref v1, .int v2, .int v3] [] (q20, R, J)
    cases hf
    exact zx_vret (pc := 112) d_X3_readLiteral_112 rfl hk
def j_X3_readLiteral_76 (v0 : Nat) (v1 : Nat) (v2 : Int32) (v3 : Int32) (s0 : Nat) (s1 : Nat) (I : zI) (R : zR) (J : zJ) : Option (zI) :=
  j_X3_readLiteral_78 v0 v1 v2 v3 s0 s1 16 I R J
theorem j_X3_readLiteral_76_ok (X : zw_X) (P : Option Value → aS → Prop) (v0 : Nat) (v1 : Nat) (v2 : Int32) (v3 : Int32) (s0 : Nat) (s1 : Nat) (I : zI) (R : zR) (J : zJ) (o : zI) (hf : j_X3_readLiteral_76 v0 v1 v2 v3 s0 s1 I R J = some o) (hk : P none (o, R, J)) : zy_V X M_X3_readLiteral 18 P 76 [.ref v0, .ref v1, .int v2, .int v3] [.ref s1, .ref s0] (I, R, J) := by
  unfold j_X3_readLiteral_76 at hf
  refine zv_bipush (pc := 76) d_X3_readLiteral_76 zc_b_16 ?_
  exact zx_weak (zw_leS (zw_leS (zw_leS (zw_leS zw_leZ)))) (j_X3_readLiteral_78_ok X P v0 v1 v2 v3 s0 s1 16 I R J _ hf hk)
def j_X3_readLiteral_46 (v0 : Nat) (v1 : Nat) (v2 : Int32) (I : zI) (R : zR) (J : zJ) : Option (zI) :=
  zw_g (zw_gc v0 3) ((r_X3_readSum 8 v0 v1 0 I R J).bind fun q10 => ((f_X3_kind v0 v1 q10 R).bind fun q11 => (if q11 < 14 then j_X3_readLiteral_76 v0 v1 v2 q11 v0 v1 q10 R J else if 17 < q11 then j_X3_readLiteral_76 v0 v1 v2 q11 v0 v1 q10 R J else j_X3_readLiteral_78 v0 v1 v2 q11 v0 v1 q11 q10 R J)))
theorem j_X3_readLiteral_46_ok (X : zw_X) (P : Option Value → aS → Prop) (v0 : Nat) (v1 : Nat) (v2 : Int32) (I : zI) (R : zR) (J : zJ) (o : zI) (hf : j_X3_readLiteral_46 v0 v1 v2 I R J = some o) (hk : P none (o, R, J)) : zy_V X M_X3_readLiteral 18 P 46 [.ref v0, .ref v1, .int v2, .null] [] (I, R, J) := by
  unfold j_X3_readLiteral_46 at hf
  refine zv_aload_n (pc := 46) d_X3_readLiteral_46 rfl ?_
  refine zv_aload_n (pc := 47) d_X3_readLiteral_47 rfl ?_
  refine zv_iconst (pc := 48) d_X3_readLiteral_48 zc_i_0 ?_
  obtain ⟨g9, hf⟩ := zw_gcE hf (by decide)
  obtain ⟨q10, hq10, hf⟩ := zw_bdE hf
  refine zx_callV (pc := 49) (As := [.ref v1, .int 0]) (o := v0) (st := []) (d2 := (1 + 2 * 8)) (M2 := M_X3_readSum) (P2 := (fun r S => r = none ∧ S = (q10, R, J))) d_X3_readLiteral_49 (zw_mG (List.mem_of_getElem? (i := 789) (by decide +kernel)) rfl) ce_X3_readSum (zw_RvK g9 rfl rfl) (Nat.le_of_ble_eq_true rfl) rfl (Nat.le_of_ble_eq_true rfl) (by decide) (c_r_readSum X 8 v0 v1 0 I R J _ hq10 ⟨rfl, rfl⟩) ?_
  rintro _ _ ⟨rfl, rfl⟩
  show zy_V X M_X3_readLiteral 18 P (49 + 3) [.ref v0, .ref v1, .int v2, .null] [] (q10, R, J)
  refine zv_aload_n (pc := 52) d_X3_readLiteral_52 rfl ?_
  refine zv_aload_n (pc := 53) d_X3_readLiteral_53 rfl ?_
  obtain ⟨q11, hq11, hf⟩ := zw_bdE hf
  refine zx_callV (pc := 54) (As := [.ref v1]) (o := v0) (st := []) (d2 := 0) (M2 := M_X3_kind) (P2 := (fun r S => r = (some (.int q11)) ∧ S = (q10, R, J))) d_X3_readLiteral_54 (zw_mG (List.mem_of_getElem? (i := 746) (by decide +kernel)) rfl) ce_X3_kind (zw_RvK g9 rfl rfl) (Nat.le_of_ble_eq_true rfl) rfl (Nat.le_of_ble_eq_true rfl) (by decide) (c_X3_kind X v0 v1 q10 R J _ hq11 ⟨rfl, rfl⟩) ?_
  rintro _ _ ⟨rfl, rfl⟩
  show zy_V X M_X3_readLiteral 18 P (54 + 3) [.ref v0, .ref v1, .int v2, .null] [.int q11] (q10, R, J)
  refine zx_istore_n (pc := 57) (x2 := q11) (L2 := [.ref v0, .ref v1, .int v2, .int q11]) d_X3_readLiteral_57 (by decide) rfl rfl ?_
  refine zv_aload_n (pc := 58) d_X3_readLiteral_58 rfl ?_
  refine zv_aload_n (pc := 59) d_X3_readLiteral_59 rfl ?_
  refine zv_iload_n (pc := 60) d_X3_readLiteral_60 rfl ?_
  refine zv_bipush (pc := 61) d_X3_readLiteral_61 zc_b_14 ?_
  rcases zw_ifE hf with ⟨c12, hf⟩ | ⟨c12, hf⟩
  · refine zv_icmp_lt (pc := 63) (tg := 76) d_X3_readLiteral_63 (by decide) (fun _ => ?_) (fun q => absurd c12 q)
    exact zx_weak (zw_leS (zw_leS (zw_leS (zw_leS zw_leZ)))) (j_X3_readLiteral_76_ok X P v0 v1 v2 q11 v0 v1 q10 R J _ hf hk)
  · refine zv_icmp_lt (pc := 63) (tg := 76) d_X3_readLiteral_63 (by decide) (fun q => absurd q c12) (fun _ => ?_)
    refine zv_iload_n (pc := 66) d_X3_readLiteral_66 rfl ?_
    refine zv_bipush (pc := 67) d_X3_readLiteral_67 zc_b_17 ?_
    rcases zw_ifE hf with ⟨c21, hf⟩ | ⟨c21, hf⟩
    · refine zv_icmp_gt (pc := 69) (tg := 76) d_X3_readLiteral_69 (by decide) (fun _ => ?_) (fun q => absurd c21 q)
      exact zx_weak (zw_leS (zw_leS (zw_leS (zw_leS zw_leZ)))) (j_X3_readLiteral_76_ok X P v0 v1 v2 q11 v0 v1 q10 R J _ hf hk)
    · refine zv_icmp_gt (pc := 69) (tg := 76) d_X3_readLiteral_69 (by decide) (fun q => absurd q c21) (fun _ => ?_)
      refine zv_iload_n (pc := 72) d_X3_readLiteral_72 rfl ?_
      refine zv_goto (pc := 73) (tg := 78) d_X3_readLiteral_73 (by decide) ?_
      exact zx_weak (zw_leS (zw_leS (zw_leS (zw_leS zw_leZ)))) (j_X3_readLiteral_78_ok X P v0 v1 v2 q11 v0 v1 q11 q10 R J _ hf hk)
def f_X3_readLiteral (v0 : Nat) (v1 : Nat) (I : zI) (R : zR) (J : zJ) : Option (zI) :=
  (zw_it (s_X3_readLiteral_4 v0 v1 R J) 1000000 (0, 0, I)).bind fun q8 => (j_X3_readLiteral_46 v0 v1 q8.1 q8.2 R J)
theorem c_X3_readLiteral (X : zw_X) (v0 : Nat) (v1 : Nat) (I : zI) (R : zR) (J : zJ) {P : Option Value → aS → Prop} (o : zI) (hf : f_X3_readLiteral v0 v1 I R J = some o) (hk : P none (o, R, J)) : zw_C X M_X3_readLiteral 18 0 0 199 [.ref v0, .ref v1] (I, R, J) P := by
  show zy_V X M_X3_readLiteral 18 P 0 [.ref v0, .ref v1, .null, .null] [] (I, R, J)
  unfold f_X3_readLiteral at hf
  refine zv_iconst (pc := 0) d_X3_readLiteral_0 zc_i_0 ?_
  refine zx_istore_n (pc := 1) (x2 := 0) (L2 := [.ref v0, .ref v1, .int 0, .null]) d_X3_readLiteral_1 (by decide) rfl rfl ?_
  refine zv_iconst (pc := 2) d_X3_readLiteral_2 zc_i_0 ?_
  refine zx_istore_n (pc := 3) (x2 := 0) (L2 := [.ref v0, .ref v1, .int 0, .int 0]) d_X3_readLiteral_3 (by decide) rfl rfl ?_
  obtain ⟨q8, hq8, hf⟩ := zw_bdE hf
  refine zx_weak (L' := [.ref v0, .ref v1, .int 0, .int 0]) (zw_leS (zw_leS (zw_leS (zw_leS zw_leZ)))) (s_X3_readLiteral_4_lp X P v0 v1 R J _ _ _ hq8 ?_)
  show zy_V X M_X3_readLiteral 18 P 46 [.ref v0, .ref v1, .int q8.1, .null] [] (q8.2, R, J)
  exact zx_weak (zw_leS (zw_leS (zw_leS (zw_leN zw_leZ)))) (j_X3_readLiteral_46_ok X P v0 v1 q8.1 q8.2 R J _ hf hk)
abbrev M_X3_readCondition : zw_M := (⟨"CutStones$Reader", "readCondition", "(LCutStones$Tape;)V"⟩, prog_5_method_16_code, 6, (Option.none : Option Jvm.ClassFile.FieldType))
theorem d_X3_readCondition_0 : decode M_X3_readCondition.2.1 0 = .ok (.iconst 0, 1) := by decide +kernel
theorem d_X3_readCondition_1 : decode M_X3_readCondition.2.1 1 = .ok (.istore_n 2, 1) := by decide +kernel
theorem d_X3_readCondition_2 : decode M_X3_readCondition.2.1 2 = .ok (.iconst 1, 1) := by decide +kernel
theorem d_X3_readCondition_3 : decode M_X3_readCondition.2.1 3 = .ok (.istore_n 3, 1) := by decide +kernel
theorem d_X3_readCondition_4 : decode M_X3_readCondition.2.1 4 = .ok (.iconst 0, 1) := by decide +kernel
theorem d_X3_readCondition_5 : decode M_X3_readCondition.2.1 5 = .ok (.istore 4, 2) := by decide +kernel
theorem d_X3_readCondition_7 : decode M_X3_readCondition.2.1 7 = .ok (.iload_n 3, 1) := by decide +kernel
theorem d_X3_readCondition_8 : decode M_X3_readCondition.2.1 8 = .ok (.ifCond .eq 116, 3) := by decide +kernel
theorem d_X3_readCondition_11 : decode M_X3_readCondition.2.1 11 = .ok (.iload 4, 2) := by decide +kernel
theorem d_X3_readCondition_13 : decode M_X3_readCondition.2.1 13 = .ok (.sipush 500, 3) := by decide +kernel
theorem d_X3_readCondition_16 : decode M_X3_readCondition.2.1 16 = .ok (.if_icmp .ge 108, 3) := by decide +kernel
theorem d_X3_readCondition_19 : decode M_X3_readCondition.2.1 19 = .ok (.aload_n 0, 1) := by decide +kernel
theorem d_X3_readCondition_20 : decode M_X3_readCondition.2.1 20 = .ok (.aload_n 1, 1) := by decide +kernel
theorem d_X3_readCondition_21 : decode M_X3_readCondition.2.1 21 = .ok (.invokevirtual 178, 3) := by decide +kernel
theorem d_X3_readCondition_24 : decode M_X3_readCondition.2.1 24 = .ok (.iconst 0, 1) := by decide +kernel
theorem d_X3_readCondition_25 : decode M_X3_readCondition.2.1 25 = .ok (.istore 5, 2) := by decide +kernel
theorem d_X3_readCondition_27 : decode M_X3_readCondition.2.1 27 = .ok (.iload 5, 2) := by decide +kernel
theorem d_X3_readCondition_29 : decode M_X3_readCondition.2.1 29 = .ok (.sipush 500, 3) := by decide +kernel
theorem d_X3_readCondition_32 : decode M_X3_readCondition.2.1 32 = .ok (.if_icmp .ge 43, 3) := by decide +kernel
theorem d_X3_readCondition_35 : decode M_X3_readCondition.2.1 35 = .ok (.aload_n 0, 1) := by decide +kernel
theorem d_X3_readCondition_36 : decode M_X3_readCondition.2.1 36 = .ok (.aload_n 1, 1) := by decide +kernel
theorem d_X3_readCondition_37 : decode M_X3_readCondition.2.1 37 = .ok (.invokevirtual 98, 3) := by decide +kernel
theorem d_X3_readCondition_40 : decode M_X3_readCondition.2.1 40 = .ok (.bipush 26, 2) := by decide +kernel
theorem d_X3_readCondition_42 : decode M_X3_readCondition.2.1 42 = .ok (.if_icmp .ne 33, 3) := by decide +kernel
theorem d_X3_readCondition_45 : decode M_X3_readCondition.2.1 45 = .ok (.aload_n 0, 1) := by decide +kernel
theorem d_X3_readCondition_46 : decode M_X3_readCondition.2.1 46 = .ok (.aload_n 1, 1) := by decide +kernel
theorem d_X3_readCondition_47 : decode M_X3_readCondition.2.1 47 = .ok (.bipush 26, 2) := by decide +kernel
theorem d_X3_readCondition_49 : decode M_X3_readCondition.2.1 49 = .ok (.iconst 1, 1) := by decide +kernel
theorem d_X3_readCondition_50 : decode M_X3_readCondition.2.1 50 = .ok (.invokevirtual 66, 3) := by decide +kernel
theorem d_X3_readCondition_53 : decode M_X3_readCondition.2.1 53 = .ok (.pop, 1) := by decide +kernel
theorem d_X3_readCondition_54 : decode M_X3_readCondition.2.1 54 = .ok (.aload_n 0, 1) := by decide +kernel
theorem d_X3_readCondition_55 : decode M_X3_readCondition.2.1 55 = .ok (.aload_n 1, 1) := by decide +kernel
theorem d_X3_readCondition_56 : decode M_X3_readCondition.2.1 56 = .ok (.invokevirtual 178, 3) := by decide +kernel
theorem d_X3_readCondition_59 : decode M_X3_readCondition.2.1 59 = .ok (.aload_n 0, 1) := by decide +kernel
theorem d_X3_readCondition_60 : decode M_X3_readCondition.2.1 60 = .ok (.getfield 21, 3) := by decide +kernel
theorem d_X3_readCondition_63 : decode M_X3_readCondition.2.1 63 = .ok (.bipush 26, 2) := by decide +kernel
theorem d_X3_readCondition_65 : decode M_X3_readCondition.2.1 65 = .ok (.iconst 0, 1) := by decide +kernel
theorem d_X3_readCondition_66 : decode M_X3_readCondition.2.1 66 = .ok (.invokevirtual 181, 3) := by decide +kernel
theorem d_X3_readCondition_69 : decode M_X3_readCondition.2.1 69 = .ok (.iinc 5 1, 3) := by decide +kernel
theorem d_X3_readCondition_72 : decode M_X3_readCondition.2.1 72 = .ok (.goto (-45), 3) := by decide +kernel
theorem d_X3_readCondition_75 : decode M_X3_readCondition.2.1 75 = .ok (.iload_n 2, 1) := by decide +kernel
theorem d_X3_readCondition_76 : decode M_X3_readCondition.2.1 76 = .ok (.ifCond .eq 13, 3) := by decide +kernel
theorem d_X3_readCondition_79 : decode M_X3_readCondition.2.1 79 = .ok (.aload_n 0, 1) := by decide +kernel
theorem d_X3_readCondition_80 : decode M_X3_readCondition.2.1 80 = .ok (.getfield 21, 3) := by decide +kernel
theorem d_X3_readCondition_83 : decode M_X3_readCondition.2.1 83 = .ok (.bipush 25, 2) := by decide +kernel
theorem d_X3_readCondition_85 : decode M_X3_readCondition.2.1 85 = .ok (.iconst 0, 1) := by decide +kernel
theorem d_X3_readCondition_86 : decode M_X3_readCondition.2.1 86 = .ok (.invokevirtual 181, 3) := by decide +kernel
theorem d_X3_readCondition_89 : decode M_X3_readCondition.2.1 89 = .ok (.iconst 1, 1) := by decide +kernel
theorem d_X3_readCondition_90 : decode M_X3_readCondition.2.1 90 = .ok (.istore_n 2, 1) := by decide +kernel
theorem d_X3_readCondition_91 : decode M_X3_readCondition.2.1 91 = .ok (.aload_n 0, 1) := by decide +kernel
theorem d_X3_readCondition_92 : decode M_X3_readCondition.2.1 92 = .ok (.aload_n 1, 1) := by decide +kernel
theorem d_X3_readCondition_93 : decode M_X3_readCondition.2.1 93 = .ok (.invokevirtual 98, 3) := by decide +kernel
theorem d_X3_readCondition_96 : decode M_X3_readCondition.2.1 96 = .ok (.bipush 25, 2) := by decide +kernel
theorem d_X3_readCondition_98 : decode M_X3_readCondition.2.1 98 = .ok (.if_icmp .ne 18, 3) := by decide +kernel
theorem d_X3_readCondition_101 : decode M_X3_readCondition.2.1 101 = .ok (.aload_n 0, 1) := by decide +kernel
theorem d_X3_readCondition_102 : decode M_X3_readCondition.2.1 102 = .ok (.aload_n 1, 1) := by decide +kernel
theorem d_X3_readCondition_103 : decode M_X3_readCondition.2.1 103 = .ok (.bipush 25, 2) := by decide +kernel
theorem d_X3_readCondition_105 : decode M_X3_readCondition.2.1 105 = .ok (.iconst 1, 1) := by decide +kernel
theorem d_X3_readCondition_106 : decode M_X3_readCondition.2.1 106 = .ok (.invokevirtual 66, 3) := by decide +kernel
theorem d_X3_readCondition_109 : decode M_X3_readCondition.2.1 109 = .ok (.ifCond .eq 7, 3) := by decide +kernel
theorem d_X3_readCondition_112 : decode M_X3_readCondition.2.1 112 = .ok (.iconst 1, 1) := by decide +kernel
theorem d_X3_readCondition_113 : decode M_X3_readCondition.2.1 113 = .ok (.goto 4, 3) := by decide +kernel
theorem d_X3_readCondition_116 : decode M_X3_readCondition.2.1 116 = .ok (.iconst 0, 1) := by decide +kernel
theorem d_X3_readCondition_117 : decode M_X3_readCondition.2.1 117 = .ok (.istore_n 3, 1) := by decide +kernel
theorem d_X3_readCondition_118 : decode M_X3_readCondition.2.1 118 = .ok (.iinc 4 1, 3) := by decide +kernel
theorem d_X3_readCondition_121 : decode M_X3_readCondition.2.1 121 = .ok (.goto (-114), 3) := by decide +kernel
theorem d_X3_readCondition_124 : decode M_X3_readCondition.2.1 124 = .ok (.return_, 1) := by decide +kernel
theorem ce_X3_readCondition : zw_CeV M_X3_readCondition 1 := ⟨⟨⟨by decide +kernel, by decide +kernel, by decide +kernel⟩, (zw_mG (List.mem_of_getElem? (i := 784) (by decide +kernel)) rfl), (zw_mG (List.mem_of_getElem? (i := 98) (by decide +kernel)) rfl), by decide, by decide +kernel⟩, (zw_mG (List.mem_of_getElem? (i := 783) (by decide +kernel)) rfl), (zw_mG (List.mem_of_getElem? (i := 15) (by decide +kernel)) rfl)⟩
def s_X3_readCondition_27 (v0 : Nat) (v1 : Nat) (v2 : Int32) (v4 : Int32) (R : zR) (J : zJ) (s : Int32 × zI) : Option ((Int32 × zI) ⊕ (zI)) :=
  if 500 ≤ s.1 then some (.inr s.2) else zw_g (zw_gc v0 3) ((f_X3_kind v0 v1 s.2 R).bind fun q7 => (if ¬ q7 = 26 then some (.inr s.2) else (f_X3_take v0 v1 26 1 s.2 R).bind fun q9 => ((f_X3_readLiteral v0 v1 q9.2 R J).bind fun q10 => (zw_g (zw_gc (R v0 2) 1) ((f_X1_addCode (R v0 2) 26 0 q10 R).bind fun q12 => (zw_let (s.1 + 1 : Int32) fun x13 => (some (.inl (x13, q12)))))))))
theorem s_X3_readCondition_27_ok (X : zw_X) (P : Option Value → aS → Prop) (v0 : Nat) (v1 : Nat) (v2 : Int32) (v4 : Int32) (R : zR) (J : zJ) (s : Int32 × zI) (o : (Int32 × zI) ⊕ (zI)) (hf : s_X3_readCondition_27 v0 v1 v2 v4 R J s = some o) (hk : (zw_se (fun t => zy_V X M_X3_readCondition 19 P 27 [.ref v0, .ref v1, .int v2, .null, .int v4, .int t.1] [] (t.2, R, J)) (fun r => zy_V X M_X3_readCondition 19 P 75 [.ref v0, .ref v1, .int v2, .null, .int v4, .null] [] (r, R, J)) o)) : zy_V X M_X3_readCondition 19 P 27 [.ref v0, .ref v1, .int v2, .null, .int v4, .int s.1] [] (s.2, R, J) := by
  unfold s_X3_readCondition_27 at hf
  refine zv_iload (pc := 27) d_X3_readCondition_27 rfl ?_
  refine zv_sipush (pc := 29) d_X3_readCondition_29 zc_s_500 ?_
  rcases zw_ifE hf with ⟨c5, hf⟩ | ⟨c5, hf⟩
  · refine zv_icmp_ge (pc := 32) (tg := 75) d_X3_readCondition_32 (by decide) (fun _ => ?_) (fun q => absurd c5 q)
    cases hf
    exact zx_weak (zw_leS (zw_leS (zw_leS (zw_leN (zw_leS (zw_leN zw_leZ)))))) hk
  · refine zv_icmp_ge (pc := 32) (tg := 75) d_X3_readCondition_32 (by decide) (fun q => absurd q c5) (fun _ => ?_)
    refine zv_aload_n (pc := 35) d_X3_readCondition_35 rfl ?_
    refine zv_aload_n (pc := 36) d_X3_readCondition_36 rfl ?_
    obtain ⟨g6, hf⟩ := zw_gcE hf (by decide)
    obtain ⟨q7, hq7, hf⟩ := zw_bdE hf
    refine zx_callV (pc := 37) (As := [.ref v1]) (o := v0) (st := []) (d2 := 0) (M2 := M_X3_kind) (P2 := (fun r S => r = (some (.int q7)) ∧ S = (s.2, R, J))) d_X3_readCondition_37 (zw_mG (List.mem_of_getElem? (i := 746) (by decide +kernel)) rfl) ce_X3_kind (zw_RvK g6 rfl rfl) (Nat.le_of_ble_eq_true rfl) rfl (Nat.le_of_ble_eq_true rfl) (by decide) (c_X3_kind X v0 v1 s.2 R J _ hq7 ⟨rfl, rfl⟩) ?_
    rintro _ _ ⟨rfl, rfl⟩
    show zy_V X M_X3_readCondition 19 P (37 + 3) [.ref v0, .ref v1, .int v2, .null, .int v4, .int s.1] [.int q7] (s.2, R, J)
    refine zv_bipush (pc := 40) d_X3_readCondition_40 zc_b_26 ?_
    rcases zw_ifE hf with ⟨c8, hf⟩ | ⟨c8, hf⟩
    · refine zv_icmp_ne (pc := 42) (tg := 75) d_X3_readCondition_42 (by decide) (fun _ => ?_) (fun q => absurd q c8)
      cases hf
      exact zx_weak (zw_leS (zw_leS (zw_leS (zw_leN (zw_leS (zw_leN zw_leZ)))))) hk
    · refine zv_icmp_ne (pc := 42) (tg := 75) d_X3_readCondition_42 (by decide) (fun q => absurd q c8) (fun _ => ?_)
      refine zv_aload_n (pc := 45) d_X3_readCondition_45 rfl ?_
      refine zv_aload_n (pc := 46) d_X3_readCondition_46 rfl ?_
      refine zv_bipush (pc := 47) d_X3_readCondition_47 zc_b_26 ?_
      refine zv_iconst (pc := 49) d_X3_readCondition_49 zc_i_1 ?_
      obtain ⟨q9, hq9, hf⟩ := zw_bdE hf
      refine zx_callV (pc := 50) (As := [.ref v1, .int 26, .int 1]) (o := v0) (st := []) (d2 := 0) (M2 := M_X3_take) (P2 := (fun r S => r = (some (.int q9.1)) ∧ S = (q9.2, R, J))) d_X3_readCondition_50 (zw_mG (List.mem_of_getElem? (i := 707) (by decide +kernel)) rfl) ce_X3_take (zw_RvK g6 rfl rfl) (Nat.le_of_ble_eq_true rfl) rfl (Nat.le_of_ble_eq_true rfl) (by decide) (c_X3_take X v0 v1 26 1 s.2 R J _ hq9 ⟨rfl, rfl⟩) ?_
      rintro _ _ ⟨rfl, rfl⟩
      show zy_V X M_X3_readCondition 19 P (50 + 3) [.ref v0, .ref v1, .int v2, .null, .int v4, .int s.1] [.int q9.1] (q9.2, R, J)
      refine zv_pop (pc := 53) d_X3_readCondition_53 rfl ?_
      refine zv_aload_n (pc := 54) d_X3_readCondition_54 rfl ?_
      refine zv_aload_n (pc := 55) d_X3_readCondition_55 rfl ?_
      obtain ⟨q10, hq10, hf⟩ := zw_bdE hf
      refine zx_callV (pc := 56) (As := [.ref v1]) (o := v0) (st := []) (d2 := 18) (M2 := M_X3_readLiteral) (P2 := (fun r S => r = none ∧ S = (q10, R, J))) d_X3_readCondition_56 (zw_mG (List.mem_of_getElem? (i := 785) (by decide +kernel)) rfl) ce_X3_readLiteral (zw_RvK g6 rfl rfl) (Nat.le_of_ble_eq_true rfl) rfl (Nat.le_of_ble_eq_true rfl) (by decide) (c_X3_readLiteral X v0 v1 q9.2 R J _ hq10 ⟨rfl, rfl⟩) ?_
      rintro _ _ ⟨rfl, rfl⟩
      show zy_V X M_X3_readCondition 19 P (56 + 3) [.ref v0, .ref v1, .int v2, .null, .int v4, .int s.1] [] (q10, R, J)
      refine zv_aload_n (pc := 59) d_X3_readCondition_59 rfl ?_
      obtain ⟨g11, hf⟩ := zw_gcE hf (by decide)
      refine zx_getR (pc := 60) d_X3_readCondition_60 lk_CutStones_Reader_21 (by decide) g6 g11 ?_
      refine zv_bipush (pc := 63) d_X3_readCondition_63 zc_b_26 ?_
      refine zv_iconst (pc := 65) d_X3_readCondition_65 zc_i_0 ?_
      obtain ⟨q12, hq12, hf⟩ := zw_bdE hf
      refine zx_callV (pc := 66) (As := [.int 26, .int 0]) (o := (R v0 2)) (st := []) (d2 := 0) (M2 := M_X1_addCode) (P2 := (fun r S => r = none ∧ S = (q12, R, J))) d_X3_readCondition_66 (zw_mG (List.mem_of_getElem? (i := 797) (by decide +kernel)) rfl) ce_X1_addCode (zw_RvK g11 rfl rfl) (Nat.le_of_ble_eq_true rfl) rfl (Nat.le_of_ble_eq_true rfl) (by decide) (c_X1_addCode X (R v0 2) 26 0 q10 R J _ hq12 ⟨rfl, rfl⟩) ?_
      rintro _ _ ⟨rfl, rfl⟩
      show zy_V X M_X3_readCondition 19 P (66 + 3) [.ref v0, .ref v1, .int v2, .null, .int v4, .int s.1] [] (q12, R, J)
      obtain ⟨x13, ex13, hf⟩ := zw_letE hf
      refine zx_iinc (pc := 69) (x2 := x13) (L2 := [.ref v0, .ref v1, .int v2, .null, .int v4, .int x13]) d_X3_readCondition_69 (by decide) rfl zc_i_1 ex13 rfl ?_
      refine zv_goto (pc := 72) (tg := 27) d_X3_readCondition_72 (by decide) ?_
      cases hf
      exact zx_weak (zw_leS (zw_leS (zw_leS (zw_leN (zw_leS (zw_leS zw_leZ)))))) hk
theorem s_X3_readCondition_27_lp (X : zw_X) (P : Option Value → aS → Prop) (v0 : Nat) (v1 : Nat) (v2 : Int32) (v4 : Int32) (R : zR) (J : zJ) (n : Nat) (s : Int32 × zI) (r : zI) (h : zw_it (s_X3_readCondition_27 v0 v1 v2 v4 R J) n s = some r) (hq : zy_V X M_X3_readCondition 19 P 75 [.ref v0, .ref v1, .int v2, .null, .int v4, .null] [] (r, R, J)) : zy_V X M_X3_readCondition 19 P 27 [.ref v0, .ref v1, .int v2, .null, .int v4, .int s.1] [] (s.2, R, J) :=
  zw_itE (A := (fun t : Int32 × zI => zy_V X M_X3_readCondition 19 P 27 [.ref v0, .ref v1, .int v2, .null, .int v4, .int t.1] [] (t.2, R, J))) (Q := (fun r : zI => zy_V X M_X3_readCondition 19 P 75 [.ref v0, .ref v1, .int v2, .null, .int v4, .null] [] (r, R, J))) (fun s o h1 h2 => s_X3_readCondition_27_ok X P v0 v1 v2 v4 R J s o h1 h2) n s r h hq
def j_X3_readCondition_117_7 (v0 : Nat) (v1 : Nat) (v2 : Int32) (v4 : Int32) (s0 : Int32) (I : zI) (R : zR) (J : zJ) : Option ((Int32 × Int32 × Int32 × zI) ⊕ (zI)) :=
  zw_let (v4 + 1 : Int32) fun x19 => (some (.inl (v2, s0, x19, I)))
theorem j_X3_readCondition_117_7_ok (X : zw_X) (P : Option Value → aS → Prop) (v0 : Nat) (v1 : Nat) (v2 : Int32) (v4 : Int32) (s0 : Int32) (I : zI) (R : zR) (J : zJ) (o : (Int32 × Int32 × Int32 × zI) ⊕ (zI)) (hf : j_X3_readCondition_117_7 v0 v1 v2 v4 s0 I R J = some o) (hk : (zw_se (fun t => zy_V X M_X3_readCondition 19 P 7 [.ref v0, .ref v1, .int t.1, .int t.2.1, .int t.2.2.1, .null] [] (t.2.2.2, R, J)) (fun r => zy_V X M_X3_readCondition 19 P 124 [.null, .null, .null, .null, .null, .null] [] (r, R, J)) o)) : zy_V X M_X3_readCondition 19 P 117 [.ref v0, .ref v1, .int v2, .null, .int v4, .null] [.int s0] (I, R, J) := by
  unfold j_X3_readCondition_117_7 at hf
  refine zx_istore_n (pc := 117) (x2 := s0) (L2 := [.ref v0, .ref v1, .int v2, .int s0, .int v4, .null]) d_X3_readCondition_117 (by decide) rfl rfl ?_
  obtain ⟨x19, ex19, hf⟩ := zw_letE hf
  refine zx_iinc (pc := 118) (x2 := x19) (L2 := [.ref v0, .ref v1, .int v2, .int s0, .int x19, .null]) d_X3_readCondition_118 (by decide) rfl zc_i_1 ex19 rfl ?_
  refine zv_goto (pc := 121) (tg := 7) d_X3_readCondition_121 (by decide) ?_
  cases hf
  exact zx_weak (zw_leS (zw_leS (zw_leS (zw_leS (zw_leS (zw_leN zw_leZ)))))) hk
def j_X3_readCondition_116_7 (v0 : Nat) (v1 : Nat) (v2 : Int32) (v4 : Int32) (I : zI) (R : zR) (J : zJ) : Option ((Int32 × Int32 × Int32 × zI) ⊕ (zI)) :=
  j_X3_readCondition_117_7 v0 v1 v2 v4 0 I R J
theorem j_X3_readCondition_116_7_ok (X : zw_X) (P : Option Value → aS → Prop) (v0 : Nat) (v1 : Nat) (v2 : Int32) (v4 : Int32) (I : zI) (R : zR) (J : zJ) (o : (Int32 × Int32 × Int32 × zI) ⊕ (zI)) (hf : j_X3_readCondition_116_7 v0 v1 v2 v4 I R J = some o) (hk : (zw_se (fun t => zy_V X M_X3_readCondition 19 P 7 [.ref v0, .ref v1, .int t.1, .int t.2.1, .int t.2.2.1, .null] [] (t.2.2.2, R, J)) (fun r => zy_V X M_X3_readCondition 19 P 124 [.null, .null, .null, .null, .null, .null] [] (r, R, J)) o)) : zy_V X M_X3_readCondition 19 P 116 [.ref v0, .ref v1, .int v2, .null, .int v4, .null] [] (I, R, J) := by
  unfold j_X3_readCondition_116_7 at hf
  refine zv_iconst (pc := 116) d_X3_readCondition_116 zc_i_0 ?_
  exact zx_weak (zw_leS (zw_leS (zw_leS (zw_leN (zw_leS (zw_leN zw_leZ)))))) (j_X3_readCondition_117_7_ok X P v0 v1 v2 v4 0 I R J _ hf hk)
def j_X3_readCondition_89_7 (v0 : Nat) (v1 : Nat) (v4 : Int32) (I : zI) (R : zR) (J : zJ) : Option ((Int32 × Int32 × Int32 × zI) ⊕ (zI)) :=
  zw_g (zw_gc v0 3) ((f_X3_kind v0 v1 I R).bind fun q17 => (if ¬ q17 = 25 then j_X3_readCondition_116_7 v0 v1 1 v4 I R J else (f_X3_take v0 v1 25 1 I R).bind fun q20 => (if q20.1 = 0 then j_X3_readCondition_116_7 v0 v1 1 v4 q20.2 R J else j_X3_readCondition_117_7 v0 v1 1 v4 1 q20.2 R J)))
theorem j_X3_readCondition_89_7_ok (X : zw_X) (P : Option Value → aS → Prop) (v0 : Nat) (v1 : Nat) (v4 : Int32) (I : zI) (R : zR) (J : zJ) (o : (Int32 × Int32 × Int32 × zI) ⊕ (zI)) (hf : j_X3_readCondition_89_7 v0 v1 v4 I R J = some o) (hk : (zw_se (fun t => zy_V X M_X3_readCondition 19 P 7 [.ref v0, .ref v1, .int t.1, .int t.2.1, .int t.2.2.1, .null] [] (t.2.2.2, R, J)) (fun r => zy_V X M_X3_readCondition 19 P 124 [.null, .null, .null, .null, .null, .null] [] (r, R, J)) o)) : zy_V X M_X3_readCondition 19 P 89 [.ref v0, .ref v1, .null, .null, .int v4, .null] [] (I, R, J) := by
  unfold j_X3_readCondition_89_7 at hf
  refine zv_iconst (pc := 89) d_X3_readCondition_89 zc_i_1 ?_
  refine zx_istore_n (pc := 90) (x2 := 1) (L2 := [.ref v0, .ref v1, .int 1, .null, .int v4, .null]) d_X3_readCondition_90 (by decide) rfl rfl ?_
  refine zv_aload_n (pc := 91) d_X3_readCondition_91 rfl ?_
  refine zv_aload_n (pc := 92) d_X3_readCondition_92 rfl ?_
  obtain ⟨g16, hf⟩ := zw_gcE hf (by decide)
  obtain ⟨q17, hq17, hf⟩ := zw_bdE hf
  refine zx_callV (pc := 93) (As := [.ref v1]) (o := v0) (st := []) (d2 := 0) (M2 := M_X3_kind) (P2 := (fun r S => r = (some (.int q17)) ∧ S = (I, R, J))) d_X3_readCondition_93 (zw_mG (List.mem_of_getElem? (i := 746) (by decide +kernel)) rfl) ce_X3_kind (zw_RvK g16 rfl rfl) (Nat.le_of_ble_eq_true rfl) rfl (Nat.le_of_ble_eq_true rfl) (by decide) (c_X3_kind X v0 v1 I R J _ hq17 ⟨rfl, rfl⟩) ?_
  rintro _ _ ⟨rfl, rfl⟩
  show zy_V X M_X3_readCondition 19 P (93 + 3) [.ref v0, .ref v1, .int 1, .null, .int v4, .null] [.int q17] (I, R, J)
  refine zv_bipush (pc := 96) d_X3_readCondition_96 zc_b_25 ?_
  rcases zw_ifE hf with ⟨c18, hf⟩ | ⟨c18, hf⟩
  · refine zv_icmp_ne (pc := 98) (tg := 116) d_X3_readCondition_98 (by decide) (fun _ => ?_) (fun q => absurd q c18)
    exact zx_weak (zw_leS (zw_leS (zw_leS (zw_leN (zw_leS (zw_leN zw_leZ)))))) (j_X3_readCondition_116_7_ok X P v0 v1 1 v4 I R J _ hf hk)
  · refine zv_icmp_ne (pc := 98) (tg := 116) d_X3_readCondition_98 (by decide) (fun q => absurd q c18) (fun _ => ?_)
    refine zv_aload_n (pc := 101) d_X3_readCondition_101 rfl ?_
    refine zv_aload_n (pc := 102) d_X3_readCondition_102 rfl ?_
    refine zv_bipush (pc := 103) d_X3_readCondition_103 zc_b_25 ?_
    refine zv_iconst (pc := 105) d_X3_readCondition_105 zc_i_1 ?_
    obtain ⟨q20, hq20, hf⟩ := zw_bdE hf
    refine zx_callV (pc := 106) (As := [.ref v1, .int 25, .int 1]) (o := v0) (st := []) (d2 := 0) (M2 := M_X3_take) (P2 := (fun r S => r = (some (.int q20.1)) ∧ S = (q20.2, R, J))) d_X3_readCondition_106 (zw_mG (List.mem_of_getElem? (i := 707) (by decide +kernel)) rfl) ce_X3_take (zw_RvK g16 rfl rfl) (Nat.le_of_ble_eq_true rfl) rfl (Nat.le_of_ble_eq_true rfl) (by decide) (c_X3_take X v0 v1 25 1 I R J _ hq20 ⟨rfl, rfl⟩) ?_
    rintro _ _ ⟨rfl, rfl⟩
    show zy_V X M_X3_readCondition 19 P (106 + 3) [.ref v0, .ref v1, .int 1, .null, .int v4, .null] [.int q20.1] (q20.2, R, J)
    rcases zw_ifE hf with ⟨c21, hf⟩ | ⟨c21, hf⟩
    · refine zv_if_eq (pc := 109) (tg := 116) d_X3_readCondition_109 (by decide) (fun _ => ?_) (fun q => absurd c21 q)
      exact zx_weak (zw_leS (zw_leS (zw_leS (zw_leN (zw_leS (zw_leN zw_leZ)))))) (j_X3_readCondition_116_7_ok X P v0 v1 1 v4 q20.2 R J _ hf hk)
    · refine zv_if_eq (pc := 109) (tg := 116) d_X3_readCondition_109 (by decide) (fun q => absurd q c21) (fun _ => ?_)
      refine zv_iconst (pc := 112) d_X3_readCondition_112 zc_i_1 ?_
      refine zv_goto (pc := 113) (tg := 117) d_X3_readCondition_113 (by decide) ?_
      exact zx_weak (zw_leS (zw_leS (zw_leS (zw_leN (zw_leS (zw_leN zw_leZ)))))) (j_X3_readCondition_117_7_ok X P v0 v1 1 v4 1 q20.2 R J _ hf hk)
def j_X3_readCondition_75_7 (v0 : Nat) (v1 : Nat) (v2 : Int32) (v4 : Int32) (I : zI) (R : zR) (J : zJ) : Option ((Int32 × Int32 × Int32 × zI) ⊕ (zI)) :=
  if v2 = 0 then j_X3_readCondition_89_7 v0 v1 v4 I R J else zw_g (zw_gc v0 3) (zw_g (zw_gc (R v0 2) 1) ((f_X1_addCode (R v0 2) 25 0 I R).bind fun q24 => (j_X3_readCondition_89_7 v0 v1 v4 q24 R J)))
theorem j_X3_readCondition_75_7_ok (X : zw_X) (P : Option Value → aS → Prop) (v0 : Nat) (v1 : Nat) (v2 : Int32) (v4 : Int32) (I : zI) (R : zR) (J : zJ) (o : (Int32 × Int32 × Int32 × zI) ⊕ (zI)) (hf : j_X3_readCondition_75_7 v0 v1 v2 v4 I R J = some o) (hk : (zw_se (fun t => zy_V X M_X3_readCondition 19 P 7 [.ref v0, .ref v1, .int t.1, .int t.2.1, .int t.2.2.1, .null] [] (t.2.2.2, R, J)) (fun r => zy_V X M_X3_readCondition 19 P 124 [.null, .null, .null, .null, .null, .null] [] (r, R, J)) o)) : zy_V X M_X3_readCondition 19 P 75 [.ref v0, .ref v1, .int v2, .null, .int v4, .null] [] (I, R, J) := by
  unfold j_X3_readCondition_75_7 at hf
  refine zv_iload_n (pc := 75) d_X3_readCondition_75 rfl ?_
  rcases zw_ifE hf with ⟨c15, hf⟩ | ⟨c15, hf⟩
  · refine zv_if_eq (pc := 76) (tg := 89) d_X3_readCondition_76 (by decide) (fun _ => ?_) (fun q => absurd c15 q)
    exact zx_weak (zw_leS (zw_leS (zw_leN (zw_leN (zw_leS (zw_leN zw_leZ)))))) (j_X3_readCondition_89_7_ok X P v0 v1 v4 I R J _ hf hk)
  · refine zv_if_eq (pc := 76) (tg := 89) d_X3_readCondition_76 (by decide) (fun q => absurd q c15) (fun _ => ?_)
    refine zv_aload_n (pc := 79) d_X3_readCondition_79 rfl ?_
    obtain ⟨g22, hf⟩ := zw_gcE hf (by decide)
    obtain ⟨g23, hf⟩ := zw_gcE hf (by decide)
    refine zx_getR (pc := 80) d_X3_readCondition_80 lk_CutStones_Reader_21 (by decide) g22 g23 ?_
    refine zv_bipush (pc := 83) d_X3_readCondition_83 zc_b_25 ?_
    refine zv_iconst (pc := 85) d_X3_readCondition_85 zc_i_0 ?_
    obtain ⟨q24, hq24, hf⟩ := zw_bdE hf
    refine zx_callV (pc := 86) (As := [.int 25, .int 0]) (o := (R v0 2)) (st := []) (d2 := 0) (M2 := M_X1_addCode) (P2 := (fun r S => r = none ∧ S = (q24, R, J))) d_X3_readCondition_86 (zw_mG (List.mem_of_getElem? (i := 797) (by decide +kernel)) rfl) ce_X1_addCode (zw_RvK g23 rfl rfl) (Nat.le_of_ble_eq_true rfl) rfl (Nat.le_of_ble_eq_true rfl) (by decide) (c_X1_addCode X (R v0 2) 25 0 I R J _ hq24 ⟨rfl, rfl⟩) ?_
    rintro _ _ ⟨rfl, rfl⟩
    show zy_V X M_X3_readCondition 19 P (86 + 3) [.ref v0, .ref v1, .int v2, .null, .int v4, .null] [] (q24, R, J)
    exact zx_weak (zw_leS (zw_leS (zw_leN (zw_leN (zw_leS (zw_leN zw_leZ)))))) (j_X3_readCondition_89_7_ok X P v0 v1 v4 q24 R J _ hf hk)
def s_X3_readCondition_7 (v0 : Nat) (v1 : Nat) (R : zR) (J : zJ) (s : Int32 × Int32 × Int32 × zI) : Option ((Int32 × Int32 × Int32 × zI) ⊕ (zI)) :=
  if s.2.1 = 0 then some (.inr s.2.2.2) else if 500 ≤ s.2.2.1 then some (.inr s.2.2.2) else zw_g (zw_gc v0 3) ((f_X3_readLiteral v0 v1 s.2.2.2 R J).bind fun q4 => ((zw_it (s_X3_readCondition_27 v0 v1 s.1 s.2.2.1 R J) 1000000 (0, q4)).bind fun q14 => (j_X3_readCondition_75_7 v0 v1 s.1 s.2.2.1 q14 R J)))
theorem s_X3_readCondition_7_ok (X : zw_X) (P : Option Value → aS → Prop) (v0 : Nat) (v1 : Nat) (R : zR) (J : zJ) (s : Int32 × Int32 × Int32 × zI) (o : (Int32 × Int32 × Int32 × zI) ⊕ (zI)) (hf : s_X3_readCondition_7 v0 v1 R J s = some o) (hk : (zw_se (fun t => zy_V X M_X3_readCondition 19 P 7 [.ref v0, .ref v1, .int t.1, .int t.2.1, .int t.2.2.1, .null] [] (t.2.2.2, R, J)) (fun r => zy_V X M_X3_readCondition 19 P 124 [.null, .null, .null, .null, .null, .null] [] (r, R, J)) o)) : zy_V X M_X3_readCondition 19 P 7 [.ref v0, .ref v1, .int s.1, .int s.2.1, .int s.2.2.1, .null] [] (s.2.2.2, R, J) := by
  unfold s_X3_readCondition_7 at hf
  refine zv_iload_n (pc := 7) d_X3_readCondition_7 rfl ?_
  rcases zw_ifE hf with ⟨c1, hf⟩ | ⟨c1, hf⟩
  · refine zv_if_eq (pc := 8) (tg := 124) d_X3_readCondition_8 (by decide) (fun _ => ?_) (fun q => absurd c1 q)
    cases hf
    exact zx_weak (zw_leN (zw_leN (zw_leN (zw_leN (zw_leN (zw_leN zw_leZ)))))) hk
  · refine zv_if_eq (pc := 8) (tg := 124) d_X3_readCondition_8 (by decide) (fun q => absurd q c1) (fun _ => ?_)
    refine zv_iload (pc := 11) d_X3_readCondition_11 rfl ?_
    refine zv_sipush (pc := 13) d_X3_readCondition_13 zc_s_500 ?_
    rcases zw_ifE hf with ⟨c2, hf⟩ | ⟨c2, hf⟩
    · refine zv_icmp_ge (pc := 16) (tg := 124) d_X3_readCondition_16 (by decide) (fun _ => ?_) (fun q => absurd c2 q)
      cases hf
      exact zx_weak (zw_leN (zw_leN (zw_leN (zw_leN (zw_leN (zw_leN zw_leZ)))))) hk
    · refine zv_icmp_ge (pc := 16) (tg := 124) d_X3_readCondition_16 (by decide) (fun q => absurd q c2) (fun _ => ?_)
      refine zv_aload_n (pc := 19) d_X3_readCondition_19 rfl ?_
      refine zv_aload_n (pc := 20) d_X3_readCondition_20 rfl ?_
      obtain ⟨g3, hf⟩ := zw_gcE hf (by decide)
      obtain ⟨q4, hq4, hf⟩ := zw_bdE hf
      refine zx_callV (pc := 21) (As := [.ref v1]) (o := v0) (st := []) (d2 := 18) (M2 := M_X3_readLiteral) (P2 := (fun r S => r = none ∧ S = (q4, R, J))) d_X3_readCondition_21 (zw_mG (List.mem_of_getElem? (i := 785) (by decide +kernel)) rfl) ce_X3_readLiteral (zw_RvK g3 rfl rfl) (Nat.le_of_ble_eq_true rfl) rfl (Nat.le_of_ble_eq_true rfl) (by decide) (c_X3_readLiteral X v0 v1 s.2.2.2 R J _ hq4 ⟨rfl, rfl⟩) ?_
      rintro _ _ ⟨rfl, rfl⟩
      show zy_V X M_X3_readCondition 19 P (21 + 3) [.ref v0, .ref v1, .int s.1, .int s.2.1, .int s.2.2.1, .null] [] (q4, R, J)
      refine zv_iconst (pc := 24) d_X3_readCondition_24 zc_i_0 ?_
      refine zx_istore (pc := 25) (x2 := 0) (L2 := [.ref v0, .ref v1, .int s.1, .int s.2.1, .int s.2.2.1, .int 0]) d_X3_readCondition_25 (by decide) rfl rfl ?_
      obtain ⟨q14, hq14, hf⟩ := zw_bdE hf
      refine zx_weak (L' := [.ref v0, .ref v1, .int s.1, .null, .int s.2.2.1, .int 0]) (zw_leS (zw_leS (zw_leS (zw_leN (zw_leS (zw_leS zw_leZ)))))) (s_X3_readCondition_27_lp X P v0 v1 s.1 s.2.2.1 R J _ _ _ hq14 ?_)
      show zy_V X M_X3_readCondition 19 P 75 [.ref v0, .ref v1, .int s.1, .null, .int s.2.2.1, .null] [] (q14, R, J)
      exact zx_weak (zw_leS (zw_leS (zw_leS (zw_leN (zw_leS (zw_leN zw_leZ)))))) (j_X3_readCondition_75_7_ok X P v0 v1 s.1 s.2.2.1 q14 R J _ hf hk)
theorem s_X3_readCondition_7_lp (X : zw_X) (P : Option Value → aS → Prop) (v0 : Nat) (v1 : Nat) (R : zR) (J : zJ) (n : Nat) (s : Int32 × Int32 × Int32 × zI) (r : zI) (h : zw_it (s_X3_readCondition_7 v0 v1 R J) n s = some r) (hq : zy_V X M_X3_readCondition 19 P 124 [.null, .null, .null, .null, .null, .null] [] (r, R, J)) : zy_V X M_X3_readCondition 19 P 7 [.ref v0, .ref v1, .int s.1, .int s.2.1, .int s.2.2.1, .null] [] (s.2.2.2, R, J) :=
  zw_itE (A := (fun t : Int32 × Int32 × Int32 × zI => zy_V X M_X3_readCondition 19 P 7 [.ref v0, .ref v1, .int t.1, .int t.2.1, .int t.2.2.1, .null] [] (t.2.2.2, R, J))) (Q := (fun r : zI => zy_V X M_X3_readCondition 19 P 124 [.null, .null, .null, .null, .null, .null] [] (r, R, J))) (fun s o h1 h2 => s_X3_readCondition_7_ok X P v0 v1 R J s o h1 h2) n s r h hq
def f_X3_readCondition (v0 : Nat) (v1 : Nat) (I : zI) (R : zR) (J : zJ) : Option (zI) :=
  (zw_it (s_X3_readCondition_7 v0 v1 R J) 1000000 (0, 1, 0, I)).bind fun q25 => (some q25)
theorem c_X3_readCondition (X : zw_X) (v0 : Nat) (v1 : Nat) (I : zI) (R : zR) (J : zJ) {P : Option Value → aS → Prop} (o : zI) (hf : f_X3_readCondition v0 v1 I R J = some o) (hk : P none (o, R, J)) : zw_C X M_X3_readCondition 19 0 0 199 [.ref v0, .ref v1] (I, R, J) P := by
  show zy_V X M_X3_readCondition 19 P 0 [.ref v0, .ref v1, .null, .null, .null, .null] [] (I, R, J)
  unfold f_X3_readCondition at hf
  refine zv_iconst (pc := 0) d_X3_readCondition_0 zc_i_0 ?_
  refine zx_istore_n (pc := 1) (x2 := 0) (L2 := [.ref v0, .ref v1, .int 0, .null, .null, .null]) d_X3_readCondition_1 (by decide) rfl rfl ?_
  refine zv_iconst (pc := 2) d_X3_readCondition_2 zc_i_1 ?_
  refine zx_istore_n (pc := 3) (x2 := 1) (L2 := [.ref v0, .ref v1, .int 0, .int 1, .null, .null]) d_X3_readCondition_3 (by decide) rfl rfl ?_
  refine zv_iconst (pc := 4) d_X3_readCondition_4 zc_i_0 ?_
  refine zx_istore (pc := 5) (x2 := 0) (L2 := [.ref v0, .ref v1, .int 0, .int 1, .int 0, .null]) d_X3_readCondition_5 (by decide) rfl rfl ?_
  obtain ⟨q25, hq25, hf⟩ := zw_bdE hf
  refine zx_weak (L' := [.ref v0, .ref v1, .int 0, .int 1, .int 0, .null]) (zw_leS (zw_leS (zw_leS (zw_leS (zw_leS (zw_leN zw_leZ)))))) (s_X3_readCondition_7_lp X P v0 v1 R J _ _ _ hq25 ?_)
  show zy_V X M_X3_readCondition 19 P 124 [.null, .null, .null, .null, .null, .null] [] (q25, R, J)
  cases hf
  exact zx_vret (pc := 124) d_X3_readCondition_124 rfl hk
