abbrev M_X11_cell : zw_M := (⟨"CutStonesModel", "cell", "(ZIII)I"⟩, prog_13_method_53_code, 6, (Option.some Jvm.ClassFile.FieldType.int))
theorem d_X11_cell_0 : decode M_X11_cell.2.1 0 = .ok (.aload_n 0, 1) := by decide +kernel
theorem d_X11_cell_1 : decode M_X11_cell.2.1 1 = .ok (.iload_n 1, 1) := by decide +kernel
theorem d_X11_cell_2 : decode M_X11_cell.2.1 2 = .ok (.iload_n 2, 1) := by decide +kernel
theorem d_X11_cell_3 : decode M_X11_cell.2.1 3 = .ok (.invokevirtual 383, 3) := by decide +kernel
theorem d_X11_cell_6 : decode M_X11_cell.2.1 6 = .ok (.istore 5, 2) := by decide +kernel
theorem d_X11_cell_8 : decode M_X11_cell.2.1 8 = .ok (.iload 5, 2) := by decide +kernel
theorem d_X11_cell_10 : decode M_X11_cell.2.1 10 = .ok (.iconst (-1), 1) := by decide +kernel
theorem d_X11_cell_11 : decode M_X11_cell.2.1 11 = .ok (.if_icmp .eq 38, 3) := by decide +kernel
theorem d_X11_cell_14 : decode M_X11_cell.2.1 14 = .ok (.iload_n 3, 1) := by decide +kernel
theorem d_X11_cell_15 : decode M_X11_cell.2.1 15 = .ok (.iconst 0, 1) := by decide +kernel
theorem d_X11_cell_16 : decode M_X11_cell.2.1 16 = .ok (.aload_n 0, 1) := by decide +kernel
theorem d_X11_cell_17 : decode M_X11_cell.2.1 17 = .ok (.getfield 64, 3) := by decide +kernel
theorem d_X11_cell_20 : decode M_X11_cell.2.1 20 = .ok (.iload 5, 2) := by decide +kernel
theorem d_X11_cell_22 : decode M_X11_cell.2.1 22 = .ok (.iaload, 1) := by decide +kernel
theorem d_X11_cell_23 : decode M_X11_cell.2.1 23 = .ok (.iconst 1, 1) := by decide +kernel
theorem d_X11_cell_24 : decode M_X11_cell.2.1 24 = .ok (.isub, 1) := by decide +kernel
theorem d_X11_cell_25 : decode M_X11_cell.2.1 25 = .ok (.invokestatic 373, 3) := by decide +kernel
theorem d_X11_cell_28 : decode M_X11_cell.2.1 28 = .ok (.ifCond .eq 21, 3) := by decide +kernel
theorem d_X11_cell_31 : decode M_X11_cell.2.1 31 = .ok (.iload 4, 2) := by decide +kernel
theorem d_X11_cell_33 : decode M_X11_cell.2.1 33 = .ok (.iconst 0, 1) := by decide +kernel
theorem d_X11_cell_34 : decode M_X11_cell.2.1 34 = .ok (.aload_n 0, 1) := by decide +kernel
theorem d_X11_cell_35 : decode M_X11_cell.2.1 35 = .ok (.getfield 67, 3) := by decide +kernel
theorem d_X11_cell_38 : decode M_X11_cell.2.1 38 = .ok (.iload 5, 2) := by decide +kernel
theorem d_X11_cell_40 : decode M_X11_cell.2.1 40 = .ok (.iaload, 1) := by decide +kernel
theorem d_X11_cell_41 : decode M_X11_cell.2.1 41 = .ok (.iconst 1, 1) := by decide +kernel
theorem d_X11_cell_42 : decode M_X11_cell.2.1 42 = .ok (.isub, 1) := by decide +kernel
theorem d_X11_cell_43 : decode M_X11_cell.2.1 43 = .ok (.invokestatic 373, 3) := by decide +kernel
theorem d_X11_cell_46 : decode M_X11_cell.2.1 46 = .ok (.ifCond .ne 7, 3) := by decide +kernel
theorem d_X11_cell_49 : decode M_X11_cell.2.1 49 = .ok (.iconst (-1), 1) := by decide +kernel
theorem d_X11_cell_50 : decode M_X11_cell.2.1 50 = .ok (.goto 12, 3) := by decide +kernel
theorem d_X11_cell_53 : decode M_X11_cell.2.1 53 = .ok (.aload_n 0, 1) := by decide +kernel
theorem d_X11_cell_54 : decode M_X11_cell.2.1 54 = .ok (.iload 5, 2) := by decide +kernel
theorem d_X11_cell_56 : decode M_X11_cell.2.1 56 = .ok (.iload_n 3, 1) := by decide +kernel
theorem d_X11_cell_57 : decode M_X11_cell.2.1 57 = .ok (.iload 4, 2) := by decide +kernel
theorem d_X11_cell_59 : decode M_X11_cell.2.1 59 = .ok (.invokevirtual 352, 3) := by decide +kernel
theorem d_X11_cell_62 : decode M_X11_cell.2.1 62 = .ok (.ireturn, 1) := by decide +kernel
theorem ce_X11_cell : zw_CeV M_X11_cell 4 := ⟨⟨⟨by decide +kernel, by decide +kernel, by decide +kernel⟩, (zw_mG (List.mem_of_getElem? (i := 1540) (by decide +kernel)) rfl), (zw_mG (List.mem_of_getElem? (i := 108) (by decide +kernel)) rfl), by decide, by decide +kernel⟩, (zw_mG (List.mem_of_getElem? (i := 1538) (by decide +kernel)) rfl), (zw_mG (List.mem_of_getElem? (i := 1539) (by decide +kernel)) rfl)⟩
def j_X11_cell_49  (I : zI) (R : zR) : Option (Int32) :=
  some (-1)
theorem j_X11_cell_49_ok (X : zw_X) (P : Option Value → aS → Prop)  (I : zI) (R : zR) (J : zJ) (o : Int32) (hf : j_X11_cell_49 I R = some o) (hk : P (some (.int o)) (I, R, J)) : zy_V X M_X11_cell 3 P 49 [.null, .null, .null, .null, .null, .null] [] (I, R, J) := by
  unfold j_X11_cell_49 at hf
  refine zv_iconst (pc := 49) d_X11_cell_49 zc_i_m1 ?_
  refine zv_goto (pc := 50) (tg := 62) d_X11_cell_50 (by decide) ?_
  cases hf
  exact zx_iret (pc := 62) d_X11_cell_62 rfl hk
def f_X11_cell (v0 : Nat) (v1 : Int32) (v2 : Int32) (v3 : Int32) (v4 : Int32) (I : zI) (R : zR) : Option (Int32) :=
  zw_g (zw_gc v0 11) ((f_X11_row v0 v1 v2 I R).bind fun q2 => (if q2 = (-1) then j_X11_cell_49 I R else zw_g (zw_gc (R v0 28) 13) (zw_g (zw_in q2 (zw_SH (R v0 28)).2) ((f_X11_in v3 0 ((I (R v0 28) (Int32.toNatClampNeg q2)) - 1)).bind fun q6 => (if q6 = 0 then j_X11_cell_49 I R else zw_g (zw_gc (R v0 29) 13) (zw_g (zw_in q2 (zw_SH (R v0 29)).2) ((f_X11_in v4 0 ((I (R v0 29) (Int32.toNatClampNeg q2)) - 1)).bind fun q10 => (if ¬ q10 = 0 then (f_X11_cellAt v0 q2 v3 v4 I R).bind fun q12 => (some q12) else j_X11_cell_49 I R))))))))
theorem c_X11_cell (X : zw_X) (v0 : Nat) (v1 : Int32) (v2 : Int32) (v3 : Int32) (v4 : Int32) (I : zI) (R : zR) (J : zJ) {P : Option Value → aS → Prop} (o : Int32) (hf : f_X11_cell v0 v1 v2 v3 v4 I R = some o) (hk : P (some (.int o)) (I, R, J)) : zw_C X M_X11_cell 3 0 0 199 [.ref v0, .int v1, .int v2, .int v3, .int v4] (I, R, J) P := by
  show zy_V X M_X11_cell 3 P 0 [.ref v0, .int v1, .int v2, .int v3, .int v4, .null] [] (I, R, J)
  unfold f_X11_cell at hf
  refine zv_aload_n (pc := 0) d_X11_cell_0 rfl ?_
  refine zv_iload_n (pc := 1) d_X11_cell_1 rfl ?_
  refine zv_iload_n (pc := 2) d_X11_cell_2 rfl ?_
  obtain ⟨g1, hf⟩ := zw_gcE hf (by decide)
  obtain ⟨q2, hq2, hf⟩ := zw_bdE hf
  refine zx_callV (pc := 3) (As := [.int v1, .int v2]) (o := v0) (st := []) (d2 := 2) (M2 := M_X11_row) (P2 := (fun r S => r = (some (.int q2)) ∧ S = (I, R, J))) d_X11_cell_3 (zw_mG (List.mem_of_getElem? (i := 1514) (by decide +kernel)) rfl) ce_X11_row (zw_RvK g1 rfl rfl) (Nat.le_of_ble_eq_true rfl) rfl (Nat.le_of_ble_eq_true rfl) (by decide) (c_X11_row X v0 v1 v2 I R J _ hq2 ⟨rfl, rfl⟩) ?_
  rintro _ _ ⟨rfl, rfl⟩
  show zy_V X M_X11_cell 3 P (3 + 3) [.ref v0, .int v1, .int v2, .int v3, .int v4, .null] [.int q2] (I, R, J)
  refine zx_istore (pc := 6) (x2 := q2) (L2 := [.ref v0, .int v1, .int v2, .int v3, .int v4, .int q2]) d_X11_cell_6 (by decide) rfl rfl ?_
  refine zv_iload (pc := 8) d_X11_cell_8 rfl ?_
  refine zv_iconst (pc := 10) d_X11_cell_10 zc_i_m1 ?_
  rcases zw_ifE hf with ⟨c3, hf⟩ | ⟨c3, hf⟩
  · refine zv_icmp_eq (pc := 11) (tg := 49) d_X11_cell_11 (by decide) (fun _ => ?_) (fun q => absurd c3 q)
    exact zx_weak (zw_leN (zw_leN (zw_leN (zw_leN (zw_leN (zw_leN zw_leZ)))))) (j_X11_cell_49_ok X P I R J _ hf hk)
  · refine zv_icmp_eq (pc := 11) (tg := 49) d_X11_cell_11 (by decide) (fun q => absurd q c3) (fun _ => ?_)
    refine zv_iload_n (pc := 14) d_X11_cell_14 rfl ?_
    refine zv_iconst (pc := 15) d_X11_cell_15 zc_i_0 ?_
    refine zv_aload_n (pc := 16) d_X11_cell_16 rfl ?_
    obtain ⟨g4, hf⟩ := zw_gcE hf (by decide)
    refine zx_getR (pc := 17) d_X11_cell_17 lk_CutStonesModel_64 (by decide) g1 g4 ?_
    refine zv_iload (pc := 20) d_X11_cell_20 rfl ?_
    obtain ⟨i5, hf⟩ := zw_inE hf
    refine zx_iald (pc := 22) d_X11_cell_22 g4 i5 ?_
    refine zv_iconst (pc := 23) d_X11_cell_23 zc_i_1 ?_
    refine zv_isub (pc := 24) d_X11_cell_24 ?_
    obtain ⟨q6, hq6, hf⟩ := zw_bdE hf
    refine zx_callS (pc := 25) (As := [.int v3, .int 0, .int ((I (R v0 28) (Int32.toNatClampNeg q2)) - 1)]) (st := []) (d2 := 0) (M2 := M_X11_in) (P2 := (fun r S => r = (some (.int q6)) ∧ S = (I, R, J))) d_X11_cell_25 (zw_mG (List.mem_of_getElem? (i := 1522) (by decide +kernel)) rfl) ce_X11_in (Nat.le_of_ble_eq_true rfl) rfl (Nat.le_of_ble_eq_true rfl) (by decide) (c_X11_in X v3 0 ((I (R v0 28) (Int32.toNatClampNeg q2)) - 1) I R J _ hq6 ⟨rfl, rfl⟩) ?_
    rintro _ _ ⟨rfl, rfl⟩
    show zy_V X M_X11_cell 3 P (25 + 3) [.ref v0, .int v1, .int v2, .int v3, .int v4, .int q2] [.int q6] (I, R, J)
    rcases zw_ifE hf with ⟨c7, hf⟩ | ⟨c7, hf⟩
    · refine zv_if_eq (pc := 28) (tg := 49) d_X11_cell_28 (by decide) (fun _ => ?_) (fun q => absurd c7 q)
      exact zx_weak (zw_leN (zw_leN (zw_leN (zw_leN (zw_leN (zw_leN zw_leZ)))))) (j_X11_cell_49_ok X P I R J _ hf hk)
    · refine zv_if_eq (pc := 28) (tg := 49) d_X11_cell_28 (by decide) (fun q => absurd q c7) (fun _ => ?_)
      refine zv_iload (pc := 31) d_X11_cell_31 rfl ?_
      refine zv_iconst (pc := 33) d_X11_cell_33 zc_i_0 ?_
      refine zv_aload_n (pc := 34) d_X11_cell_34 rfl ?_
      obtain ⟨g8, hf⟩ := zw_gcE hf (by decide)
      refine zx_getR (pc := 35) d_X11_cell_35 lk_CutStonesModel_67 (by decide) g1 g8 ?_
      refine zv_iload (pc := 38) d_X11_cell_38 rfl ?_
      obtain ⟨i9, hf⟩ := zw_inE hf
      refine zx_iald (pc := 40) d_X11_cell_40 g8 i9 ?_
      refine zv_iconst (pc := 41) d_X11_cell_41 zc_i_1 ?_
      refine zv_isub (pc := 42) d_X11_cell_42 ?_
      obtain ⟨q10, hq10, hf⟩ := zw_bdE hf
      refine zx_callS (pc := 43) (As := [.int v4, .int 0, .int ((I (R v0 29) (Int32.toNatClampNeg q2)) - 1)]) (st := []) (d2 := 0) (M2 := M_X11_in) (P2 := (fun r S => r = (some (.int q10)) ∧ S = (I, R, J))) d_X11_cell_43 (zw_mG (List.mem_of_getElem? (i := 1522) (by decide +kernel)) rfl) ce_X11_in (Nat.le_of_ble_eq_true rfl) rfl (Nat.le_of_ble_eq_true rfl) (by decide) (c_X11_in X v4 0 ((I (R v0 29) (Int32.toNatClampNeg q2)) - 1) I R J _ hq10 ⟨rfl, rfl⟩) ?_
      rintro _ _ ⟨rfl, rfl⟩
      show zy_V X M_X11_cell 3 P (43 + 3) [.ref v0, .int v1, .int v2, .int v3, .int v4, .int q2] [.int q10] (I, R, J)
      rcases zw_ifE hf with ⟨c11, hf⟩ | ⟨c11, hf⟩
      · refine zv_if_ne (pc := 46) (tg := 53) d_X11_cell_46 (by decide) (fun _ => ?_) (fun q => absurd q c11)
        refine zv_aload_n (pc := 53) d_X11_cell_53 rfl ?_
        refine zv_iload (pc := 54) d_X11_cell_54 rfl ?_
        refine zv_iload_n (pc := 56) d_X11_cell_56 rfl ?_
        refine zv_iload (pc := 57) d_X11_cell_57 rfl ?_
        obtain ⟨q12, hq12, hf⟩ := zw_bdE hf
        refine zx_callV (pc := 59) (As := [.int q2, .int v3, .int v4]) (o := v0) (st := []) (d2 := 0) (M2 := M_X11_cellAt) (P2 := (fun r S => r = (some (.int q12)) ∧ S = (I, R, J))) d_X11_cell_59 (zw_mG (List.mem_of_getElem? (i := 1533) (by decide +kernel)) rfl) ce_X11_cellAt (zw_RvK g1 rfl rfl) (Nat.le_of_ble_eq_true rfl) rfl (Nat.le_of_ble_eq_true rfl) (by decide) (c_X11_cellAt X v0 q2 v3 v4 I R J _ hq12 ⟨rfl, rfl⟩) ?_
        rintro _ _ ⟨rfl, rfl⟩
        show zy_V X M_X11_cell 3 P (59 + 3) [.ref v0, .int v1, .int v2, .int v3, .int v4, .int q2] [.int q12] (I, R, J)
        cases hf
        exact zx_iret (pc := 62) d_X11_cell_62 rfl hk
      · refine zv_if_ne (pc := 46) (tg := 53) d_X11_cell_46 (by decide) (fun q => absurd q c11) (fun _ => ?_)
        exact zx_weak (zw_leN (zw_leN (zw_leN (zw_leN (zw_leN (zw_leN zw_leZ)))))) (j_X11_cell_49_ok X P I R J _ hf hk)
abbrev M_X11_expression : zw_M := (⟨"CutStonesModel", "expression", "()V"⟩, prog_13_method_31_code, 3, (Option.none : Option Jvm.ClassFile.FieldType))
theorem d_X11_expression_0 : decode M_X11_expression.2.1 0 = .ok (.aload_n 0, 1) := by decide +kernel
theorem d_X11_expression_1 : decode M_X11_expression.2.1 1 = .ok (.iconst 0, 1) := by decide +kernel
theorem d_X11_expression_2 : decode M_X11_expression.2.1 2 = .ok (.putfield 306, 3) := by decide +kernel
theorem d_X11_expression_5 : decode M_X11_expression.2.1 5 = .ok (.aload_n 0, 1) := by decide +kernel
theorem d_X11_expression_6 : decode M_X11_expression.2.1 6 = .ok (.getfield 245, 3) := by decide +kernel
theorem d_X11_expression_9 : decode M_X11_expression.2.1 9 = .ok (.istore_n 1, 1) := by decide +kernel
theorem d_X11_expression_10 : decode M_X11_expression.2.1 10 = .ok (.iconst 1, 1) := by decide +kernel
theorem d_X11_expression_11 : decode M_X11_expression.2.1 11 = .ok (.istore_n 2, 1) := by decide +kernel
theorem d_X11_expression_12 : decode M_X11_expression.2.1 12 = .ok (.iload_n 2, 1) := by decide +kernel
theorem d_X11_expression_13 : decode M_X11_expression.2.1 13 = .ok (.ifCond .eq 259, 3) := by decide +kernel
theorem d_X11_expression_16 : decode M_X11_expression.2.1 16 = .ok (.aload_n 0, 1) := by decide +kernel
theorem d_X11_expression_17 : decode M_X11_expression.2.1 17 = .ok (.getfield 218, 3) := by decide +kernel
theorem d_X11_expression_20 : decode M_X11_expression.2.1 20 = .ok (.ifCond .ne 252, 3) := by decide +kernel
theorem d_X11_expression_23 : decode M_X11_expression.2.1 23 = .ok (.aload_n 0, 1) := by decide +kernel
theorem d_X11_expression_24 : decode M_X11_expression.2.1 24 = .ok (.bipush 6, 2) := by decide +kernel
theorem d_X11_expression_26 : decode M_X11_expression.2.1 26 = .ok (.invokevirtual 236, 3) := by decide +kernel
theorem d_X11_expression_29 : decode M_X11_expression.2.1 29 = .ok (.ifCond .eq 55, 3) := by decide +kernel
theorem d_X11_expression_32 : decode M_X11_expression.2.1 32 = .ok (.aload_n 0, 1) := by decide +kernel
theorem d_X11_expression_33 : decode M_X11_expression.2.1 33 = .ok (.getfield 245, 3) := by decide +kernel
theorem d_X11_expression_36 : decode M_X11_expression.2.1 36 = .ok (.bipush 6, 2) := by decide +kernel
theorem d_X11_expression_38 : decode M_X11_expression.2.1 38 = .ok (.if_icmp .ne 8, 3) := by decide +kernel
theorem d_X11_expression_41 : decode M_X11_expression.2.1 41 = .ok (.aload_n 0, 1) := by decide +kernel
theorem d_X11_expression_42 : decode M_X11_expression.2.1 42 = .ok (.iconst 2, 1) := by decide +kernel
theorem d_X11_expression_43 : decode M_X11_expression.2.1 43 = .ok (.invokevirtual 233, 3) := by decide +kernel
theorem d_X11_expression_46 : decode M_X11_expression.2.1 46 = .ok (.aload_n 0, 1) := by decide +kernel
theorem d_X11_expression_47 : decode M_X11_expression.2.1 47 = .ok (.dup, 1) := by decide +kernel
theorem d_X11_expression_48 : decode M_X11_expression.2.1 48 = .ok (.getfield 245, 3) := by decide +kernel
theorem d_X11_expression_51 : decode M_X11_expression.2.1 51 = .ok (.iconst 1, 1) := by decide +kernel
theorem d_X11_expression_52 : decode M_X11_expression.2.1 52 = .ok (.iadd, 1) := by decide +kernel
theorem d_X11_expression_53 : decode M_X11_expression.2.1 53 = .ok (.putfield 245, 3) := by decide +kernel
theorem d_X11_expression_56 : decode M_X11_expression.2.1 56 = .ok (.aload_n 0, 1) := by decide +kernel
theorem d_X11_expression_57 : decode M_X11_expression.2.1 57 = .ok (.invokevirtual 239, 3) := by decide +kernel
theorem d_X11_expression_60 : decode M_X11_expression.2.1 60 = .ok (.aload_n 0, 1) := by decide +kernel
theorem d_X11_expression_61 : decode M_X11_expression.2.1 61 = .ok (.getfield 116, 3) := by decide +kernel
theorem d_X11_expression_64 : decode M_X11_expression.2.1 64 = .ok (.aload_n 0, 1) := by decide +kernel
theorem d_X11_expression_65 : decode M_X11_expression.2.1 65 = .ok (.getfield 306, 3) := by decide +kernel
theorem d_X11_expression_68 : decode M_X11_expression.2.1 68 = .ok (.bipush 6, 2) := by decide +kernel
theorem d_X11_expression_70 : decode M_X11_expression.2.1 70 = .ok (.iastore, 1) := by decide +kernel
theorem d_X11_expression_71 : decode M_X11_expression.2.1 71 = .ok (.aload_n 0, 1) := by decide +kernel
theorem d_X11_expression_72 : decode M_X11_expression.2.1 72 = .ok (.dup, 1) := by decide +kernel
theorem d_X11_expression_73 : decode M_X11_expression.2.1 73 = .ok (.getfield 306, 3) := by decide +kernel
theorem d_X11_expression_76 : decode M_X11_expression.2.1 76 = .ok (.iconst 1, 1) := by decide +kernel
theorem d_X11_expression_77 : decode M_X11_expression.2.1 77 = .ok (.iadd, 1) := by decide +kernel
theorem d_X11_expression_78 : decode M_X11_expression.2.1 78 = .ok (.putfield 306, 3) := by decide +kernel
theorem d_X11_expression_81 : decode M_X11_expression.2.1 81 = .ok (.goto (-58), 3) := by decide +kernel
theorem d_X11_expression_84 : decode M_X11_expression.2.1 84 = .ok (.aload_n 0, 1) := by decide +kernel
theorem d_X11_expression_85 : decode M_X11_expression.2.1 85 = .ok (.invokevirtual 312, 3) := by decide +kernel
theorem d_X11_expression_88 : decode M_X11_expression.2.1 88 = .ok (.aload_n 0, 1) := by decide +kernel
theorem d_X11_expression_89 : decode M_X11_expression.2.1 89 = .ok (.getfield 218, 3) := by decide +kernel
theorem d_X11_expression_92 : decode M_X11_expression.2.1 92 = .ok (.ifCond .le 4, 3) := by decide +kernel
theorem d_X11_expression_95 : decode M_X11_expression.2.1 95 = .ok (.return_, 1) := by decide +kernel
theorem d_X11_expression_96 : decode M_X11_expression.2.1 96 = .ok (.aload_n 0, 1) := by decide +kernel
theorem d_X11_expression_97 : decode M_X11_expression.2.1 97 = .ok (.bipush 7, 2) := by decide +kernel
theorem d_X11_expression_99 : decode M_X11_expression.2.1 99 = .ok (.invokevirtual 236, 3) := by decide +kernel
theorem d_X11_expression_102 : decode M_X11_expression.2.1 102 = .ok (.ifCond .eq 43, 3) := by decide +kernel
theorem d_X11_expression_105 : decode M_X11_expression.2.1 105 = .ok (.aload_n 0, 1) := by decide +kernel
theorem d_X11_expression_106 : decode M_X11_expression.2.1 106 = .ok (.getfield 245, 3) := by decide +kernel
theorem d_X11_expression_109 : decode M_X11_expression.2.1 109 = .ok (.iload_n 1, 1) := by decide +kernel
theorem d_X11_expression_110 : decode M_X11_expression.2.1 110 = .ok (.if_icmp .le 35, 3) := by decide +kernel
theorem d_X11_expression_113 : decode M_X11_expression.2.1 113 = .ok (.aload_n 0, 1) := by decide +kernel
theorem d_X11_expression_114 : decode M_X11_expression.2.1 114 = .ok (.iconst 0, 1) := by decide +kernel
theorem d_X11_expression_115 : decode M_X11_expression.2.1 115 = .ok (.invokevirtual 315, 3) := by decide +kernel
theorem d_X11_expression_118 : decode M_X11_expression.2.1 118 = .ok (.aload_n 0, 1) := by decide +kernel
theorem d_X11_expression_119 : decode M_X11_expression.2.1 119 = .ok (.dup, 1) := by decide +kernel
theorem d_X11_expression_120 : decode M_X11_expression.2.1 120 = .ok (.getfield 306, 3) := by decide +kernel
theorem d_X11_expression_123 : decode M_X11_expression.2.1 123 = .ok (.iconst 1, 1) := by decide +kernel
theorem d_X11_expression_124 : decode M_X11_expression.2.1 124 = .ok (.isub, 1) := by decide +kernel
theorem d_X11_expression_125 : decode M_X11_expression.2.1 125 = .ok (.putfield 306, 3) := by decide +kernel
theorem d_X11_expression_128 : decode M_X11_expression.2.1 128 = .ok (.aload_n 0, 1) := by decide +kernel
theorem d_X11_expression_129 : decode M_X11_expression.2.1 129 = .ok (.dup, 1) := by decide +kernel
theorem d_X11_expression_130 : decode M_X11_expression.2.1 130 = .ok (.getfield 245, 3) := by decide +kernel
theorem d_X11_expression_133 : decode M_X11_expression.2.1 133 = .ok (.iconst 1, 1) := by decide +kernel
theorem d_X11_expression_134 : decode M_X11_expression.2.1 134 = .ok (.isub, 1) := by decide +kernel
theorem d_X11_expression_135 : decode M_X11_expression.2.1 135 = .ok (.putfield 245, 3) := by decide +kernel
theorem d_X11_expression_138 : decode M_X11_expression.2.1 138 = .ok (.aload_n 0, 1) := by decide +kernel
theorem d_X11_expression_139 : decode M_X11_expression.2.1 139 = .ok (.invokevirtual 239, 3) := by decide +kernel
theorem d_X11_expression_142 : decode M_X11_expression.2.1 142 = .ok (.goto (-46), 3) := by decide +kernel
theorem d_X11_expression_145 : decode M_X11_expression.2.1 145 = .ok (.aload_n 0, 1) := by decide +kernel
theorem d_X11_expression_146 : decode M_X11_expression.2.1 146 = .ok (.bipush 8, 2) := by decide +kernel
theorem d_X11_expression_148 : decode M_X11_expression.2.1 148 = .ok (.invokevirtual 236, 3) := by decide +kernel
theorem d_X11_expression_151 : decode M_X11_expression.2.1 151 = .ok (.ifCond .ne 30, 3) := by decide +kernel
theorem d_X11_expression_154 : decode M_X11_expression.2.1 154 = .ok (.aload_n 0, 1) := by decide +kernel
theorem d_X11_expression_155 : decode M_X11_expression.2.1 155 = .ok (.bipush 9, 2) := by decide +kernel
theorem d_X11_expression_157 : decode M_X11_expression.2.1 157 = .ok (.invokevirtual 236, 3) := by decide +kernel
theorem d_X11_expression_160 : decode M_X11_expression.2.1 160 = .ok (.ifCond .ne 21, 3) := by decide +kernel
theorem d_X11_expression_163 : decode M_X11_expression.2.1 163 = .ok (.aload_n 0, 1) := by decide +kernel
theorem d_X11_expression_164 : decode M_X11_expression.2.1 164 = .ok (.bipush 10, 2) := by decide +kernel
theorem d_X11_expression_166 : decode M_X11_expression.2.1 166 = .ok (.invokevirtual 236, 3) := by decide +kernel
theorem d_X11_expression_169 : decode M_X11_expression.2.1 169 = .ok (.ifCond .ne 12, 3) := by decide +kernel
theorem d_X11_expression_172 : decode M_X11_expression.2.1 172 = .ok (.aload_n 0, 1) := by decide +kernel
theorem d_X11_expression_173 : decode M_X11_expression.2.1 173 = .ok (.bipush 15, 2) := by decide +kernel
theorem d_X11_expression_175 : decode M_X11_expression.2.1 175 = .ok (.invokevirtual 236, 3) := by decide +kernel
theorem d_X11_expression_178 : decode M_X11_expression.2.1 178 = .ok (.ifCond .eq 7, 3) := by decide +kernel
theorem d_X11_expression_181 : decode M_X11_expression.2.1 181 = .ok (.iconst 1, 1) := by decide +kernel
theorem d_X11_expression_182 : decode M_X11_expression.2.1 182 = .ok (.goto 4, 3) := by decide +kernel
theorem d_X11_expression_185 : decode M_X11_expression.2.1 185 = .ok (.iconst 0, 1) := by decide +kernel
theorem d_X11_expression_186 : decode M_X11_expression.2.1 186 = .ok (.istore_n 2, 1) := by decide +kernel
theorem d_X11_expression_187 : decode M_X11_expression.2.1 187 = .ok (.iload_n 2, 1) := by decide +kernel
theorem d_X11_expression_188 : decode M_X11_expression.2.1 188 = .ok (.ifCond .ne 22, 3) := by decide +kernel
theorem d_X11_expression_191 : decode M_X11_expression.2.1 191 = .ok (.aload_n 0, 1) := by decide +kernel
theorem d_X11_expression_192 : decode M_X11_expression.2.1 192 = .ok (.getfield 245, 3) := by decide +kernel
theorem d_X11_expression_195 : decode M_X11_expression.2.1 195 = .ok (.iload_n 1, 1) := by decide +kernel
theorem d_X11_expression_196 : decode M_X11_expression.2.1 196 = .ok (.if_icmp .le 8, 3) := by decide +kernel
theorem d_X11_expression_199 : decode M_X11_expression.2.1 199 = .ok (.aload_n 0, 1) := by decide +kernel
theorem d_X11_expression_200 : decode M_X11_expression.2.1 200 = .ok (.iconst 1, 1) := by decide +kernel
theorem d_X11_expression_201 : decode M_X11_expression.2.1 201 = .ok (.invokevirtual 233, 3) := by decide +kernel
theorem d_X11_expression_204 : decode M_X11_expression.2.1 204 = .ok (.aload_n 0, 1) := by decide +kernel
theorem d_X11_expression_205 : decode M_X11_expression.2.1 205 = .ok (.iconst 0, 1) := by decide +kernel
theorem d_X11_expression_206 : decode M_X11_expression.2.1 206 = .ok (.invokevirtual 315, 3) := by decide +kernel
theorem d_X11_expression_209 : decode M_X11_expression.2.1 209 = .ok (.return_, 1) := by decide +kernel
theorem d_X11_expression_210 : decode M_X11_expression.2.1 210 = .ok (.aload_n 0, 1) := by decide +kernel
theorem d_X11_expression_211 : decode M_X11_expression.2.1 211 = .ok (.aload_n 0, 1) := by decide +kernel
theorem d_X11_expression_212 : decode M_X11_expression.2.1 212 = .ok (.bipush 10, 2) := by decide +kernel
theorem d_X11_expression_214 : decode M_X11_expression.2.1 214 = .ok (.invokevirtual 236, 3) := by decide +kernel
theorem d_X11_expression_217 : decode M_X11_expression.2.1 217 = .ok (.ifCond .ne 12, 3) := by decide +kernel
theorem d_X11_expression_220 : decode M_X11_expression.2.1 220 = .ok (.aload_n 0, 1) := by decide +kernel
theorem d_X11_expression_221 : decode M_X11_expression.2.1 221 = .ok (.bipush 15, 2) := by decide +kernel
theorem d_X11_expression_223 : decode M_X11_expression.2.1 223 = .ok (.invokevirtual 236, 3) := by decide +kernel
theorem d_X11_expression_226 : decode M_X11_expression.2.1 226 = .ok (.ifCond .eq 7, 3) := by decide +kernel
theorem d_X11_expression_229 : decode M_X11_expression.2.1 229 = .ok (.iconst 1, 1) := by decide +kernel
theorem d_X11_expression_230 : decode M_X11_expression.2.1 230 = .ok (.goto 4, 3) := by decide +kernel
theorem d_X11_expression_233 : decode M_X11_expression.2.1 233 = .ok (.iconst 0, 1) := by decide +kernel
theorem d_X11_expression_234 : decode M_X11_expression.2.1 234 = .ok (.invokevirtual 315, 3) := by decide +kernel
theorem d_X11_expression_237 : decode M_X11_expression.2.1 237 = .ok (.aload_n 0, 1) := by decide +kernel
theorem d_X11_expression_238 : decode M_X11_expression.2.1 238 = .ok (.getfield 116, 3) := by decide +kernel
theorem d_X11_expression_241 : decode M_X11_expression.2.1 241 = .ok (.aload_n 0, 1) := by decide +kernel
theorem d_X11_expression_242 : decode M_X11_expression.2.1 242 = .ok (.getfield 306, 3) := by decide +kernel
theorem d_X11_expression_245 : decode M_X11_expression.2.1 245 = .ok (.aload_n 0, 1) := by decide +kernel
theorem d_X11_expression_246 : decode M_X11_expression.2.1 246 = .ok (.getfield 20, 3) := by decide +kernel
theorem d_X11_expression_249 : decode M_X11_expression.2.1 249 = .ok (.aload_n 0, 1) := by decide +kernel
theorem d_X11_expression_250 : decode M_X11_expression.2.1 250 = .ok (.getfield 221, 3) := by decide +kernel
theorem d_X11_expression_253 : decode M_X11_expression.2.1 253 = .ok (.iaload, 1) := by decide +kernel
theorem d_X11_expression_254 : decode M_X11_expression.2.1 254 = .ok (.iastore, 1) := by decide +kernel
theorem d_X11_expression_255 : decode M_X11_expression.2.1 255 = .ok (.aload_n 0, 1) := by decide +kernel
theorem d_X11_expression_256 : decode M_X11_expression.2.1 256 = .ok (.dup, 1) := by decide +kernel
theorem d_X11_expression_257 : decode M_X11_expression.2.1 257 = .ok (.getfield 306, 3) := by decide +kernel
theorem d_X11_expression_260 : decode M_X11_expression.2.1 260 = .ok (.iconst 1, 1) := by decide +kernel
theorem d_X11_expression_261 : decode M_X11_expression.2.1 261 = .ok (.iadd, 1) := by decide +kernel
theorem d_X11_expression_262 : decode M_X11_expression.2.1 262 = .ok (.putfield 306, 3) := by decide +kernel
theorem d_X11_expression_265 : decode M_X11_expression.2.1 265 = .ok (.aload_n 0, 1) := by decide +kernel
theorem d_X11_expression_266 : decode M_X11_expression.2.1 266 = .ok (.invokevirtual 239, 3) := by decide +kernel
theorem d_X11_expression_269 : decode M_X11_expression.2.1 269 = .ok (.goto (-257), 3) := by decide +kernel
theorem d_X11_expression_272 : decode M_X11_expression.2.1 272 = .ok (.return_, 1) := by decide +kernel
theorem ce_X11_expression : zw_CeV M_X11_expression 0 := ⟨⟨⟨by decide +kernel, by decide +kernel, by decide +kernel⟩, (zw_mG (List.mem_of_getElem? (i := 1489) (by decide +kernel)) rfl), (zw_mG (List.mem_of_getElem? (i := 108) (by decide +kernel)) rfl), by decide, by decide +kernel⟩, (zw_mG (List.mem_of_getElem? (i := 1488) (by decide +kernel)) rfl), (zw_mG (List.mem_of_getElem? (i := 65) (by decide +kernel)) rfl)⟩
def j_X11_expression_46_23 (v0 : Nat) (v1 : Int32) (I : zI) (R : zR) : Option ((zI) ⊕ (zI)) :=
  zw_g (zw_gc v0 11) (zw_let (zw_u I v0 12 ((I v0 12) + 1) : zI) fun I12 => ((f_X11_goesOn v0 I12 R).bind fun q13 => (zw_g (zw_gc (R v0 47) 13) (zw_g (zw_in (q13 v0 48) (zw_SH (R v0 47)).2) (zw_let (zw_u q13 (R v0 47) (Int32.toNatClampNeg (q13 v0 48)) 6 : zI) fun I16 => (zw_let (zw_u I16 v0 48 ((I16 v0 48) + 1) : zI) fun I17 => (some (.inl I17))))))))
theorem j_X11_expression_46_23_ok (X : zw_X) (P : Option Value → aS → Prop) (v0 : Nat) (v1 : Int32) (I : zI) (R : zR) (J : zJ) (o : (zI) ⊕ (zI)) (hf : j_X11_expression_46_23 v0 v1 I R = some o) (hk : (zw_se (fun t => zy_V X M_X11_expression 3 P 23 [.ref v0, .int v1, .null] [] (t, R, J)) (fun r => zy_V X M_X11_expression 3 P 84 [.ref v0, .int v1, .null] [] (r, R, J)) o)) : zy_V X M_X11_expression 3 P 46 [.ref v0, .int v1, .null] [] (I, R, J) := by
  unfold j_X11_expression_46_23 at hf
  refine zv_aload_n (pc := 46) d_X11_expression_46 rfl ?_
  refine zv_dup (pc := 47) d_X11_expression_47 rfl ?_
  obtain ⟨g11, hf⟩ := zw_gcE hf (by decide)
  refine zx_getI (pc := 48) d_X11_expression_48 lk_CutStonesModel_245 (by decide) g11 ?_
  refine zv_iconst (pc := 51) d_X11_expression_51 zc_i_1 ?_
  refine zv_iadd (pc := 52) d_X11_expression_52 ?_
  obtain ⟨I12, eI12, hf⟩ := zw_letE hf
  refine zx_putI (pc := 53) (I2 := I12) d_X11_expression_53 lk_CutStonesModel_245 rfl g11 eI12 ?_
  refine zv_aload_n (pc := 56) d_X11_expression_56 rfl ?_
  obtain ⟨q13, hq13, hf⟩ := zw_bdE hf
  refine zx_callV (pc := 57) (As := []) (o := v0) (st := []) (d2 := 1) (M2 := M_X11_goesOn) (P2 := (fun r S => r = none ∧ S = (q13, R, J))) d_X11_expression_57 (zw_mG (List.mem_of_getElem? (i := 1458) (by decide +kernel)) rfl) ce_X11_goesOn (zw_RvK g11 rfl rfl) (Nat.le_of_ble_eq_true rfl) rfl (Nat.le_of_ble_eq_true rfl) (by decide) (c_X11_goesOn X v0 I12 R J _ hq13 ⟨rfl, rfl⟩) ?_
  rintro _ _ ⟨rfl, rfl⟩
  show zy_V X M_X11_expression 3 P (57 + 3) [.ref v0, .int v1, .null] [] (q13, R, J)
  refine zv_aload_n (pc := 60) d_X11_expression_60 rfl ?_
  obtain ⟨g14, hf⟩ := zw_gcE hf (by decide)
  refine zx_getR (pc := 61) d_X11_expression_61 lk_CutStonesModel_116 (by decide) g11 g14 ?_
  refine zv_aload_n (pc := 64) d_X11_expression_64 rfl ?_
  refine zx_getI (pc := 65) d_X11_expression_65 lk_CutStonesModel_306 (by decide) g11 ?_
  refine zv_bipush (pc := 68) d_X11_expression_68 zc_b_6 ?_
  obtain ⟨i15, hf⟩ := zw_inE hf
  obtain ⟨I16, eI16, hf⟩ := zw_letE hf
  refine zx_iast (pc := 70) (I2 := I16) d_X11_expression_70 g14 i15 eI16 ?_
  refine zv_aload_n (pc := 71) d_X11_expression_71 rfl ?_
  refine zv_dup (pc := 72) d_X11_expression_72 rfl ?_
  refine zx_getI (pc := 73) d_X11_expression_73 lk_CutStonesModel_306 (by decide) g11 ?_
  refine zv_iconst (pc := 76) d_X11_expression_76 zc_i_1 ?_
  refine zv_iadd (pc := 77) d_X11_expression_77 ?_
  obtain ⟨I17, eI17, hf⟩ := zw_letE hf
  refine zx_putI (pc := 78) (I2 := I17) d_X11_expression_78 lk_CutStonesModel_306 rfl g11 eI17 ?_
  refine zv_goto (pc := 81) (tg := 23) d_X11_expression_81 (by decide) ?_
  cases hf
  exact zx_weak (zw_leS (zw_leS (zw_leN zw_leZ))) hk
def s_X11_expression_23 (v0 : Nat) (v1 : Int32) (R : zR) (s : zI) : Option ((zI) ⊕ (zI)) :=
  zw_g (zw_gc v0 11) ((f_X11_is v0 6 s R).bind fun q8 => (if q8 = 0 then some (.inr s) else if ¬ (s v0 12) = 6 then j_X11_expression_46_23 v0 v1 s R else (f_X11_fail v0 2 s R).bind fun q18 => (j_X11_expression_46_23 v0 v1 q18 R)))
theorem s_X11_expression_23_ok (X : zw_X) (P : Option Value → aS → Prop) (v0 : Nat) (v1 : Int32) (R : zR) (J : zJ) (s : zI) (o : (zI) ⊕ (zI)) (hf : s_X11_expression_23 v0 v1 R s = some o) (hk : (zw_se (fun t => zy_V X M_X11_expression 3 P 23 [.ref v0, .int v1, .null] [] (t, R, J)) (fun r => zy_V X M_X11_expression 3 P 84 [.ref v0, .int v1, .null] [] (r, R, J)) o)) : zy_V X M_X11_expression 3 P 23 [.ref v0, .int v1, .null] [] (s, R, J) := by
  unfold s_X11_expression_23 at hf
  refine zv_aload_n (pc := 23) d_X11_expression_23 rfl ?_
  refine zv_bipush (pc := 24) d_X11_expression_24 zc_b_6 ?_
  obtain ⟨g7, hf⟩ := zw_gcE hf (by decide)
  obtain ⟨q8, hq8, hf⟩ := zw_bdE hf
  refine zx_callV (pc := 26) (As := [.int 6]) (o := v0) (st := []) (d2 := 0) (M2 := M_X11_is) (P2 := (fun r S => r = (some (.int q8)) ∧ S = (s, R, J))) d_X11_expression_26 (zw_mG (List.mem_of_getElem? (i := 1442) (by decide +kernel)) rfl) ce_X11_is (zw_RvK g7 rfl rfl) (Nat.le_of_ble_eq_true rfl) rfl (Nat.le_of_ble_eq_true rfl) (by decide) (c_X11_is X v0 6 s R J _ hq8 ⟨rfl, rfl⟩) ?_
  rintro _ _ ⟨rfl, rfl⟩
  show zy_V X M_X11_expression 3 P (26 + 3) [.ref v0, .int v1, .null] [.int q8] (s, R, J)
  rcases zw_ifE hf with ⟨c9, hf⟩ | ⟨c9, hf⟩
  · refine zv_if_eq (pc := 29) (tg := 84) d_X11_expression_29 (by decide) (fun _ => ?_) (fun q => absurd c9 q)
    cases hf
    exact zx_weak (zw_leS (zw_leS (zw_leN zw_leZ))) hk
  · refine zv_if_eq (pc := 29) (tg := 84) d_X11_expression_29 (by decide) (fun q => absurd q c9) (fun _ => ?_)
    refine zv_aload_n (pc := 32) d_X11_expression_32 rfl ?_
    refine zx_getI (pc := 33) d_X11_expression_33 lk_CutStonesModel_245 (by decide) g7 ?_
    refine zv_bipush (pc := 36) d_X11_expression_36 zc_b_6 ?_
    rcases zw_ifE hf with ⟨c10, hf⟩ | ⟨c10, hf⟩
    · refine zv_icmp_ne (pc := 38) (tg := 46) d_X11_expression_38 (by decide) (fun _ => ?_) (fun q => absurd q c10)
      exact zx_weak (zw_leS (zw_leS (zw_leN zw_leZ))) (j_X11_expression_46_23_ok X P v0 v1 s R J _ hf hk)
    · refine zv_icmp_ne (pc := 38) (tg := 46) d_X11_expression_38 (by decide) (fun q => absurd q c10) (fun _ => ?_)
      refine zv_aload_n (pc := 41) d_X11_expression_41 rfl ?_
      refine zv_iconst (pc := 42) d_X11_expression_42 zc_i_2 ?_
      obtain ⟨q18, hq18, hf⟩ := zw_bdE hf
      refine zx_callV (pc := 43) (As := [.int 2]) (o := v0) (st := []) (d2 := 0) (M2 := M_X11_fail) (P2 := (fun r S => r = none ∧ S = (q18, R, J))) d_X11_expression_43 (zw_mG (List.mem_of_getElem? (i := 1450) (by decide +kernel)) rfl) ce_X11_fail (zw_RvK g7 rfl rfl) (Nat.le_of_ble_eq_true rfl) rfl (Nat.le_of_ble_eq_true rfl) (by decide) (c_X11_fail X v0 2 s R J _ hq18 ⟨rfl, rfl⟩) ?_
      rintro _ _ ⟨rfl, rfl⟩
      show zy_V X M_X11_expression 3 P (43 + 3) [.ref v0, .int v1, .null] [] (q18, R, J)
      exact zx_weak (zw_leS (zw_leS (zw_leN zw_leZ))) (j_X11_expression_46_23_ok X P v0 v1 q18 R J _ hf hk)
theorem s_X11_expression_23_lp (X : zw_X) (P : Option Value → aS → Prop) (v0 : Nat) (v1 : Int32) (R : zR) (J : zJ) (n : Nat) (s : zI) (r : zI) (h : zw_it (s_X11_expression_23 v0 v1 R) n s = some r) (hq : zy_V X M_X11_expression 3 P 84 [.ref v0, .int v1, .null] [] (r, R, J)) : zy_V X M_X11_expression 3 P 23 [.ref v0, .int v1, .null] [] (s, R, J) :=
  zw_itE (A := (fun t : zI => zy_V X M_X11_expression 3 P 23 [.ref v0, .int v1, .null] [] (t, R, J))) (Q := (fun r : zI => zy_V X M_X11_expression 3 P 84 [.ref v0, .int v1, .null] [] (r, R, J))) (fun s o h1 h2 => s_X11_expression_23_ok X P v0 v1 R J s o h1 h2) n s r h hq
def s_X11_expression_96 (v0 : Nat) (v1 : Int32) (R : zR) (s : zI) : Option ((zI) ⊕ (zI)) :=
  zw_g (zw_gc v0 11) ((f_X11_is v0 7 s R).bind fun q23 => (if q23 = 0 then some (.inr s) else if (s v0 12) ≤ v1 then some (.inr s) else (f_X11_comesOut v0 0 s R).bind fun q26 => (zw_let (zw_u q26 v0 48 ((q26 v0 48) - 1) : zI) fun I27 => (zw_let (zw_u I27 v0 12 ((I27 v0 12) - 1) : zI) fun I28 => ((f_X11_goesOn v0 I28 R).bind fun q29 => (some (.inl q29)))))))
theorem s_X11_expression_96_ok (X : zw_X) (P : Option Value → aS → Prop) (v0 : Nat) (v1 : Int32) (R : zR) (J : zJ) (s : zI) (o : (zI) ⊕ (zI)) (hf : s_X11_expression_96 v0 v1 R s = some o) (hk : (zw_se (fun t => zy_V X M_X11_expression 3 P 96 [.ref v0, .int v1, .null] [] (t, R, J)) (fun r => zy_V X M_X11_expression 3 P 145 [.ref v0, .int v1, .null] [] (r, R, J)) o)) : zy_V X M_X11_expression 3 P 96 [.ref v0, .int v1, .null] [] (s, R, J) := by
  unfold s_X11_expression_96 at hf
  refine zv_aload_n (pc := 96) d_X11_expression_96 rfl ?_
  refine zv_bipush (pc := 97) d_X11_expression_97 zc_b_7 ?_
  obtain ⟨g22, hf⟩ := zw_gcE hf (by decide)
  obtain ⟨q23, hq23, hf⟩ := zw_bdE hf
  refine zx_callV (pc := 99) (As := [.int 7]) (o := v0) (st := []) (d2 := 0) (M2 := M_X11_is) (P2 := (fun r S => r = (some (.int q23)) ∧ S = (s, R, J))) d_X11_expression_99 (zw_mG (List.mem_of_getElem? (i := 1442) (by decide +kernel)) rfl) ce_X11_is (zw_RvK g22 rfl rfl) (Nat.le_of_ble_eq_true rfl) rfl (Nat.le_of_ble_eq_true rfl) (by decide) (c_X11_is X v0 7 s R J _ hq23 ⟨rfl, rfl⟩) ?_
  rintro _ _ ⟨rfl, rfl⟩
  show zy_V X M_X11_expression 3 P (99 + 3) [.ref v0, .int v1, .null] [.int q23] (s, R, J)
  rcases zw_ifE hf with ⟨c24, hf⟩ | ⟨c24, hf⟩
  · refine zv_if_eq (pc := 102) (tg := 145) d_X11_expression_102 (by decide) (fun _ => ?_) (fun q => absurd c24 q)
    cases hf
    exact zx_weak (zw_leS (zw_leS (zw_leN zw_leZ))) hk
  · refine zv_if_eq (pc := 102) (tg := 145) d_X11_expression_102 (by decide) (fun q => absurd q c24) (fun _ => ?_)
    refine zv_aload_n (pc := 105) d_X11_expression_105 rfl ?_
    refine zx_getI (pc := 106) d_X11_expression_106 lk_CutStonesModel_245 (by decide) g22 ?_
    refine zv_iload_n (pc := 109) d_X11_expression_109 rfl ?_
    rcases zw_ifE hf with ⟨c25, hf⟩ | ⟨c25, hf⟩
    · refine zv_icmp_le (pc := 110) (tg := 145) d_X11_expression_110 (by decide) (fun _ => ?_) (fun q => absurd c25 q)
      cases hf
      exact zx_weak (zw_leS (zw_leS (zw_leN zw_leZ))) hk
    · refine zv_icmp_le (pc := 110) (tg := 145) d_X11_expression_110 (by decide) (fun q => absurd q c25) (fun _ => ?_)
      refine zv_aload_n (pc := 113) d_X11_expression_113 rfl ?_
      refine zv_iconst (pc := 114) d_X11_expression_114 zc_i_0 ?_
      obtain ⟨q26, hq26, hf⟩ := zw_bdE hf
      refine zx_callV (pc := 115) (As := [.int 0]) (o := v0) (st := []) (d2 := 1) (M2 := M_X11_comesOut) (P2 := (fun r S => r = none ∧ S = (q26, R, J))) d_X11_expression_115 (zw_mG (List.mem_of_getElem? (i := 1498) (by decide +kernel)) rfl) ce_X11_comesOut (zw_RvK g22 rfl rfl) (Nat.le_of_ble_eq_true rfl) rfl (Nat.le_of_ble_eq_true rfl) (by decide) (c_X11_comesOut X v0 0 s R J _ hq26 ⟨rfl, rfl⟩) ?_
      rintro _ _ ⟨rfl, rfl⟩
      show zy_V X M_X11_expression 3 P (115 + 3) [.ref v0, .int v1, .null] [] (q26, R, J)
      refine zv_aload_n (pc := 118) d_X11_expression_118 rfl ?_
      refine zv_dup (pc := 119) d_X11_expression_119 rfl ?_
      refine zx_getI (pc := 120) d_X11_expression_120 lk_CutStonesModel_306 (by decide) g22 ?_
      refine zv_iconst (pc := 123) d_X11_expression_123 zc_i_1 ?_
      refine zv_isub (pc := 124) d_X11_expression_124 ?_
      obtain ⟨I27, eI27, hf⟩ := zw_letE hf
      refine zx_putI (pc := 125) (I2 := I27) d_X11_expression_125 lk_CutStonesModel_306 rfl g22 eI27 ?_
      refine zv_aload_n (pc := 128) d_X11_expression_128 rfl ?_
      refine zv_dup (pc := 129) d_X11_expression_129 rfl ?_
      refine zx_getI (pc := 130) d_X11_expression_130 lk_CutStonesModel_245 (by decide) g22 ?_
      refine zv_iconst (pc := 133) d_X11_expression_133 zc_i_1 ?_
      refine zv_isub (pc := 134) d_X11_expression_134 ?_
      obtain ⟨I28, eI28, hf⟩ := zw_letE hf
      refine zx_putI (pc := 135) (I2 := I28) d_X11_expression_135 lk_CutStonesModel_245 rfl g22 eI28 ?_
      refine zv_aload_n (pc := 138) d_X11_expression_138 rfl ?_
      obtain ⟨q29, hq29, hf⟩ := zw_bdE hf
      refine zx_callV (pc := 139) (As := []) (o := v0) (st := []) (d2 := 1) (M2 := M_X11_goesOn) (P2 := (fun r S => r = none ∧ S = (q29, R, J))) d_X11_expression_139 (zw_mG (List.mem_of_getElem? (i := 1458) (by decide +kernel)) rfl) ce_X11_goesOn (zw_RvK g22 rfl rfl) (Nat.le_of_ble_eq_true rfl) rfl (Nat.le_of_ble_eq_true rfl) (by decide) (c_X11_goesOn X v0 I28 R J _ hq29 ⟨rfl, rfl⟩) ?_
      rintro _ _ ⟨rfl, rfl⟩
      show zy_V X M_X11_expression 3 P (139 + 3) [.ref v0, .int v1, .null] [] (q29, R, J)
      refine zv_goto (pc := 142) (tg := 96) d_X11_expression_142 (by decide) ?_
      cases hf
      exact zx_weak (zw_leS (zw_leS (zw_leN zw_leZ))) hk
theorem s_X11_expression_96_lp (X : zw_X) (P : Option Value → aS → Prop) (v0 : Nat) (v1 : Int32) (R : zR) (J : zJ) (n : Nat) (s : zI) (r : zI) (h : zw_it (s_X11_expression_96 v0 v1 R) n s = some r) (hq : zy_V X M_X11_expression 3 P 145 [.ref v0, .int v1, .null] [] (r, R, J)) : zy_V X M_X11_expression 3 P 96 [.ref v0, .int v1, .null] [] (s, R, J) :=
  zw_itE (A := (fun t : zI => zy_V X M_X11_expression 3 P 96 [.ref v0, .int v1, .null] [] (t, R, J))) (Q := (fun r : zI => zy_V X M_X11_expression 3 P 145 [.ref v0, .int v1, .null] [] (r, R, J))) (fun s o h1 h2 => s_X11_expression_96_ok X P v0 v1 R J s o h1 h2) n s r h hq
def j_X11_expression_234_12 (v0 : Nat) (v1 : Int32) (v2 : Int32) (s0 : Nat) (s1 : Int32) (I : zI) (R : zR) : Option ((Int32 × zI) ⊕ ((zI) ⊕ ((zI) ⊕ (zI)))) :=
  zw_g (zw_gc s0 11) ((f_X11_comesOut s0 s1 I R).bind fun q39 => (zw_g (zw_gc v0 11) (zw_g (zw_gc (R v0 47) 13) (zw_g (zw_gc (R v0 5) 13) (zw_g (zw_in (q39 v0 11) (zw_SH (R v0 5)).2) (zw_g (zw_in (q39 v0 48) (zw_SH (R v0 47)).2) (zw_let (zw_u q39 (R v0 47) (Int32.toNatClampNeg (q39 v0 48)) (q39 (R v0 5) (Int32.toNatClampNeg (q39 v0 11))) : zI) fun I45 => (zw_let (zw_u I45 v0 48 ((I45 v0 48) + 1) : zI) fun I46 => ((f_X11_goesOn v0 I46 R).bind fun q47 => (some (.inl (v2, q47))))))))))))
theorem j_X11_expression_234_12_ok (X : zw_X) (P : Option Value → aS → Prop) (v0 : Nat) (v1 : Int32) (v2 : Int32) (s0 : Nat) (s1 : Int32) (I : zI) (R : zR) (J : zJ) (o : (Int32 × zI) ⊕ ((zI) ⊕ ((zI) ⊕ (zI)))) (hf : j_X11_expression_234_12 v0 v1 v2 s0 s1 I R = some o) (hk : (zw_se (fun t => zy_V X M_X11_expression 3 P 12 [.ref v0, .int v1, .int t.1] [] (t.2, R, J)) (fun r => (zw_se (fun r0 => zy_V X M_X11_expression 3 P 272 [.null, .null, .null] [] (r0, R, J)) (fun t0 => (zw_se (fun r1 => zy_V X M_X11_expression 3 P 95 [.null, .null, .null] [] (r1, R, J)) (fun t1 => zy_V X M_X11_expression 3 P 191 [.ref v0, .int v1, .null] [] (t1, R, J)) t0)) r)) o)) : zy_V X M_X11_expression 3 P 234 [.ref v0, .int v1, .int v2] [.int s1, .ref s0] (I, R, J) := by
  unfold j_X11_expression_234_12 at hf
  obtain ⟨g38, hf⟩ := zw_gcE hf (by decide)
  obtain ⟨q39, hq39, hf⟩ := zw_bdE hf
  refine zx_callV (pc := 234) (As := [.int s1]) (o := s0) (st := []) (d2 := 1) (M2 := M_X11_comesOut) (P2 := (fun r S => r = none ∧ S = (q39, R, J))) d_X11_expression_234 (zw_mG (List.mem_of_getElem? (i := 1498) (by decide +kernel)) rfl) ce_X11_comesOut (zw_RvK g38 rfl rfl) (Nat.le_of_ble_eq_true rfl) rfl (Nat.le_of_ble_eq_true rfl) (by decide) (c_X11_comesOut X s0 s1 I R J _ hq39 ⟨rfl, rfl⟩) ?_
  rintro _ _ ⟨rfl, rfl⟩
  show zy_V X M_X11_expression 3 P (234 + 3) [.ref v0, .int v1, .int v2] [] (q39, R, J)
  refine zv_aload_n (pc := 237) d_X11_expression_237 rfl ?_
  obtain ⟨g40, hf⟩ := zw_gcE hf (by decide)
  obtain ⟨g41, hf⟩ := zw_gcE hf (by decide)
  refine zx_getR (pc := 238) d_X11_expression_238 lk_CutStonesModel_116 (by decide) g40 g41 ?_
  refine zv_aload_n (pc := 241) d_X11_expression_241 rfl ?_
  refine zx_getI (pc := 242) d_X11_expression_242 lk_CutStonesModel_306 (by decide) g40 ?_
  refine zv_aload_n (pc := 245) d_X11_expression_245 rfl ?_
  obtain ⟨g42, hf⟩ := zw_gcE hf (by decide)
  refine zx_getR (pc := 246) d_X11_expression_246 lk_CutStonesModel_20 (by decide) g40 g42 ?_
  refine zv_aload_n (pc := 249) d_X11_expression_249 rfl ?_
  refine zx_getI (pc := 250) d_X11_expression_250 lk_CutStonesModel_221 (by decide) g40 ?_
  obtain ⟨i43, hf⟩ := zw_inE hf
  refine zx_iald (pc := 253) d_X11_expression_253 g42 i43 ?_
  obtain ⟨i44, hf⟩ := zw_inE hf
  obtain ⟨I45, eI45, hf⟩ := zw_letE hf
  refine zx_iast (pc := 254) (I2 := I45) d_X11_expression_254 g41 i44 eI45 ?_
  refine zv_aload_n (pc := 255) d_X11_expression_255 rfl ?_
  refine zv_dup (pc := 256) d_X11_expression_256 rfl ?_
  refine zx_getI (pc := 257) d_X11_expression_257 lk_CutStonesModel_306 (by decide) g40 ?_
  refine zv_iconst (pc := 260) d_X11_expression_260 zc_i_1 ?_
  refine zv_iadd (pc := 261) d_X11_expression_261 ?_
  obtain ⟨I46, eI46, hf⟩ := zw_letE hf
  refine zx_putI (pc := 262) (I2 := I46) d_X11_expression_262 lk_CutStonesModel_306 rfl g40 eI46 ?_
  refine zv_aload_n (pc := 265) d_X11_expression_265 rfl ?_
  obtain ⟨q47, hq47, hf⟩ := zw_bdE hf
  refine zx_callV (pc := 266) (As := []) (o := v0) (st := []) (d2 := 1) (M2 := M_X11_goesOn) (P2 := (fun r S => r = none ∧ S = (q47, R, J))) d_X11_expression_266 (zw_mG (List.mem_of_getElem? (i := 1458) (by decide +kernel)) rfl) ce_X11_goesOn (zw_RvK g40 rfl rfl) (Nat.le_of_ble_eq_true rfl) rfl (Nat.le_of_ble_eq_true rfl) (by decide) (c_X11_goesOn X v0 I46 R J _ hq47 ⟨rfl, rfl⟩) ?_
  rintro _ _ ⟨rfl, rfl⟩
  show zy_V X M_X11_expression 3 P (266 + 3) [.ref v0, .int v1, .int v2] [] (q47, R, J)
  refine zv_goto (pc := 269) (tg := 12) d_X11_expression_269 (by decide) ?_
  cases hf
  exact zx_weak (zw_leS (zw_leS (zw_leS zw_leZ))) hk
def j_X11_expression_229_12 (v0 : Nat) (v1 : Int32) (v2 : Int32) (s0 : Nat) (I : zI) (R : zR) : Option ((Int32 × zI) ⊕ ((zI) ⊕ ((zI) ⊕ (zI)))) :=
  j_X11_expression_234_12 v0 v1 v2 s0 1 I R
theorem j_X11_expression_229_12_ok (X : zw_X) (P : Option Value → aS → Prop) (v0 : Nat) (v1 : Int32) (v2 : Int32) (s0 : Nat) (I : zI) (R : zR) (J : zJ) (o : (Int32 × zI) ⊕ ((zI) ⊕ ((zI) ⊕ (zI)))) (hf : j_X11_expression_229_12 v0 v1 v2 s0 I R = some o) (hk : (zw_se (fun t => zy_V X M_X11_expression 3 P 12 [.ref v0, .int v1, .int t.1] [] (t.2, R, J)) (fun r => (zw_se (fun r0 => zy_V X M_X11_expression 3 P 272 [.null, .null, .null] [] (r0, R, J)) (fun t0 => (zw_se (fun r1 => zy_V X M_X11_expression 3 P 95 [.null, .null, .null] [] (r1, R, J)) (fun t1 => zy_V X M_X11_expression 3 P 191 [.ref v0, .int v1, .null] [] (t1, R, J)) t0)) r)) o)) : zy_V X M_X11_expression 3 P 229 [.ref v0, .int v1, .int v2] [.ref s0] (I, R, J) := by
  unfold j_X11_expression_229_12 at hf
  refine zv_iconst (pc := 229) d_X11_expression_229 zc_i_1 ?_
  refine zv_goto (pc := 230) (tg := 234) d_X11_expression_230 (by decide) ?_
  exact zx_weak (zw_leS (zw_leS (zw_leS zw_leZ))) (j_X11_expression_234_12_ok X P v0 v1 v2 s0 1 I R J _ hf hk)
def j_X11_expression_186_12 (v0 : Nat) (v1 : Int32) (s0 : Int32) (I : zI) (R : zR) : Option ((Int32 × zI) ⊕ ((zI) ⊕ ((zI) ⊕ (zI)))) :=
  if ¬ s0 = 0 then zw_g (zw_gc v0 11) ((f_X11_is v0 10 I R).bind fun q36 => (if ¬ q36 = 0 then j_X11_expression_229_12 v0 v1 s0 v0 I R else (f_X11_is v0 15 I R).bind fun q48 => (if q48 = 0 then j_X11_expression_234_12 v0 v1 s0 v0 0 I R else j_X11_expression_229_12 v0 v1 s0 v0 I R))) else some (.inr (.inr (.inr I)))
theorem j_X11_expression_186_12_ok (X : zw_X) (P : Option Value → aS → Prop) (v0 : Nat) (v1 : Int32) (s0 : Int32) (I : zI) (R : zR) (J : zJ) (o : (Int32 × zI) ⊕ ((zI) ⊕ ((zI) ⊕ (zI)))) (hf : j_X11_expression_186_12 v0 v1 s0 I R = some o) (hk : (zw_se (fun t => zy_V X M_X11_expression 3 P 12 [.ref v0, .int v1, .int t.1] [] (t.2, R, J)) (fun r => (zw_se (fun r0 => zy_V X M_X11_expression 3 P 272 [.null, .null, .null] [] (r0, R, J)) (fun t0 => (zw_se (fun r1 => zy_V X M_X11_expression 3 P 95 [.null, .null, .null] [] (r1, R, J)) (fun t1 => zy_V X M_X11_expression 3 P 191 [.ref v0, .int v1, .null] [] (t1, R, J)) t0)) r)) o)) : zy_V X M_X11_expression 3 P 186 [.ref v0, .int v1, .null] [.int s0] (I, R, J) := by
  unfold j_X11_expression_186_12 at hf
  refine zx_istore_n (pc := 186) (x2 := s0) (L2 := [.ref v0, .int v1, .int s0]) d_X11_expression_186 (by decide) rfl rfl ?_
  refine zv_iload_n (pc := 187) d_X11_expression_187 rfl ?_
  rcases zw_ifE hf with ⟨c34, hf⟩ | ⟨c34, hf⟩
  · refine zv_if_ne (pc := 188) (tg := 210) d_X11_expression_188 (by decide) (fun _ => ?_) (fun q => absurd q c34)
    refine zv_aload_n (pc := 210) d_X11_expression_210 rfl ?_
    refine zv_aload_n (pc := 211) d_X11_expression_211 rfl ?_
    refine zv_bipush (pc := 212) d_X11_expression_212 zc_b_10 ?_
    obtain ⟨g35, hf⟩ := zw_gcE hf (by decide)
    obtain ⟨q36, hq36, hf⟩ := zw_bdE hf
    refine zx_callV (pc := 214) (As := [.int 10]) (o := v0) (st := [.ref v0]) (d2 := 0) (M2 := M_X11_is) (P2 := (fun r S => r = (some (.int q36)) ∧ S = (I, R, J))) d_X11_expression_214 (zw_mG (List.mem_of_getElem? (i := 1442) (by decide +kernel)) rfl) ce_X11_is (zw_RvK g35 rfl rfl) (Nat.le_of_ble_eq_true rfl) rfl (Nat.le_of_ble_eq_true rfl) (by decide) (c_X11_is X v0 10 I R J _ hq36 ⟨rfl, rfl⟩) ?_
    rintro _ _ ⟨rfl, rfl⟩
    show zy_V X M_X11_expression 3 P (214 + 3) [.ref v0, .int v1, .int s0] [.int q36, .ref v0] (I, R, J)
    rcases zw_ifE hf with ⟨c37, hf⟩ | ⟨c37, hf⟩
    · refine zv_if_ne (pc := 217) (tg := 229) d_X11_expression_217 (by decide) (fun _ => ?_) (fun q => absurd q c37)
      exact zx_weak (zw_leS (zw_leS (zw_leS zw_leZ))) (j_X11_expression_229_12_ok X P v0 v1 s0 v0 I R J _ hf hk)
    · refine zv_if_ne (pc := 217) (tg := 229) d_X11_expression_217 (by decide) (fun q => absurd q c37) (fun _ => ?_)
      refine zv_aload_n (pc := 220) d_X11_expression_220 rfl ?_
      refine zv_bipush (pc := 221) d_X11_expression_221 zc_b_15 ?_
      obtain ⟨q48, hq48, hf⟩ := zw_bdE hf
      refine zx_callV (pc := 223) (As := [.int 15]) (o := v0) (st := [.ref v0]) (d2 := 0) (M2 := M_X11_is) (P2 := (fun r S => r = (some (.int q48)) ∧ S = (I, R, J))) d_X11_expression_223 (zw_mG (List.mem_of_getElem? (i := 1442) (by decide +kernel)) rfl) ce_X11_is (zw_RvK g35 rfl rfl) (Nat.le_of_ble_eq_true rfl) rfl (Nat.le_of_ble_eq_true rfl) (by decide) (c_X11_is X v0 15 I R J _ hq48 ⟨rfl, rfl⟩) ?_
      rintro _ _ ⟨rfl, rfl⟩
      show zy_V X M_X11_expression 3 P (223 + 3) [.ref v0, .int v1, .int s0] [.int q48, .ref v0] (I, R, J)
      rcases zw_ifE hf with ⟨c49, hf⟩ | ⟨c49, hf⟩
      · refine zv_if_eq (pc := 226) (tg := 233) d_X11_expression_226 (by decide) (fun _ => ?_) (fun q => absurd c49 q)
        refine zv_iconst (pc := 233) d_X11_expression_233 zc_i_0 ?_
        exact zx_weak (zw_leS (zw_leS (zw_leS zw_leZ))) (j_X11_expression_234_12_ok X P v0 v1 s0 v0 0 I R J _ hf hk)
      · refine zv_if_eq (pc := 226) (tg := 233) d_X11_expression_226 (by decide) (fun q => absurd q c49) (fun _ => ?_)
        exact zx_weak (zw_leS (zw_leS (zw_leS zw_leZ))) (j_X11_expression_229_12_ok X P v0 v1 s0 v0 I R J _ hf hk)
  · refine zv_if_ne (pc := 188) (tg := 210) d_X11_expression_188 (by decide) (fun q => absurd q c34) (fun _ => ?_)
    cases hf
    exact zx_weak (zw_leS (zw_leS (zw_leN zw_leZ))) hk
def j_X11_expression_181_12 (v0 : Nat) (v1 : Int32) (I : zI) (R : zR) : Option ((Int32 × zI) ⊕ ((zI) ⊕ ((zI) ⊕ (zI)))) :=
  j_X11_expression_186_12 v0 v1 1 I R
theorem j_X11_expression_181_12_ok (X : zw_X) (P : Option Value → aS → Prop) (v0 : Nat) (v1 : Int32) (I : zI) (R : zR) (J : zJ) (o : (Int32 × zI) ⊕ ((zI) ⊕ ((zI) ⊕ (zI)))) (hf : j_X11_expression_181_12 v0 v1 I R = some o) (hk : (zw_se (fun t => zy_V X M_X11_expression 3 P 12 [.ref v0, .int v1, .int t.1] [] (t.2, R, J)) (fun r => (zw_se (fun r0 => zy_V X M_X11_expression 3 P 272 [.null, .null, .null] [] (r0, R, J)) (fun t0 => (zw_se (fun r1 => zy_V X M_X11_expression 3 P 95 [.null, .null, .null] [] (r1, R, J)) (fun t1 => zy_V X M_X11_expression 3 P 191 [.ref v0, .int v1, .null] [] (t1, R, J)) t0)) r)) o)) : zy_V X M_X11_expression 3 P 181 [.ref v0, .int v1, .null] [] (I, R, J) := by
  unfold j_X11_expression_181_12 at hf
  refine zv_iconst (pc := 181) d_X11_expression_181 zc_i_1 ?_
  refine zv_goto (pc := 182) (tg := 186) d_X11_expression_182 (by decide) ?_
  exact zx_weak (zw_leS (zw_leS (zw_leN zw_leZ))) (j_X11_expression_186_12_ok X P v0 v1 1 I R J _ hf hk)
def j_X11_expression_145_12 (v0 : Nat) (v1 : Int32) (I : zI) (R : zR) : Option ((Int32 × zI) ⊕ ((zI) ⊕ ((zI) ⊕ (zI)))) :=
  zw_g (zw_gc v0 11) ((f_X11_is v0 8 I R).bind fun q32 => (if ¬ q32 = 0 then j_X11_expression_181_12 v0 v1 I R else (f_X11_is v0 9 I R).bind fun q50 => (if ¬ q50 = 0 then j_X11_expression_181_12 v0 v1 I R else (f_X11_is v0 10 I R).bind fun q52 => (if ¬ q52 = 0 then j_X11_expression_181_12 v0 v1 I R else (f_X11_is v0 15 I R).bind fun q54 => (if q54 = 0 then j_X11_expression_186_12 v0 v1 0 I R else j_X11_expression_181_12 v0 v1 I R)))))
theorem j_X11_expression_145_12_ok (X : zw_X) (P : Option Value → aS → Prop) (v0 : Nat) (v1 : Int32) (I : zI) (R : zR) (J : zJ) (o : (Int32 × zI) ⊕ ((zI) ⊕ ((zI) ⊕ (zI)))) (hf : j_X11_expression_145_12 v0 v1 I R = some o) (hk : (zw_se (fun t => zy_V X M_X11_expression 3 P 12 [.ref v0, .int v1, .int t.1] [] (t.2, R, J)) (fun r => (zw_se (fun r0 => zy_V X M_X11_expression 3 P 272 [.null, .null, .null] [] (r0, R, J)) (fun t0 => (zw_se (fun r1 => zy_V X M_X11_expression 3 P 95 [.null, .null, .null] [] (r1, R, J)) (fun t1 => zy_V X M_X11_expression 3 P 191 [.ref v0, .int v1, .null] [] (t1, R, J)) t0)) r)) o)) : zy_V X M_X11_expression 3 P 145 [.ref v0, .int v1, .null] [] (I, R, J) := by
  unfold j_X11_expression_145_12 at hf
  refine zv_aload_n (pc := 145) d_X11_expression_145 rfl ?_
  refine zv_bipush (pc := 146) d_X11_expression_146 zc_b_8 ?_
  obtain ⟨g31, hf⟩ := zw_gcE hf (by decide)
  obtain ⟨q32, hq32, hf⟩ := zw_bdE hf
  refine zx_callV (pc := 148) (As := [.int 8]) (o := v0) (st := []) (d2 := 0) (M2 := M_X11_is) (P2 := (fun r S => r = (some (.int q32)) ∧ S = (I, R, J))) d_X11_expression_148 (zw_mG (List.mem_of_getElem? (i := 1442) (by decide +kernel)) rfl) ce_X11_is (zw_RvK g31 rfl rfl) (Nat.le_of_ble_eq_true rfl) rfl (Nat.le_of_ble_eq_true rfl) (by decide) (c_X11_is X v0 8 I R J _ hq32 ⟨rfl, rfl⟩) ?_
  rintro _ _ ⟨rfl, rfl⟩
  show zy_V X M_X11_expression 3 P (148 + 3) [.ref v0, .int v1, .null] [.int q32] (I, R, J)
  rcases zw_ifE hf with ⟨c33, hf⟩ | ⟨c33, hf⟩
  · refine zv_if_ne (pc := 151) (tg := 181) d_X11_expression_151 (by decide) (fun _ => ?_) (fun q => absurd q c33)
    exact zx_weak (zw_leS (zw_leS (zw_leN zw_leZ))) (j_X11_expression_181_12_ok X P v0 v1 I R J _ hf hk)
  · refine zv_if_ne (pc := 151) (tg := 181) d_X11_expression_151 (by decide) (fun q => absurd q c33) (fun _ => ?_)
    refine zv_aload_n (pc := 154) d_X11_expression_154 rfl ?_
    refine zv_bipush (pc := 155) d_X11_expression_155 zc_b_9 ?_
    obtain ⟨q50, hq50, hf⟩ := zw_bdE hf
    refine zx_callV (pc := 157) (As := [.int 9]) (o := v0) (st := []) (d2 := 0) (M2 := M_X11_is) (P2 := (fun r S => r = (some (.int q50)) ∧ S = (I, R, J))) d_X11_expression_157 (zw_mG (List.mem_of_getElem? (i := 1442) (by decide +kernel)) rfl) ce_X11_is (zw_RvK g31 rfl rfl) (Nat.le_of_ble_eq_true rfl) rfl (Nat.le_of_ble_eq_true rfl) (by decide) (c_X11_is X v0 9 I R J _ hq50 ⟨rfl, rfl⟩) ?_
    rintro _ _ ⟨rfl, rfl⟩
    show zy_V X M_X11_expression 3 P (157 + 3) [.ref v0, .int v1, .null] [.int q50] (I, R, J)
    rcases zw_ifE hf with ⟨c51, hf⟩ | ⟨c51, hf⟩
    · refine zv_if_ne (pc := 160) (tg := 181) d_X11_expression_160 (by decide) (fun _ => ?_) (fun q => absurd q c51)
      exact zx_weak (zw_leS (zw_leS (zw_leN zw_leZ))) (j_X11_expression_181_12_ok X P v0 v1 I R J _ hf hk)
    · refine zv_if_ne (pc := 160) (tg := 181) d_X11_expression_160 (by decide) (fun q => absurd q c51) (fun _ => ?_)
      refine zv_aload_n (pc := 163) d_X11_expression_163 rfl ?_
      refine zv_bipush (pc := 164) d_X11_expression_164 zc_b_10 ?_
      obtain ⟨q52, hq52, hf⟩ := zw_bdE hf
      refine zx_callV (pc := 166) (As := [.int 10]) (o := v0) (st := []) (d2 := 0) (M2 := M_X11_is) (P2 := (fun r S => r = (some (.int q52)) ∧ S = (I, R, J))) d_X11_expression_166 (zw_mG (List.mem_of_getElem? (i := 1442) (by decide +kernel)) rfl) ce_X11_is (zw_RvK g31 rfl rfl) (Nat.le_of_ble_eq_true rfl) rfl (Nat.le_of_ble_eq_true rfl) (by decide) (c_X11_is X v0 10 I R J _ hq52 ⟨rfl, rfl⟩) ?_
      rintro _ _ ⟨rfl, rfl⟩
      show zy_V X M_X11_expression 3 P (166 + 3) [.ref v0, .int v1, .null] [.int q52] (I, R, J)
      rcases zw_ifE hf with ⟨c53, hf⟩ | ⟨c53, hf⟩
      · refine zv_if_ne (pc := 169) (tg := 181) d_X11_expression_169 (by decide) (fun _ => ?_) (fun q => absurd q c53)
        exact zx_weak (zw_leS (zw_leS (zw_leN zw_leZ))) (j_X11_expression_181_12_ok X P v0 v1 I R J _ hf hk)
      · refine zv_if_ne (pc := 169) (tg := 181) d_X11_expression_169 (by decide) (fun q => absurd q c53) (fun _ => ?_)
        refine zv_aload_n (pc := 172) d_X11_expression_172 rfl ?_
        refine zv_bipush (pc := 173) d_X11_expression_173 zc_b_15 ?_
        obtain ⟨q54, hq54, hf⟩ := zw_bdE hf
        refine zx_callV (pc := 175) (As := [.int 15]) (o := v0) (st := []) (d2 := 0) (M2 := M_X11_is) (P2 := (fun r S => r = (some (.int q54)) ∧ S = (I, R, J))) d_X11_expression_175 (zw_mG (List.mem_of_getElem? (i := 1442) (by decide +kernel)) rfl) ce_X11_is (zw_RvK g31 rfl rfl) (Nat.le_of_ble_eq_true rfl) rfl (Nat.le_of_ble_eq_true rfl) (by decide) (c_X11_is X v0 15 I R J _ hq54 ⟨rfl, rfl⟩) ?_
        rintro _ _ ⟨rfl, rfl⟩
        show zy_V X M_X11_expression 3 P (175 + 3) [.ref v0, .int v1, .null] [.int q54] (I, R, J)
        rcases zw_ifE hf with ⟨c55, hf⟩ | ⟨c55, hf⟩
        · refine zv_if_eq (pc := 178) (tg := 185) d_X11_expression_178 (by decide) (fun _ => ?_) (fun q => absurd c55 q)
          refine zv_iconst (pc := 185) d_X11_expression_185 zc_i_0 ?_
          exact zx_weak (zw_leS (zw_leS (zw_leN zw_leZ))) (j_X11_expression_186_12_ok X P v0 v1 0 I R J _ hf hk)
        · refine zv_if_eq (pc := 178) (tg := 185) d_X11_expression_178 (by decide) (fun q => absurd q c55) (fun _ => ?_)
          exact zx_weak (zw_leS (zw_leS (zw_leN zw_leZ))) (j_X11_expression_181_12_ok X P v0 v1 I R J _ hf hk)
def s_X11_expression_12 (v0 : Nat) (v1 : Int32) (R : zR) (s : Int32 × zI) : Option ((Int32 × zI) ⊕ ((zI) ⊕ ((zI) ⊕ (zI)))) :=
  if s.1 = 0 then some (.inr (.inl s.2)) else zw_g (zw_gc v0 11) (if ¬ (s.2 v0 13) = 0 then some (.inr (.inl s.2)) else (zw_it (s_X11_expression_23 v0 v1 R) 1000000 s.2).bind fun q19 => ((f_X11_unit v0 q19 R).bind fun q20 => (if (q20 v0 13) ≤ 0 then (zw_it (s_X11_expression_96 v0 v1 R) 1000000 q20).bind fun q30 => (j_X11_expression_145_12 v0 v1 q30 R) else some (.inr (.inr (.inl q20))))))
theorem s_X11_expression_12_ok (X : zw_X) (P : Option Value → aS → Prop) (v0 : Nat) (v1 : Int32) (R : zR) (J : zJ) (s : Int32 × zI) (o : (Int32 × zI) ⊕ ((zI) ⊕ ((zI) ⊕ (zI)))) (hf : s_X11_expression_12 v0 v1 R s = some o) (hk : (zw_se (fun t => zy_V X M_X11_expression 3 P 12 [.ref v0, .int v1, .int t.1] [] (t.2, R, J)) (fun r => (zw_se (fun r0 => zy_V X M_X11_expression 3 P 272 [.null, .null, .null] [] (r0, R, J)) (fun t0 => (zw_se (fun r1 => zy_V X M_X11_expression 3 P 95 [.null, .null, .null] [] (r1, R, J)) (fun t1 => zy_V X M_X11_expression 3 P 191 [.ref v0, .int v1, .null] [] (t1, R, J)) t0)) r)) o)) : zy_V X M_X11_expression 3 P 12 [.ref v0, .int v1, .int s.1] [] (s.2, R, J) := by
  unfold s_X11_expression_12 at hf
  refine zv_iload_n (pc := 12) d_X11_expression_12 rfl ?_
  rcases zw_ifE hf with ⟨c4, hf⟩ | ⟨c4, hf⟩
  · refine zv_if_eq (pc := 13) (tg := 272) d_X11_expression_13 (by decide) (fun _ => ?_) (fun q => absurd c4 q)
    cases hf
    exact zx_weak (zw_leN (zw_leN (zw_leN zw_leZ))) hk
  · refine zv_if_eq (pc := 13) (tg := 272) d_X11_expression_13 (by decide) (fun q => absurd q c4) (fun _ => ?_)
    refine zv_aload_n (pc := 16) d_X11_expression_16 rfl ?_
    obtain ⟨g5, hf⟩ := zw_gcE hf (by decide)
    refine zx_getI (pc := 17) d_X11_expression_17 lk_CutStonesModel_218 (by decide) g5 ?_
    rcases zw_ifE hf with ⟨c6, hf⟩ | ⟨c6, hf⟩
    · refine zv_if_ne (pc := 20) (tg := 272) d_X11_expression_20 (by decide) (fun _ => ?_) (fun q => absurd q c6)
      cases hf
      exact zx_weak (zw_leN (zw_leN (zw_leN zw_leZ))) hk
    · refine zv_if_ne (pc := 20) (tg := 272) d_X11_expression_20 (by decide) (fun q => absurd q c6) (fun _ => ?_)
      obtain ⟨q19, hq19, hf⟩ := zw_bdE hf
      refine zx_weak (L' := [.ref v0, .int v1, .null]) (zw_leS (zw_leS (zw_leN zw_leZ))) (s_X11_expression_23_lp X P v0 v1 R J _ _ _ hq19 ?_)
      show zy_V X M_X11_expression 3 P 84 [.ref v0, .int v1, .null] [] (q19, R, J)
      refine zv_aload_n (pc := 84) d_X11_expression_84 rfl ?_
      obtain ⟨q20, hq20, hf⟩ := zw_bdE hf
      refine zx_callV (pc := 85) (As := []) (o := v0) (st := []) (d2 := 2) (M2 := M_X11_unit) (P2 := (fun r S => r = none ∧ S = (q20, R, J))) d_X11_expression_85 (zw_mG (List.mem_of_getElem? (i := 1490) (by decide +kernel)) rfl) ce_X11_unit (zw_RvK g5 rfl rfl) (Nat.le_of_ble_eq_true rfl) rfl (Nat.le_of_ble_eq_true rfl) (by decide) (c_X11_unit X v0 q19 R J _ hq20 ⟨rfl, rfl⟩) ?_
      rintro _ _ ⟨rfl, rfl⟩
      show zy_V X M_X11_expression 3 P (85 + 3) [.ref v0, .int v1, .null] [] (q20, R, J)
      refine zv_aload_n (pc := 88) d_X11_expression_88 rfl ?_
      refine zx_getI (pc := 89) d_X11_expression_89 lk_CutStonesModel_218 (by decide) g5 ?_
      rcases zw_ifE hf with ⟨c21, hf⟩ | ⟨c21, hf⟩
      · refine zv_if_le (pc := 92) (tg := 96) d_X11_expression_92 (by decide) (fun _ => ?_) (fun q => absurd c21 q)
        obtain ⟨q30, hq30, hf⟩ := zw_bdE hf
        refine zx_weak (L' := [.ref v0, .int v1, .null]) (zw_leS (zw_leS (zw_leN zw_leZ))) (s_X11_expression_96_lp X P v0 v1 R J _ _ _ hq30 ?_)
        show zy_V X M_X11_expression 3 P 145 [.ref v0, .int v1, .null] [] (q30, R, J)
        exact zx_weak (zw_leS (zw_leS (zw_leN zw_leZ))) (j_X11_expression_145_12_ok X P v0 v1 q30 R J _ hf hk)
      · refine zv_if_le (pc := 92) (tg := 96) d_X11_expression_92 (by decide) (fun q => absurd q c21) (fun _ => ?_)
        cases hf
        exact zx_weak (zw_leN (zw_leN (zw_leN zw_leZ))) hk
theorem s_X11_expression_12_lp (X : zw_X) (P : Option Value → aS → Prop) (v0 : Nat) (v1 : Int32) (R : zR) (J : zJ) (n : Nat) (s : Int32 × zI) (r : (zI) ⊕ ((zI) ⊕ (zI))) (h : zw_it (s_X11_expression_12 v0 v1 R) n s = some r) (hq : (zw_se (fun r0 => zy_V X M_X11_expression 3 P 272 [.null, .null, .null] [] (r0, R, J)) (fun t0 => (zw_se (fun r1 => zy_V X M_X11_expression 3 P 95 [.null, .null, .null] [] (r1, R, J)) (fun t1 => zy_V X M_X11_expression 3 P 191 [.ref v0, .int v1, .null] [] (t1, R, J)) t0)) r)) : zy_V X M_X11_expression 3 P 12 [.ref v0, .int v1, .int s.1] [] (s.2, R, J) :=
  zw_itE (A := (fun t : Int32 × zI => zy_V X M_X11_expression 3 P 12 [.ref v0, .int v1, .int t.1] [] (t.2, R, J))) (Q := (fun r : (zI) ⊕ ((zI) ⊕ (zI)) => (zw_se (fun r0 => zy_V X M_X11_expression 3 P 272 [.null, .null, .null] [] (r0, R, J)) (fun t0 => (zw_se (fun r1 => zy_V X M_X11_expression 3 P 95 [.null, .null, .null] [] (r1, R, J)) (fun t1 => zy_V X M_X11_expression 3 P 191 [.ref v0, .int v1, .null] [] (t1, R, J)) t0)) r))) (fun s o h1 h2 => s_X11_expression_12_ok X P v0 v1 R J s o h1 h2) n s r h hq
def j_X11_expression_204 (v0 : Nat) (I : zI) (R : zR) : Option (zI) :=
  zw_g (zw_gc v0 11) ((f_X11_comesOut v0 0 I R).bind fun q63 => (some q63))
theorem j_X11_expression_204_ok (X : zw_X) (P : Option Value → aS → Prop) (v0 : Nat) (I : zI) (R : zR) (J : zJ) (o : zI) (hf : j_X11_expression_204 v0 I R = some o) (hk : P none (o, R, J)) : zy_V X M_X11_expression 3 P 204 [.ref v0, .null, .null] [] (I, R, J) := by
  unfold j_X11_expression_204 at hf
  refine zv_aload_n (pc := 204) d_X11_expression_204 rfl ?_
  refine zv_iconst (pc := 205) d_X11_expression_205 zc_i_0 ?_
  obtain ⟨g62, hf⟩ := zw_gcE hf (by decide)
  obtain ⟨q63, hq63, hf⟩ := zw_bdE hf
  refine zx_callV (pc := 206) (As := [.int 0]) (o := v0) (st := []) (d2 := 1) (M2 := M_X11_comesOut) (P2 := (fun r S => r = none ∧ S = (q63, R, J))) d_X11_expression_206 (zw_mG (List.mem_of_getElem? (i := 1498) (by decide +kernel)) rfl) ce_X11_comesOut (zw_RvK g62 rfl rfl) (Nat.le_of_ble_eq_true rfl) rfl (Nat.le_of_ble_eq_true rfl) (by decide) (c_X11_comesOut X v0 0 I R J _ hq63 ⟨rfl, rfl⟩) ?_
  rintro _ _ ⟨rfl, rfl⟩
  show zy_V X M_X11_expression 3 P (206 + 3) [.ref v0, .null, .null] [] (q63, R, J)
  cases hf
  exact zx_vret (pc := 209) d_X11_expression_209 rfl hk
def f_X11_expression (v0 : Nat) (I : zI) (R : zR) : Option (zI) :=
  zw_g (zw_gc v0 11) (zw_let (zw_u I v0 48 0 : zI) fun I2 => (zw_let ((I2 v0 12) : Int32) fun x3 => ((zw_it (s_X11_expression_12 v0 x3 R) 1000000 (1, I2)).bind fun q56 => (match q56 with | .inl a57 => (some a57) | .inr a58 => (match a58 with | .inl a59 => (some a59) | .inr a60 => (if (a60 v0 12) ≤ x3 then j_X11_expression_204 v0 a60 R else (f_X11_fail v0 1 a60 R).bind fun q64 => (j_X11_expression_204 v0 q64 R)))))))
theorem c_X11_expression (X : zw_X) (v0 : Nat) (I : zI) (R : zR) (J : zJ) {P : Option Value → aS → Prop} (o : zI) (hf : f_X11_expression v0 I R = some o) (hk : P none (o, R, J)) : zw_C X M_X11_expression 3 0 0 199 [.ref v0] (I, R, J) P := by
  show zy_V X M_X11_expression 3 P 0 [.ref v0, .null, .null] [] (I, R, J)
  unfold f_X11_expression at hf
  refine zv_aload_n (pc := 0) d_X11_expression_0 rfl ?_
  refine zv_iconst (pc := 1) d_X11_expression_1 zc_i_0 ?_
  obtain ⟨g1, hf⟩ := zw_gcE hf (by decide)
  obtain ⟨I2, eI2, hf⟩ := zw_letE hf
  refine zx_putI (pc := 2) (I2 := I2) d_X11_expression_2 lk_CutStonesModel_306 rfl g1 eI2 ?_
  refine zv_aload_n (pc := 5) d_X11_expression_5 rfl ?_
  refine zx_getI (pc := 6) d_X11_expression_6 lk_CutStonesModel_245 (by decide) g1 ?_
  obtain ⟨x3, ex3, hf⟩ := zw_letE hf
  refine zx_istore_n (pc := 9) (x2 := x3) (L2 := [.ref v0, .int x3, .null]) d_X11_expression_9 (by decide) ex3 rfl ?_
  refine zv_iconst (pc := 10) d_X11_expression_10 zc_i_1 ?_
  refine zx_istore_n (pc := 11) (x2 := 1) (L2 := [.ref v0, .int x3, .int 1]) d_X11_expression_11 (by decide) rfl rfl ?_
  obtain ⟨q56, hq56, hf⟩ := zw_bdE hf
  refine zx_weak (L' := [.ref v0, .int x3, .int 1]) (zw_leS (zw_leS (zw_leS zw_leZ))) (s_X11_expression_12_lp X P v0 x3 R J _ _ _ hq56 ?_)
  rcases q56 with a57 | a58
  ·
    show zy_V X M_X11_expression 3 P 272 [.null, .null, .null] [] (a57, R, J)
    cases hf
    exact zx_vret (pc := 272) d_X11_expression_272 rfl hk
  ·
    rcases a58 with a59 | a60
    ·
      show zy_V X M_X11_expression 3 P 95 [.null, .null, .null] [] (a59, R, J)
      cases hf
      exact zx_vret (pc := 95) d_X11_expression_95 rfl hk
    ·
      show zy_V X M_X11_expression 3 P 191 [.ref v0, .int x3, .null] [] (a60, R, J)
      refine zv_aload_n (pc := 191) d_X11_expression_191 rfl ?_
      refine zx_getI (pc := 192) d_X11_expression_192 lk_CutStonesModel_245 (by decide) g1 ?_
      refine zv_iload_n (pc := 195) d_X11_expression_195 rfl ?_
      rcases zw_ifE hf with ⟨c61, hf⟩ | ⟨c61, hf⟩
      · refine zv_icmp_le (pc := 196) (tg := 204) d_X11_expression_196 (by decide) (fun _ => ?_) (fun q => absurd c61 q)
        exact zx_weak (zw_leS (zw_leN (zw_leN zw_leZ))) (j_X11_expression_204_ok X P v0 a60 R J _ hf hk)
      · refine zv_icmp_le (pc := 196) (tg := 204) d_X11_expression_196 (by decide) (fun q => absurd q c61) (fun _ => ?_)
        refine zv_aload_n (pc := 199) d_X11_expression_199 rfl ?_
        refine zv_iconst (pc := 200) d_X11_expression_200 zc_i_1 ?_
        obtain ⟨q64, hq64, hf⟩ := zw_bdE hf
        refine zx_callV (pc := 201) (As := [.int 1]) (o := v0) (st := []) (d2 := 0) (M2 := M_X11_fail) (P2 := (fun r S => r = none ∧ S = (q64, R, J))) d_X11_expression_201 (zw_mG (List.mem_of_getElem? (i := 1450) (by decide +kernel)) rfl) ce_X11_fail (zw_RvK g1 rfl rfl) (Nat.le_of_ble_eq_true rfl) rfl (Nat.le_of_ble_eq_true rfl) (by decide) (c_X11_fail X v0 1 a60 R J _ hq64 ⟨rfl, rfl⟩) ?_
        rintro _ _ ⟨rfl, rfl⟩
        show zy_V X M_X11_expression 3 P (201 + 3) [.ref v0, .int x3, .null] [] (q64, R, J)
        exact zx_weak (zw_leS (zw_leN (zw_leN zw_leZ))) (j_X11_expression_204_ok X P v0 q64 R J _ hf hk)
abbrev M_X11_grade : zw_M := (⟨"CutStonesModel", "grade", "()I"⟩, prog_13_method_65_code, 2, (Option.some Jvm.ClassFile.FieldType.int))
theorem d_X11_grade_0 : decode M_X11_grade.2.1 0 = .ok (.aload_n 0, 1) := by decide +kernel
theorem d_X11_grade_1 : decode M_X11_grade.2.1 1 = .ok (.getfield 267, 3) := by decide +kernel
theorem d_X11_grade_4 : decode M_X11_grade.2.1 4 = .ok (.ifCond .ne 5, 3) := by decide +kernel
theorem d_X11_grade_7 : decode M_X11_grade.2.1 7 = .ok (.iconst (-1), 1) := by decide +kernel
theorem d_X11_grade_8 : decode M_X11_grade.2.1 8 = .ok (.ireturn, 1) := by decide +kernel
theorem d_X11_grade_9 : decode M_X11_grade.2.1 9 = .ok (.aload_n 0, 1) := by decide +kernel
theorem d_X11_grade_10 : decode M_X11_grade.2.1 10 = .ok (.invokevirtual 419, 3) := by decide +kernel
theorem d_X11_grade_13 : decode M_X11_grade.2.1 13 = .ok (.iconst 0, 1) := by decide +kernel
theorem d_X11_grade_14 : decode M_X11_grade.2.1 14 = .ok (.istore_n 1, 1) := by decide +kernel
theorem d_X11_grade_15 : decode M_X11_grade.2.1 15 = .ok (.iload_n 1, 1) := by decide +kernel
theorem d_X11_grade_16 : decode M_X11_grade.2.1 16 = .ok (.aload_n 0, 1) := by decide +kernel
theorem d_X11_grade_17 : decode M_X11_grade.2.1 17 = .ok (.getfield 73, 3) := by decide +kernel
theorem d_X11_grade_20 : decode M_X11_grade.2.1 20 = .ok (.aload_n 0, 1) := by decide +kernel
theorem d_X11_grade_21 : decode M_X11_grade.2.1 21 = .ok (.getfield 248, 3) := by decide +kernel
theorem d_X11_grade_24 : decode M_X11_grade.2.1 24 = .ok (.iaload, 1) := by decide +kernel
theorem d_X11_grade_25 : decode M_X11_grade.2.1 25 = .ok (.if_icmp .ge 27, 3) := by decide +kernel
theorem d_X11_grade_28 : decode M_X11_grade.2.1 28 = .ok (.aload_n 0, 1) := by decide +kernel
theorem d_X11_grade_29 : decode M_X11_grade.2.1 29 = .ok (.bipush 16, 2) := by decide +kernel
theorem d_X11_grade_31 : decode M_X11_grade.2.1 31 = .ok (.aload_n 0, 1) := by decide +kernel
theorem d_X11_grade_32 : decode M_X11_grade.2.1 32 = .ok (.getfield 248, 3) := by decide +kernel
theorem d_X11_grade_35 : decode M_X11_grade.2.1 35 = .ok (.imul, 1) := by decide +kernel
theorem d_X11_grade_36 : decode M_X11_grade.2.1 36 = .ok (.iload_n 1, 1) := by decide +kernel
theorem d_X11_grade_37 : decode M_X11_grade.2.1 37 = .ok (.iadd, 1) := by decide +kernel
theorem d_X11_grade_38 : decode M_X11_grade.2.1 38 = .ok (.invokevirtual 422, 3) := by decide +kernel
theorem d_X11_grade_41 : decode M_X11_grade.2.1 41 = .ok (.ifCond .eq 5, 3) := by decide +kernel
theorem d_X11_grade_44 : decode M_X11_grade.2.1 44 = .ok (.iload_n 1, 1) := by decide +kernel
theorem d_X11_grade_45 : decode M_X11_grade.2.1 45 = .ok (.ireturn, 1) := by decide +kernel
theorem d_X11_grade_46 : decode M_X11_grade.2.1 46 = .ok (.iinc 1 1, 3) := by decide +kernel
theorem d_X11_grade_49 : decode M_X11_grade.2.1 49 = .ok (.goto (-34), 3) := by decide +kernel
theorem d_X11_grade_52 : decode M_X11_grade.2.1 52 = .ok (.bipush (-2), 2) := by decide +kernel
theorem d_X11_grade_54 : decode M_X11_grade.2.1 54 = .ok (.ireturn, 1) := by decide +kernel
theorem ce_X11_grade : zw_CeV M_X11_grade 0 := ⟨⟨⟨by decide +kernel, by decide +kernel, by decide +kernel⟩, (zw_mG (List.mem_of_getElem? (i := 1619) (by decide +kernel)) rfl), (zw_mG (List.mem_of_getElem? (i := 108) (by decide +kernel)) rfl), by decide, by decide +kernel⟩, (zw_mG (List.mem_of_getElem? (i := 1617) (by decide +kernel)) rfl), (zw_mG (List.mem_of_getElem? (i := 1618) (by decide +kernel)) rfl)⟩
def s_X11_grade_15 (v0 : Nat) (R : zR) (s : Int32 × zI) : Option ((Int32 × zI) ⊕ ((zI) ⊕ (Int32 × zI))) :=
  zw_g (zw_gc v0 11) (zw_g (zw_gc (R v0 31) 13) (zw_g (zw_in (s.2 v0 18) (zw_SH (R v0 31)).2) (if (s.2 (R v0 31) (Int32.toNatClampNeg (s.2 v0 18))) ≤ s.1 then some (.inr (.inl s.2)) else (f_X11_holds v0 ((16 * (s.2 v0 18)) + s.1) s.2 R).bind fun q8 => (if q8.1 = 0 then zw_let (s.1 + 1 : Int32) fun x10 => (some (.inl (x10, q8.2))) else some (.inr (.inr (s.1, q8.2)))))))
theorem s_X11_grade_15_ok (X : zw_X) (P : Option Value → aS → Prop) (v0 : Nat) (R : zR) (J : zJ) (s : Int32 × zI) (o : (Int32 × zI) ⊕ ((zI) ⊕ (Int32 × zI))) (hf : s_X11_grade_15 v0 R s = some o) (hk : (zw_se (fun t => zy_V X M_X11_grade 3 P 15 [.ref v0, .int t.1] [] (t.2, R, J)) (fun r => (zw_se (fun r0 => zy_V X M_X11_grade 3 P 52 [.null, .null] [] (r0, R, J)) (fun t0 => zy_V X M_X11_grade 3 P 44 [.null, .int t0.1] [] (t0.2, R, J)) r)) o)) : zy_V X M_X11_grade 3 P 15 [.ref v0, .int s.1] [] (s.2, R, J) := by
  unfold s_X11_grade_15 at hf
  refine zv_iload_n (pc := 15) d_X11_grade_15 rfl ?_
  refine zv_aload_n (pc := 16) d_X11_grade_16 rfl ?_
  obtain ⟨g4, hf⟩ := zw_gcE hf (by decide)
  obtain ⟨g5, hf⟩ := zw_gcE hf (by decide)
  refine zx_getR (pc := 17) d_X11_grade_17 lk_CutStonesModel_73 (by decide) g4 g5 ?_
  refine zv_aload_n (pc := 20) d_X11_grade_20 rfl ?_
  refine zx_getI (pc := 21) d_X11_grade_21 lk_CutStonesModel_248 (by decide) g4 ?_
  obtain ⟨i6, hf⟩ := zw_inE hf
  refine zx_iald (pc := 24) d_X11_grade_24 g5 i6 ?_
  rcases zw_ifE hf with ⟨c7, hf⟩ | ⟨c7, hf⟩
  · refine zv_icmp_ge (pc := 25) (tg := 52) d_X11_grade_25 (by decide) (fun _ => ?_) (fun q => absurd c7 q)
    cases hf
    exact zx_weak (zw_leN (zw_leN zw_leZ)) hk
  · refine zv_icmp_ge (pc := 25) (tg := 52) d_X11_grade_25 (by decide) (fun q => absurd q c7) (fun _ => ?_)
    refine zv_aload_n (pc := 28) d_X11_grade_28 rfl ?_
    refine zv_bipush (pc := 29) d_X11_grade_29 zc_b_16 ?_
    refine zv_aload_n (pc := 31) d_X11_grade_31 rfl ?_
    refine zx_getI (pc := 32) d_X11_grade_32 lk_CutStonesModel_248 (by decide) g4 ?_
    refine zv_imul (pc := 35) d_X11_grade_35 ?_
    refine zv_iload_n (pc := 36) d_X11_grade_36 rfl ?_
    refine zv_iadd (pc := 37) d_X11_grade_37 ?_
    obtain ⟨q8, hq8, hf⟩ := zw_bdE hf
    refine zx_callV (pc := 38) (As := [.int ((16 * (s.2 v0 18)) + s.1)]) (o := v0) (st := []) (d2 := 2) (M2 := M_X11_holds) (P2 := (fun r S => r = (some (.int q8.1)) ∧ S = (q8.2, R, J))) d_X11_grade_38 (zw_mG (List.mem_of_getElem? (i := 1624) (by decide +kernel)) rfl) ce_X11_holds (zw_RvK g4 rfl rfl) (Nat.le_of_ble_eq_true rfl) rfl (Nat.le_of_ble_eq_true rfl) (by decide) (c_X11_holds X v0 ((16 * (s.2 v0 18)) + s.1) s.2 R J _ hq8 ⟨rfl, rfl⟩) ?_
    rintro _ _ ⟨rfl, rfl⟩
    show zy_V X M_X11_grade 3 P (38 + 3) [.ref v0, .int s.1] [.int q8.1] (q8.2, R, J)
    rcases zw_ifE hf with ⟨c9, hf⟩ | ⟨c9, hf⟩
    · refine zv_if_eq (pc := 41) (tg := 46) d_X11_grade_41 (by decide) (fun _ => ?_) (fun q => absurd c9 q)
      obtain ⟨x10, ex10, hf⟩ := zw_letE hf
      refine zx_iinc (pc := 46) (x2 := x10) (L2 := [.ref v0, .int x10]) d_X11_grade_46 (by decide) rfl zc_i_1 ex10 rfl ?_
      refine zv_goto (pc := 49) (tg := 15) d_X11_grade_49 (by decide) ?_
      cases hf
      exact zx_weak (zw_leS (zw_leS zw_leZ)) hk
    · refine zv_if_eq (pc := 41) (tg := 46) d_X11_grade_41 (by decide) (fun q => absurd q c9) (fun _ => ?_)
      cases hf
      exact zx_weak (zw_leN (zw_leS zw_leZ)) hk
theorem s_X11_grade_15_lp (X : zw_X) (P : Option Value → aS → Prop) (v0 : Nat) (R : zR) (J : zJ) (n : Nat) (s : Int32 × zI) (r : (zI) ⊕ (Int32 × zI)) (h : zw_it (s_X11_grade_15 v0 R) n s = some r) (hq : (zw_se (fun r0 => zy_V X M_X11_grade 3 P 52 [.null, .null] [] (r0, R, J)) (fun t0 => zy_V X M_X11_grade 3 P 44 [.null, .int t0.1] [] (t0.2, R, J)) r)) : zy_V X M_X11_grade 3 P 15 [.ref v0, .int s.1] [] (s.2, R, J) :=
  zw_itE (A := (fun t : Int32 × zI => zy_V X M_X11_grade 3 P 15 [.ref v0, .int t.1] [] (t.2, R, J))) (Q := (fun r : (zI) ⊕ (Int32 × zI) => (zw_se (fun r0 => zy_V X M_X11_grade 3 P 52 [.null, .null] [] (r0, R, J)) (fun t0 => zy_V X M_X11_grade 3 P 44 [.null, .int t0.1] [] (t0.2, R, J)) r))) (fun s o h1 h2 => s_X11_grade_15_ok X P v0 R J s o h1 h2) n s r h hq
def f_X11_grade (v0 : Nat) (I : zI) (R : zR) : Option (Int32 × zI) :=
  zw_g (zw_gc v0 11) (if ¬ (I v0 65) = 0 then (f_X11_again v0 I R).bind fun q3 => ((zw_it (s_X11_grade_15 v0 R) 1000000 (0, q3)).bind fun q11 => (match q11 with | .inl a12 => (some ((-2), a12)) | .inr a13 => (some (a13.1, a13.2)))) else some ((-1), I))
theorem c_X11_grade (X : zw_X) (v0 : Nat) (I : zI) (R : zR) (J : zJ) {P : Option Value → aS → Prop} (o : Int32 × zI) (hf : f_X11_grade v0 I R = some o) (hk : P (some (.int o.1)) (o.2, R, J)) : zw_C X M_X11_grade 3 0 0 199 [.ref v0] (I, R, J) P := by
  show zy_V X M_X11_grade 3 P 0 [.ref v0, .null] [] (I, R, J)
  unfold f_X11_grade at hf
  refine zv_aload_n (pc := 0) d_X11_grade_0 rfl ?_
  obtain ⟨g1, hf⟩ := zw_gcE hf (by decide)
  refine zx_getI (pc := 1) d_X11_grade_1 lk_CutStonesModel_267 (by decide) g1 ?_
  rcases zw_ifE hf with ⟨c2, hf⟩ | ⟨c2, hf⟩
  · refine zv_if_ne (pc := 4) (tg := 9) d_X11_grade_4 (by decide) (fun _ => ?_) (fun q => absurd q c2)
    refine zv_aload_n (pc := 9) d_X11_grade_9 rfl ?_
    obtain ⟨q3, hq3, hf⟩ := zw_bdE hf
    refine zx_callV (pc := 10) (As := []) (o := v0) (st := []) (d2 := 0) (M2 := M_X11_again) (P2 := (fun r S => r = none ∧ S = (q3, R, J))) d_X11_grade_10 (zw_mG (List.mem_of_getElem? (i := 1620) (by decide +kernel)) rfl) ce_X11_again (zw_RvK g1 rfl rfl) (Nat.le_of_ble_eq_true rfl) rfl (Nat.le_of_ble_eq_true rfl) (by decide) (c_X11_again X v0 I R J _ hq3 ⟨rfl, rfl⟩) ?_
    rintro _ _ ⟨rfl, rfl⟩
    show zy_V X M_X11_grade 3 P (10 + 3) [.ref v0, .null] [] (q3, R, J)
    refine zv_iconst (pc := 13) d_X11_grade_13 zc_i_0 ?_
    refine zx_istore_n (pc := 14) (x2 := 0) (L2 := [.ref v0, .int 0]) d_X11_grade_14 (by decide) rfl rfl ?_
    obtain ⟨q11, hq11, hf⟩ := zw_bdE hf
    refine zx_weak (L' := [.ref v0, .int 0]) (zw_leS (zw_leS zw_leZ)) (s_X11_grade_15_lp X P v0 R J _ _ _ hq11 ?_)
    rcases q11 with a12 | a13
    ·
      show zy_V X M_X11_grade 3 P 52 [.null, .null] [] (a12, R, J)
      refine zv_bipush (pc := 52) d_X11_grade_52 zc_b_m2 ?_
      cases hf
      exact zx_iret (pc := 54) d_X11_grade_54 rfl hk
    ·
      show zy_V X M_X11_grade 3 P 44 [.null, .int a13.1] [] (a13.2, R, J)
      refine zv_iload_n (pc := 44) d_X11_grade_44 rfl ?_
      cases hf
      exact zx_iret (pc := 45) d_X11_grade_45 rfl hk
  · refine zv_if_ne (pc := 4) (tg := 9) d_X11_grade_4 (by decide) (fun q => absurd q c2) (fun _ => ?_)
    refine zv_iconst (pc := 7) d_X11_grade_7 zc_i_m1 ?_
    cases hf
    exact zx_iret (pc := 8) d_X11_grade_8 rfl hk
abbrev M_X11_lamp : zw_M := (⟨"CutStonesModel", "lamp", "(IIIIII)V"⟩, prog_13_method_45_code, 12, (Option.none : Option Jvm.ClassFile.FieldType))
theorem d_X11_lamp_0 : decode M_X11_lamp.2.1 0 = .ok (.aload_n 0, 1) := by decide +kernel
theorem d_X11_lamp_1 : decode M_X11_lamp.2.1 1 = .ok (.dup, 1) := by decide +kernel
theorem d_X11_lamp_2 : decode M_X11_lamp.2.1 2 = .ok (.getfield 343, 3) := by decide +kernel
theorem d_X11_lamp_5 : decode M_X11_lamp.2.1 5 = .ok (.iload 6, 2) := by decide +kernel
theorem d_X11_lamp_7 : decode M_X11_lamp.2.1 7 = .ok (.iadd, 1) := by decide +kernel
theorem d_X11_lamp_8 : decode M_X11_lamp.2.1 8 = .ok (.putfield 343, 3) := by decide +kernel
theorem d_X11_lamp_11 : decode M_X11_lamp.2.1 11 = .ok (.iload 4, 2) := by decide +kernel
theorem d_X11_lamp_13 : decode M_X11_lamp.2.1 13 = .ok (.ifCond .ne 7, 3) := by decide +kernel
theorem d_X11_lamp_16 : decode M_X11_lamp.2.1 16 = .ok (.iconst 2, 1) := by decide +kernel
theorem d_X11_lamp_17 : decode M_X11_lamp.2.1 17 = .ok (.goto 14, 3) := by decide +kernel
theorem d_X11_lamp_20 : decode M_X11_lamp.2.1 20 = .ok (.iload 4, 2) := by decide +kernel
theorem d_X11_lamp_22 : decode M_X11_lamp.2.1 22 = .ok (.iconst 1, 1) := by decide +kernel
theorem d_X11_lamp_23 : decode M_X11_lamp.2.1 23 = .ok (.if_icmp .ne 7, 3) := by decide +kernel
theorem d_X11_lamp_26 : decode M_X11_lamp.2.1 26 = .ok (.iconst 3, 1) := by decide +kernel
theorem d_X11_lamp_27 : decode M_X11_lamp.2.1 27 = .ok (.goto 4, 3) := by decide +kernel
theorem d_X11_lamp_30 : decode M_X11_lamp.2.1 30 = .ok (.iconst 1, 1) := by decide +kernel
theorem d_X11_lamp_31 : decode M_X11_lamp.2.1 31 = .ok (.istore 7, 2) := by decide +kernel
theorem d_X11_lamp_33 : decode M_X11_lamp.2.1 33 = .ok (.iload 4, 2) := by decide +kernel
theorem d_X11_lamp_35 : decode M_X11_lamp.2.1 35 = .ok (.ifCond .ne 8, 3) := by decide +kernel
theorem d_X11_lamp_38 : decode M_X11_lamp.2.1 38 = .ok (.iload 5, 2) := by decide +kernel
theorem d_X11_lamp_40 : decode M_X11_lamp.2.1 40 = .ok (.goto 21, 3) := by decide +kernel
theorem d_X11_lamp_43 : decode M_X11_lamp.2.1 43 = .ok (.iload 4, 2) := by decide +kernel
theorem d_X11_lamp_45 : decode M_X11_lamp.2.1 45 = .ok (.iconst 1, 1) := by decide +kernel
theorem d_X11_lamp_46 : decode M_X11_lamp.2.1 46 = .ok (.if_icmp .ne 14, 3) := by decide +kernel
theorem d_X11_lamp_49 : decode M_X11_lamp.2.1 49 = .ok (.aload_n 0, 1) := by decide +kernel
theorem d_X11_lamp_50 : decode M_X11_lamp.2.1 50 = .ok (.getfield 64, 3) := by decide +kernel
theorem d_X11_lamp_53 : decode M_X11_lamp.2.1 53 = .ok (.iload_n 1, 1) := by decide +kernel
theorem d_X11_lamp_54 : decode M_X11_lamp.2.1 54 = .ok (.iaload, 1) := by decide +kernel
theorem d_X11_lamp_55 : decode M_X11_lamp.2.1 55 = .ok (.iconst 1, 1) := by decide +kernel
theorem d_X11_lamp_56 : decode M_X11_lamp.2.1 56 = .ok (.isub, 1) := by decide +kernel
theorem d_X11_lamp_57 : decode M_X11_lamp.2.1 57 = .ok (.goto 4, 3) := by decide +kernel
theorem d_X11_lamp_60 : decode M_X11_lamp.2.1 60 = .ok (.iconst 0, 1) := by decide +kernel
theorem d_X11_lamp_61 : decode M_X11_lamp.2.1 61 = .ok (.istore 8, 2) := by decide +kernel
theorem d_X11_lamp_63 : decode M_X11_lamp.2.1 63 = .ok (.iload 4, 2) := by decide +kernel
theorem d_X11_lamp_65 : decode M_X11_lamp.2.1 65 = .ok (.ifCond .ne 7, 3) := by decide +kernel
theorem d_X11_lamp_68 : decode M_X11_lamp.2.1 68 = .ok (.iconst 0, 1) := by decide +kernel
theorem d_X11_lamp_69 : decode M_X11_lamp.2.1 69 = .ok (.goto 5, 3) := by decide +kernel
theorem d_X11_lamp_72 : decode M_X11_lamp.2.1 72 = .ok (.iload 5, 2) := by decide +kernel
theorem d_X11_lamp_74 : decode M_X11_lamp.2.1 74 = .ok (.istore 9, 2) := by decide +kernel
theorem d_X11_lamp_76 : decode M_X11_lamp.2.1 76 = .ok (.iload 8, 2) := by decide +kernel
theorem d_X11_lamp_78 : decode M_X11_lamp.2.1 78 = .ok (.ifCond .lt 60, 3) := by decide +kernel
theorem d_X11_lamp_81 : decode M_X11_lamp.2.1 81 = .ok (.iload 8, 2) := by decide +kernel
theorem d_X11_lamp_83 : decode M_X11_lamp.2.1 83 = .ok (.aload_n 0, 1) := by decide +kernel
theorem d_X11_lamp_84 : decode M_X11_lamp.2.1 84 = .ok (.getfield 64, 3) := by decide +kernel
theorem d_X11_lamp_87 : decode M_X11_lamp.2.1 87 = .ok (.iload_n 1, 1) := by decide +kernel
theorem d_X11_lamp_88 : decode M_X11_lamp.2.1 88 = .ok (.iaload, 1) := by decide +kernel
theorem d_X11_lamp_89 : decode M_X11_lamp.2.1 89 = .ok (.if_icmp .ge 49, 3) := by decide +kernel
theorem d_X11_lamp_92 : decode M_X11_lamp.2.1 92 = .ok (.iload 9, 2) := by decide +kernel
theorem d_X11_lamp_94 : decode M_X11_lamp.2.1 94 = .ok (.aload_n 0, 1) := by decide +kernel
theorem d_X11_lamp_95 : decode M_X11_lamp.2.1 95 = .ok (.getfield 67, 3) := by decide +kernel
theorem d_X11_lamp_98 : decode M_X11_lamp.2.1 98 = .ok (.iload_n 1, 1) := by decide +kernel
theorem d_X11_lamp_99 : decode M_X11_lamp.2.1 99 = .ok (.iaload, 1) := by decide +kernel
theorem d_X11_lamp_100 : decode M_X11_lamp.2.1 100 = .ok (.if_icmp .ge 38, 3) := by decide +kernel
theorem d_X11_lamp_103 : decode M_X11_lamp.2.1 103 = .ok (.aload_n 0, 1) := by decide +kernel
theorem d_X11_lamp_104 : decode M_X11_lamp.2.1 104 = .ok (.iload_n 1, 1) := by decide +kernel
theorem d_X11_lamp_105 : decode M_X11_lamp.2.1 105 = .ok (.iload 8, 2) := by decide +kernel
theorem d_X11_lamp_107 : decode M_X11_lamp.2.1 107 = .ok (.iload 9, 2) := by decide +kernel
theorem d_X11_lamp_109 : decode M_X11_lamp.2.1 109 = .ok (.invokevirtual 352, 3) := by decide +kernel
theorem d_X11_lamp_112 : decode M_X11_lamp.2.1 112 = .ok (.ifCond .ne 26, 3) := by decide +kernel
theorem d_X11_lamp_115 : decode M_X11_lamp.2.1 115 = .ok (.iload 8, 2) := by decide +kernel
theorem d_X11_lamp_117 : decode M_X11_lamp.2.1 117 = .ok (.iload 7, 2) := by decide +kernel
theorem d_X11_lamp_119 : decode M_X11_lamp.2.1 119 = .ok (.invokestatic 355, 3) := by decide +kernel
theorem d_X11_lamp_122 : decode M_X11_lamp.2.1 122 = .ok (.iadd, 1) := by decide +kernel
theorem d_X11_lamp_123 : decode M_X11_lamp.2.1 123 = .ok (.istore 8, 2) := by decide +kernel
theorem d_X11_lamp_125 : decode M_X11_lamp.2.1 125 = .ok (.iload 9, 2) := by decide +kernel
theorem d_X11_lamp_127 : decode M_X11_lamp.2.1 127 = .ok (.iload 7, 2) := by decide +kernel
theorem d_X11_lamp_129 : decode M_X11_lamp.2.1 129 = .ok (.invokestatic 358, 3) := by decide +kernel
theorem d_X11_lamp_132 : decode M_X11_lamp.2.1 132 = .ok (.iadd, 1) := by decide +kernel
theorem d_X11_lamp_133 : decode M_X11_lamp.2.1 133 = .ok (.istore 9, 2) := by decide +kernel
theorem d_X11_lamp_135 : decode M_X11_lamp.2.1 135 = .ok (.goto (-59), 3) := by decide +kernel
theorem d_X11_lamp_138 : decode M_X11_lamp.2.1 138 = .ok (.aload_n 0, 1) := by decide +kernel
theorem d_X11_lamp_139 : decode M_X11_lamp.2.1 139 = .ok (.iload_n 1, 1) := by decide +kernel
theorem d_X11_lamp_140 : decode M_X11_lamp.2.1 140 = .ok (.iload 8, 2) := by decide +kernel
theorem d_X11_lamp_142 : decode M_X11_lamp.2.1 142 = .ok (.iload 9, 2) := by decide +kernel
theorem d_X11_lamp_144 : decode M_X11_lamp.2.1 144 = .ok (.invokevirtual 352, 3) := by decide +kernel
theorem d_X11_lamp_147 : decode M_X11_lamp.2.1 147 = .ok (.istore 10, 2) := by decide +kernel
theorem d_X11_lamp_149 : decode M_X11_lamp.2.1 149 = .ok (.iload 10, 2) := by decide +kernel
theorem d_X11_lamp_151 : decode M_X11_lamp.2.1 151 = .ok (.ifCond .eq 13, 3) := by decide +kernel
theorem d_X11_lamp_154 : decode M_X11_lamp.2.1 154 = .ok (.iload 10, 2) := by decide +kernel
theorem d_X11_lamp_156 : decode M_X11_lamp.2.1 156 = .ok (.iload 4, 2) := by decide +kernel
theorem d_X11_lamp_158 : decode M_X11_lamp.2.1 158 = .ok (.invokestatic 361, 3) := by decide +kernel
theorem d_X11_lamp_161 : decode M_X11_lamp.2.1 161 = .ok (.ifCond .ne 15, 3) := by decide +kernel
theorem d_X11_lamp_164 : decode M_X11_lamp.2.1 164 = .ok (.aload_n 0, 1) := by decide +kernel
theorem d_X11_lamp_165 : decode M_X11_lamp.2.1 165 = .ok (.dup, 1) := by decide +kernel
theorem d_X11_lamp_166 : decode M_X11_lamp.2.1 166 = .ok (.getfield 328, 3) := by decide +kernel
theorem d_X11_lamp_169 : decode M_X11_lamp.2.1 169 = .ok (.iload 6, 2) := by decide +kernel
theorem d_X11_lamp_171 : decode M_X11_lamp.2.1 171 = .ok (.iadd, 1) := by decide +kernel
theorem d_X11_lamp_172 : decode M_X11_lamp.2.1 172 = .ok (.putfield 328, 3) := by decide +kernel
theorem d_X11_lamp_175 : decode M_X11_lamp.2.1 175 = .ok (.return_, 1) := by decide +kernel
theorem d_X11_lamp_176 : decode M_X11_lamp.2.1 176 = .ok (.iload 6, 2) := by decide +kernel
theorem d_X11_lamp_178 : decode M_X11_lamp.2.1 178 = .ok (.aload_n 0, 1) := by decide +kernel
theorem d_X11_lamp_179 : decode M_X11_lamp.2.1 179 = .ok (.getfield 49, 3) := by decide +kernel
theorem d_X11_lamp_182 : decode M_X11_lamp.2.1 182 = .ok (.iconst 4, 1) := by decide +kernel
theorem d_X11_lamp_183 : decode M_X11_lamp.2.1 183 = .ok (.iload_n 2, 1) := by decide +kernel
theorem d_X11_lamp_184 : decode M_X11_lamp.2.1 184 = .ok (.imul, 1) := by decide +kernel
theorem d_X11_lamp_185 : decode M_X11_lamp.2.1 185 = .ok (.iload_n 3, 1) := by decide +kernel
theorem d_X11_lamp_186 : decode M_X11_lamp.2.1 186 = .ok (.iadd, 1) := by decide +kernel
theorem d_X11_lamp_187 : decode M_X11_lamp.2.1 187 = .ok (.iaload, 1) := by decide +kernel
theorem d_X11_lamp_188 : decode M_X11_lamp.2.1 188 = .ok (.imul, 1) := by decide +kernel
theorem d_X11_lamp_189 : decode M_X11_lamp.2.1 189 = .ok (.sipush 1000, 3) := by decide +kernel
theorem d_X11_lamp_192 : decode M_X11_lamp.2.1 192 = .ok (.idiv, 1) := by decide +kernel
theorem d_X11_lamp_193 : decode M_X11_lamp.2.1 193 = .ok (.istore 11, 2) := by decide +kernel
theorem d_X11_lamp_195 : decode M_X11_lamp.2.1 195 = .ok (.aload_n 0, 1) := by decide +kernel
theorem d_X11_lamp_196 : decode M_X11_lamp.2.1 196 = .ok (.dup, 1) := by decide +kernel
theorem d_X11_lamp_197 : decode M_X11_lamp.2.1 197 = .ok (.getfield 328, 3) := by decide +kernel
theorem d_X11_lamp_200 : decode M_X11_lamp.2.1 200 = .ok (.iload 6, 2) := by decide +kernel
theorem d_X11_lamp_202 : decode M_X11_lamp.2.1 202 = .ok (.iload 11, 2) := by decide +kernel
theorem d_X11_lamp_204 : decode M_X11_lamp.2.1 204 = .ok (.isub, 1) := by decide +kernel
theorem d_X11_lamp_205 : decode M_X11_lamp.2.1 205 = .ok (.iadd, 1) := by decide +kernel
theorem d_X11_lamp_206 : decode M_X11_lamp.2.1 206 = .ok (.putfield 328, 3) := by decide +kernel
theorem d_X11_lamp_209 : decode M_X11_lamp.2.1 209 = .ok (.aload_n 0, 1) := by decide +kernel
theorem d_X11_lamp_210 : decode M_X11_lamp.2.1 210 = .ok (.iload_n 1, 1) := by decide +kernel
theorem d_X11_lamp_211 : decode M_X11_lamp.2.1 211 = .ok (.iload_n 2, 1) := by decide +kernel
theorem d_X11_lamp_212 : decode M_X11_lamp.2.1 212 = .ok (.iload_n 3, 1) := by decide +kernel
theorem d_X11_lamp_213 : decode M_X11_lamp.2.1 213 = .ok (.iload 8, 2) := by decide +kernel
theorem d_X11_lamp_215 : decode M_X11_lamp.2.1 215 = .ok (.iload 9, 2) := by decide +kernel
theorem d_X11_lamp_217 : decode M_X11_lamp.2.1 217 = .ok (.iload 7, 2) := by decide +kernel
theorem d_X11_lamp_219 : decode M_X11_lamp.2.1 219 = .ok (.iload 11, 2) := by decide +kernel
theorem d_X11_lamp_221 : decode M_X11_lamp.2.1 221 = .ok (.invokevirtual 365, 3) := by decide +kernel
theorem d_X11_lamp_224 : decode M_X11_lamp.2.1 224 = .ok (.return_, 1) := by decide +kernel
theorem ce_X11_lamp : zw_CeV M_X11_lamp 6 := ⟨⟨⟨by decide +kernel, by decide +kernel, by decide +kernel⟩, (zw_mG (List.mem_of_getElem? (i := 1567) (by decide +kernel)) rfl), (zw_mG (List.mem_of_getElem? (i := 108) (by decide +kernel)) rfl), by decide, by decide +kernel⟩, (zw_mG (List.mem_of_getElem? (i := 1566) (by decide +kernel)) rfl), (zw_mG (List.mem_of_getElem? (i := 77) (by decide +kernel)) rfl)⟩
def s_X11_lamp_76 (v0 : Nat) (v1 : Int32) (v2 : Int32) (v3 : Int32) (v4 : Int32) (v6 : Int32) (v7 : Int32) (I : zI) (R : zR) (s : Int32 × Int32) : Option ((Int32 × Int32) ⊕ (Int32 × Int32)) :=
  if s.1 < 0 then some (.inr (s.1, s.2)) else zw_g (zw_gc v0 11) (zw_g (zw_gc (R v0 28) 13) (zw_g (zw_in v1 (zw_SH (R v0 28)).2) (if (I (R v0 28) (Int32.toNatClampNeg v1)) ≤ s.1 then some (.inr (s.1, s.2)) else zw_g (zw_gc (R v0 29) 13) (zw_g (zw_in v1 (zw_SH (R v0 29)).2) (if (I (R v0 29) (Int32.toNatClampNeg v1)) ≤ s.2 then some (.inr (s.1, s.2)) else (f_X11_cellAt v0 v1 s.1 s.2 I R).bind fun q16 => (if ¬ q16 = 0 then some (.inr (s.1, s.2)) else (f_X11_stepX v7).bind fun q18 => (zw_let ((s.1 + q18) : Int32) fun x19 => ((f_X11_stepY v7).bind fun q20 => (zw_let ((s.2 + q20) : Int32) fun x21 => (some (.inl (x19, x21))))))))))))
theorem s_X11_lamp_76_ok (X : zw_X) (P : Option Value → aS → Prop) (v0 : Nat) (v1 : Int32) (v2 : Int32) (v3 : Int32) (v4 : Int32) (v6 : Int32) (v7 : Int32) (I : zI) (R : zR) (J : zJ) (s : Int32 × Int32) (o : (Int32 × Int32) ⊕ (Int32 × Int32)) (hf : s_X11_lamp_76 v0 v1 v2 v3 v4 v6 v7 I R s = some o) (hk : (zw_se (fun t => zy_V X M_X11_lamp 3 P 76 [.ref v0, .int v1, .int v2, .int v3, .int v4, .null, .int v6, .int v7, .int t.1, .int t.2, .null, .null] [] (I, R, J)) (fun r => zy_V X M_X11_lamp 3 P 138 [.ref v0, .int v1, .int v2, .int v3, .int v4, .null, .int v6, .int v7, .int r.1, .int r.2, .null, .null] [] (I, R, J)) o)) : zy_V X M_X11_lamp 3 P 76 [.ref v0, .int v1, .int v2, .int v3, .int v4, .null, .int v6, .int v7, .int s.1, .int s.2, .null, .null] [] (I, R, J) := by
  unfold s_X11_lamp_76 at hf
  refine zv_iload (pc := 76) d_X11_lamp_76 rfl ?_
  rcases zw_ifE hf with ⟨c8, hf⟩ | ⟨c8, hf⟩
  · refine zv_if_lt (pc := 78) (tg := 138) d_X11_lamp_78 (by decide) (fun _ => ?_) (fun q => absurd c8 q)
    cases hf
    exact zx_weak (zw_leS (zw_leS (zw_leS (zw_leS (zw_leS (zw_leN (zw_leS (zw_leS (zw_leS (zw_leS (zw_leN (zw_leN zw_leZ)))))))))))) hk
  · refine zv_if_lt (pc := 78) (tg := 138) d_X11_lamp_78 (by decide) (fun q => absurd q c8) (fun _ => ?_)
    refine zv_iload (pc := 81) d_X11_lamp_81 rfl ?_
    refine zv_aload_n (pc := 83) d_X11_lamp_83 rfl ?_
    obtain ⟨g9, hf⟩ := zw_gcE hf (by decide)
    obtain ⟨g10, hf⟩ := zw_gcE hf (by decide)
    refine zx_getR (pc := 84) d_X11_lamp_84 lk_CutStonesModel_64 (by decide) g9 g10 ?_
    refine zv_iload_n (pc := 87) d_X11_lamp_87 rfl ?_
    obtain ⟨i11, hf⟩ := zw_inE hf
    refine zx_iald (pc := 88) d_X11_lamp_88 g10 i11 ?_
    rcases zw_ifE hf with ⟨c12, hf⟩ | ⟨c12, hf⟩
    · refine zv_icmp_ge (pc := 89) (tg := 138) d_X11_lamp_89 (by decide) (fun _ => ?_) (fun q => absurd c12 q)
      cases hf
      exact zx_weak (zw_leS (zw_leS (zw_leS (zw_leS (zw_leS (zw_leN (zw_leS (zw_leS (zw_leS (zw_leS (zw_leN (zw_leN zw_leZ)))))))))))) hk
    · refine zv_icmp_ge (pc := 89) (tg := 138) d_X11_lamp_89 (by decide) (fun q => absurd q c12) (fun _ => ?_)
      refine zv_iload (pc := 92) d_X11_lamp_92 rfl ?_
      refine zv_aload_n (pc := 94) d_X11_lamp_94 rfl ?_
      obtain ⟨g13, hf⟩ := zw_gcE hf (by decide)
      refine zx_getR (pc := 95) d_X11_lamp_95 lk_CutStonesModel_67 (by decide) g9 g13 ?_
      refine zv_iload_n (pc := 98) d_X11_lamp_98 rfl ?_
      obtain ⟨i14, hf⟩ := zw_inE hf
      refine zx_iald (pc := 99) d_X11_lamp_99 g13 i14 ?_
      rcases zw_ifE hf with ⟨c15, hf⟩ | ⟨c15, hf⟩
      · refine zv_icmp_ge (pc := 100) (tg := 138) d_X11_lamp_100 (by decide) (fun _ => ?_) (fun q => absurd c15 q)
        cases hf
        exact zx_weak (zw_leS (zw_leS (zw_leS (zw_leS (zw_leS (zw_leN (zw_leS (zw_leS (zw_leS (zw_leS (zw_leN (zw_leN zw_leZ)))))))))))) hk
      · refine zv_icmp_ge (pc := 100) (tg := 138) d_X11_lamp_100 (by decide) (fun q => absurd q c15) (fun _ => ?_)
        refine zv_aload_n (pc := 103) d_X11_lamp_103 rfl ?_
        refine zv_iload_n (pc := 104) d_X11_lamp_104 rfl ?_
        refine zv_iload (pc := 105) d_X11_lamp_105 rfl ?_
        refine zv_iload (pc := 107) d_X11_lamp_107 rfl ?_
        obtain ⟨q16, hq16, hf⟩ := zw_bdE hf
        refine zx_callV (pc := 109) (As := [.int v1, .int s.1, .int s.2]) (o := v0) (st := []) (d2 := 0) (M2 := M_X11_cellAt) (P2 := (fun r S => r = (some (.int q16)) ∧ S = (I, R, J))) d_X11_lamp_109 (zw_mG (List.mem_of_getElem? (i := 1533) (by decide +kernel)) rfl) ce_X11_cellAt (zw_RvK g9 rfl rfl) (Nat.le_of_ble_eq_true rfl) rfl (Nat.le_of_ble_eq_true rfl) (by decide) (c_X11_cellAt X v0 v1 s.1 s.2 I R J _ hq16 ⟨rfl, rfl⟩) ?_
        rintro _ _ ⟨rfl, rfl⟩
        show zy_V X M_X11_lamp 3 P (109 + 3) [.ref v0, .int v1, .int v2, .int v3, .int v4, .null, .int v6, .int v7, .int s.1, .int s.2, .null, .null] [.int q16] (I, R, J)
        rcases zw_ifE hf with ⟨c17, hf⟩ | ⟨c17, hf⟩
        · refine zv_if_ne (pc := 112) (tg := 138) d_X11_lamp_112 (by decide) (fun _ => ?_) (fun q => absurd q c17)
          cases hf
          exact zx_weak (zw_leS (zw_leS (zw_leS (zw_leS (zw_leS (zw_leN (zw_leS (zw_leS (zw_leS (zw_leS (zw_leN (zw_leN zw_leZ)))))))))))) hk
        · refine zv_if_ne (pc := 112) (tg := 138) d_X11_lamp_112 (by decide) (fun q => absurd q c17) (fun _ => ?_)
          refine zv_iload (pc := 115) d_X11_lamp_115 rfl ?_
          refine zv_iload (pc := 117) d_X11_lamp_117 rfl ?_
          obtain ⟨q18, hq18, hf⟩ := zw_bdE hf
          refine zx_callS (pc := 119) (As := [.int v7]) (st := [.int s.1]) (d2 := 0) (M2 := M_X11_stepX) (P2 := (fun r S => r = (some (.int q18)) ∧ S = (I, R, J))) d_X11_lamp_119 (zw_mG (List.mem_of_getElem? (i := 1568) (by decide +kernel)) rfl) ce_X11_stepX (Nat.le_of_ble_eq_true rfl) rfl (Nat.le_of_ble_eq_true rfl) (by decide) (c_X11_stepX X v7 I R J _ hq18 ⟨rfl, rfl⟩) ?_
          rintro _ _ ⟨rfl, rfl⟩
          show zy_V X M_X11_lamp 3 P (119 + 3) [.ref v0, .int v1, .int v2, .int v3, .int v4, .null, .int v6, .int v7, .int s.1, .int s.2, .null, .null] [.int q18, .int s.1] (I, R, J)
          refine zv_iadd (pc := 122) d_X11_lamp_122 ?_
          obtain ⟨x19, ex19, hf⟩ := zw_letE hf
          refine zx_istore (pc := 123) (x2 := x19) (L2 := [.ref v0, .int v1, .int v2, .int v3, .int v4, .null, .int v6, .int v7, .int x19, .int s.2, .null, .null]) d_X11_lamp_123 (by decide) ex19 rfl ?_
          refine zv_iload (pc := 125) d_X11_lamp_125 rfl ?_
          refine zv_iload (pc := 127) d_X11_lamp_127 rfl ?_
          obtain ⟨q20, hq20, hf⟩ := zw_bdE hf
          refine zx_callS (pc := 129) (As := [.int v7]) (st := [.int s.2]) (d2 := 0) (M2 := M_X11_stepY) (P2 := (fun r S => r = (some (.int q20)) ∧ S = (I, R, J))) d_X11_lamp_129 (zw_mG (List.mem_of_getElem? (i := 1571) (by decide +kernel)) rfl) ce_X11_stepY (Nat.le_of_ble_eq_true rfl) rfl (Nat.le_of_ble_eq_true rfl) (by decide) (c_X11_stepY X v7 I R J _ hq20 ⟨rfl, rfl⟩) ?_
          rintro _ _ ⟨rfl, rfl⟩
          show zy_V X M_X11_lamp 3 P (129 + 3) [.ref v0, .int v1, .int v2, .int v3, .int v4, .null, .int v6, .int v7, .int x19, .int s.2, .null, .null] [.int q20, .int s.2] (I, R, J)
          refine zv_iadd (pc := 132) d_X11_lamp_132 ?_
          obtain ⟨x21, ex21, hf⟩ := zw_letE hf
          refine zx_istore (pc := 133) (x2 := x21) (L2 := [.ref v0, .int v1, .int v2, .int v3, .int v4, .null, .int v6, .int v7, .int x19, .int x21, .null, .null]) d_X11_lamp_133 (by decide) ex21 rfl ?_
          refine zv_goto (pc := 135) (tg := 76) d_X11_lamp_135 (by decide) ?_
          cases hf
          exact zx_weak (zw_leS (zw_leS (zw_leS (zw_leS (zw_leS (zw_leN (zw_leS (zw_leS (zw_leS (zw_leS (zw_leN (zw_leN zw_leZ)))))))))))) hk
theorem s_X11_lamp_76_lp (X : zw_X) (P : Option Value → aS → Prop) (v0 : Nat) (v1 : Int32) (v2 : Int32) (v3 : Int32) (v4 : Int32) (v6 : Int32) (v7 : Int32) (I : zI) (R : zR) (J : zJ) (n : Nat) (s : Int32 × Int32) (r : Int32 × Int32) (h : zw_it (s_X11_lamp_76 v0 v1 v2 v3 v4 v6 v7 I R) n s = some r) (hq : zy_V X M_X11_lamp 3 P 138 [.ref v0, .int v1, .int v2, .int v3, .int v4, .null, .int v6, .int v7, .int r.1, .int r.2, .null, .null] [] (I, R, J)) : zy_V X M_X11_lamp 3 P 76 [.ref v0, .int v1, .int v2, .int v3, .int v4, .null, .int v6, .int v7, .int s.1, .int s.2, .null, .null] [] (I, R, J) :=
  zw_itE (A := (fun t : Int32 × Int32 => zy_V X M_X11_lamp 3 P 76 [.ref v0, .int v1, .int v2, .int v3, .int v4, .null, .int v6, .int v7, .int t.1, .int t.2, .null, .null] [] (I, R, J))) (Q := (fun r : Int32 × Int32 => zy_V X M_X11_lamp 3 P 138 [.ref v0, .int v1, .int v2, .int v3, .int v4, .null, .int v6, .int v7, .int r.1, .int r.2, .null, .null] [] (I, R, J))) (fun s o h1 h2 => s_X11_lamp_76_ok X P v0 v1 v2 v3 v4 v6 v7 I R J s o h1 h2) n s r h hq
def j_X11_lamp_164 (v0 : Nat) (v6 : Int32) (I : zI) (R : zR) : Option (zI) :=
  zw_g (zw_gc v0 11) (zw_let (zw_u I v0 54 ((I v0 54) + v6) : zI) fun I27 => (some I27))
theorem j_X11_lamp_164_ok (X : zw_X) (P : Option Value → aS → Prop) (v0 : Nat) (v6 : Int32) (I : zI) (R : zR) (J : zJ) (o : zI) (hf : j_X11_lamp_164 v0 v6 I R = some o) (hk : P none (o, R, J)) : zy_V X M_X11_lamp 3 P 164 [.ref v0, .null, .null, .null, .null, .null, .int v6, .null, .null, .null, .null, .null] [] (I, R, J) := by
  unfold j_X11_lamp_164 at hf
  refine zv_aload_n (pc := 164) d_X11_lamp_164 rfl ?_
  refine zv_dup (pc := 165) d_X11_lamp_165 rfl ?_
  obtain ⟨g26, hf⟩ := zw_gcE hf (by decide)
  refine zx_getI (pc := 166) d_X11_lamp_166 lk_CutStonesModel_328 (by decide) g26 ?_
  refine zv_iload (pc := 169) d_X11_lamp_169 rfl ?_
  refine zv_iadd (pc := 171) d_X11_lamp_171 ?_
  obtain ⟨I27, eI27, hf⟩ := zw_letE hf
  refine zx_putI (pc := 172) (I2 := I27) d_X11_lamp_172 lk_CutStonesModel_328 rfl g26 eI27 ?_
  cases hf
  exact zx_vret (pc := 175) d_X11_lamp_175 rfl hk
def j_X11_lamp_138 (v0 : Nat) (v1 : Int32) (v2 : Int32) (v3 : Int32) (v4 : Int32) (v6 : Int32) (v7 : Int32) (v8 : Int32) (v9 : Int32) (I : zI) (R : zR) : Option (zI) :=
  zw_g (zw_gc v0 11) ((f_X11_cellAt v0 v1 v8 v9 I R).bind fun q24 => (if q24 = 0 then j_X11_lamp_164 v0 v6 I R else (f_X11_hasSide q24 v4).bind fun q28 => (if ¬ q28 = 0 then zw_g (zw_gc (R v0 23) 13) (zw_g (zw_in ((4 * v2) + v3) (zw_SH (R v0 23)).2) (zw_let (((v6 * (I (R v0 23) (Int32.toNatClampNeg ((4 * v2) + v3)))) / 1000) : Int32) fun x32 => (zw_let (zw_u I v0 54 ((I v0 54) + (v6 - x32)) : zI) fun I33 => ((f_X11_follows v0 v1 v2 v3 v8 v9 v7 x32 I33 R).bind fun q34 => (some q34))))) else j_X11_lamp_164 v0 v6 I R)))
theorem j_X11_lamp_138_ok (X : zw_X) (P : Option Value → aS → Prop) (v0 : Nat) (v1 : Int32) (v2 : Int32) (v3 : Int32) (v4 : Int32) (v6 : Int32) (v7 : Int32) (v8 : Int32) (v9 : Int32) (I : zI) (R : zR) (J : zJ) (o : zI) (hf : j_X11_lamp_138 v0 v1 v2 v3 v4 v6 v7 v8 v9 I R = some o) (hk : P none (o, R, J)) : zy_V X M_X11_lamp 3 P 138 [.ref v0, .int v1, .int v2, .int v3, .int v4, .null, .int v6, .int v7, .int v8, .int v9, .null, .null] [] (I, R, J) := by
  unfold j_X11_lamp_138 at hf
  refine zv_aload_n (pc := 138) d_X11_lamp_138 rfl ?_
  refine zv_iload_n (pc := 139) d_X11_lamp_139 rfl ?_
  refine zv_iload (pc := 140) d_X11_lamp_140 rfl ?_
  refine zv_iload (pc := 142) d_X11_lamp_142 rfl ?_
  obtain ⟨g23, hf⟩ := zw_gcE hf (by decide)
  obtain ⟨q24, hq24, hf⟩ := zw_bdE hf
  refine zx_callV (pc := 144) (As := [.int v1, .int v8, .int v9]) (o := v0) (st := []) (d2 := 0) (M2 := M_X11_cellAt) (P2 := (fun r S => r = (some (.int q24)) ∧ S = (I, R, J))) d_X11_lamp_144 (zw_mG (List.mem_of_getElem? (i := 1533) (by decide +kernel)) rfl) ce_X11_cellAt (zw_RvK g23 rfl rfl) (Nat.le_of_ble_eq_true rfl) rfl (Nat.le_of_ble_eq_true rfl) (by decide) (c_X11_cellAt X v0 v1 v8 v9 I R J _ hq24 ⟨rfl, rfl⟩) ?_
  rintro _ _ ⟨rfl, rfl⟩
  show zy_V X M_X11_lamp 3 P (144 + 3) [.ref v0, .int v1, .int v2, .int v3, .int v4, .null, .int v6, .int v7, .int v8, .int v9, .null, .null] [.int q24] (I, R, J)
  refine zx_istore (pc := 147) (x2 := q24) (L2 := [.ref v0, .int v1, .int v2, .int v3, .int v4, .null, .int v6, .int v7, .int v8, .int v9, .int q24, .null]) d_X11_lamp_147 (by decide) rfl rfl ?_
  refine zv_iload (pc := 149) d_X11_lamp_149 rfl ?_
  rcases zw_ifE hf with ⟨c25, hf⟩ | ⟨c25, hf⟩
  · refine zv_if_eq (pc := 151) (tg := 164) d_X11_lamp_151 (by decide) (fun _ => ?_) (fun q => absurd c25 q)
    exact zx_weak (zw_leS (zw_leN (zw_leN (zw_leN (zw_leN (zw_leN (zw_leS (zw_leN (zw_leN (zw_leN (zw_leN (zw_leN zw_leZ)))))))))))) (j_X11_lamp_164_ok X P v0 v6 I R J _ hf hk)
  · refine zv_if_eq (pc := 151) (tg := 164) d_X11_lamp_151 (by decide) (fun q => absurd q c25) (fun _ => ?_)
    refine zv_iload (pc := 154) d_X11_lamp_154 rfl ?_
    refine zv_iload (pc := 156) d_X11_lamp_156 rfl ?_
    obtain ⟨q28, hq28, hf⟩ := zw_bdE hf
    refine zx_callS (pc := 158) (As := [.int q24, .int v4]) (st := []) (d2 := 1) (M2 := M_X11_hasSide) (P2 := (fun r S => r = (some (.int q28)) ∧ S = (I, R, J))) d_X11_lamp_158 (zw_mG (List.mem_of_getElem? (i := 1574) (by decide +kernel)) rfl) ce_X11_hasSide (Nat.le_of_ble_eq_true rfl) rfl (Nat.le_of_ble_eq_true rfl) (by decide) (c_X11_hasSide X q24 v4 I R J _ hq28 ⟨rfl, rfl⟩) ?_
    rintro _ _ ⟨rfl, rfl⟩
    show zy_V X M_X11_lamp 3 P (158 + 3) [.ref v0, .int v1, .int v2, .int v3, .int v4, .null, .int v6, .int v7, .int v8, .int v9, .int q24, .null] [.int q28] (I, R, J)
    rcases zw_ifE hf with ⟨c29, hf⟩ | ⟨c29, hf⟩
    · refine zv_if_ne (pc := 161) (tg := 176) d_X11_lamp_161 (by decide) (fun _ => ?_) (fun q => absurd q c29)
      refine zv_iload (pc := 176) d_X11_lamp_176 rfl ?_
      refine zv_aload_n (pc := 178) d_X11_lamp_178 rfl ?_
      obtain ⟨g30, hf⟩ := zw_gcE hf (by decide)
      refine zx_getR (pc := 179) d_X11_lamp_179 lk_CutStonesModel_49 (by decide) g23 g30 ?_
      refine zv_iconst (pc := 182) d_X11_lamp_182 zc_i_4 ?_
      refine zv_iload_n (pc := 183) d_X11_lamp_183 rfl ?_
      refine zv_imul (pc := 184) d_X11_lamp_184 ?_
      refine zv_iload_n (pc := 185) d_X11_lamp_185 rfl ?_
      refine zv_iadd (pc := 186) d_X11_lamp_186 ?_
      obtain ⟨i31, hf⟩ := zw_inE hf
      refine zx_iald (pc := 187) d_X11_lamp_187 g30 i31 ?_
      refine zv_imul (pc := 188) d_X11_lamp_188 ?_
      refine zv_sipush (pc := 189) d_X11_lamp_189 zc_s_1000 ?_
      refine zv_idiv (pc := 192) d_X11_lamp_192 (by decide +kernel) ?_
      obtain ⟨x32, ex32, hf⟩ := zw_letE hf
      refine zx_istore (pc := 193) (x2 := x32) (L2 := [.ref v0, .int v1, .int v2, .int v3, .int v4, .null, .int v6, .int v7, .int v8, .int v9, .int q24, .int x32]) d_X11_lamp_193 (by decide) ex32 rfl ?_
      refine zv_aload_n (pc := 195) d_X11_lamp_195 rfl ?_
      refine zv_dup (pc := 196) d_X11_lamp_196 rfl ?_
      refine zx_getI (pc := 197) d_X11_lamp_197 lk_CutStonesModel_328 (by decide) g23 ?_
      refine zv_iload (pc := 200) d_X11_lamp_200 rfl ?_
      refine zv_iload (pc := 202) d_X11_lamp_202 rfl ?_
      refine zv_isub (pc := 204) d_X11_lamp_204 ?_
      refine zv_iadd (pc := 205) d_X11_lamp_205 ?_
      obtain ⟨I33, eI33, hf⟩ := zw_letE hf
      refine zx_putI (pc := 206) (I2 := I33) d_X11_lamp_206 lk_CutStonesModel_328 rfl g23 eI33 ?_
      refine zv_aload_n (pc := 209) d_X11_lamp_209 rfl ?_
      refine zv_iload_n (pc := 210) d_X11_lamp_210 rfl ?_
      refine zv_iload_n (pc := 211) d_X11_lamp_211 rfl ?_
      refine zv_iload_n (pc := 212) d_X11_lamp_212 rfl ?_
      refine zv_iload (pc := 213) d_X11_lamp_213 rfl ?_
      refine zv_iload (pc := 215) d_X11_lamp_215 rfl ?_
      refine zv_iload (pc := 217) d_X11_lamp_217 rfl ?_
      refine zv_iload (pc := 219) d_X11_lamp_219 rfl ?_
      obtain ⟨q34, hq34, hf⟩ := zw_bdE hf
      refine zx_callV (pc := 221) (As := [.int v1, .int v2, .int v3, .int v8, .int v9, .int v7, .int x32]) (o := v0) (st := []) (d2 := 2) (M2 := M_X11_follows) (P2 := (fun r S => r = none ∧ S = (q34, R, J))) d_X11_lamp_221 (zw_mG (List.mem_of_getElem? (i := 1583) (by decide +kernel)) rfl) ce_X11_follows (zw_RvK g23 rfl rfl) (Nat.le_of_ble_eq_true rfl) rfl (Nat.le_of_ble_eq_true rfl) (by decide) (c_X11_follows X v0 v1 v2 v3 v8 v9 v7 x32 I33 R J _ hq34 ⟨rfl, rfl⟩) ?_
      rintro _ _ ⟨rfl, rfl⟩
      show zy_V X M_X11_lamp 3 P (221 + 3) [.ref v0, .int v1, .int v2, .int v3, .int v4, .null, .int v6, .int v7, .int v8, .int v9, .int q24, .int x32] [] (q34, R, J)
      cases hf
      exact zx_vret (pc := 224) d_X11_lamp_224 rfl hk
    · refine zv_if_ne (pc := 161) (tg := 176) d_X11_lamp_161 (by decide) (fun q => absurd q c29) (fun _ => ?_)
      exact zx_weak (zw_leS (zw_leN (zw_leN (zw_leN (zw_leN (zw_leN (zw_leS (zw_leN (zw_leN (zw_leN (zw_leN (zw_leN zw_leZ)))))))))))) (j_X11_lamp_164_ok X P v0 v6 I R J _ hf hk)
def j_X11_lamp_74 (v0 : Nat) (v1 : Int32) (v2 : Int32) (v3 : Int32) (v4 : Int32) (v6 : Int32) (v7 : Int32) (v8 : Int32) (s0 : Int32) (I : zI) (R : zR) : Option (zI) :=
  (zw_it (s_X11_lamp_76 v0 v1 v2 v3 v4 v6 v7 I R) 1000000 (v8, s0)).bind fun q22 => (j_X11_lamp_138 v0 v1 v2 v3 v4 v6 v7 q22.1 q22.2 I R)
theorem j_X11_lamp_74_ok (X : zw_X) (P : Option Value → aS → Prop) (v0 : Nat) (v1 : Int32) (v2 : Int32) (v3 : Int32) (v4 : Int32) (v6 : Int32) (v7 : Int32) (v8 : Int32) (s0 : Int32) (I : zI) (R : zR) (J : zJ) (o : zI) (hf : j_X11_lamp_74 v0 v1 v2 v3 v4 v6 v7 v8 s0 I R = some o) (hk : P none (o, R, J)) : zy_V X M_X11_lamp 3 P 74 [.ref v0, .int v1, .int v2, .int v3, .int v4, .null, .int v6, .int v7, .int v8, .null, .null, .null] [.int s0] (I, R, J) := by
  unfold j_X11_lamp_74 at hf
  refine zx_istore (pc := 74) (x2 := s0) (L2 := [.ref v0, .int v1, .int v2, .int v3, .int v4, .null, .int v6, .int v7, .int v8, .int s0, .null, .null]) d_X11_lamp_74 (by decide) rfl rfl ?_
  obtain ⟨q22, hq22, hf⟩ := zw_bdE hf
  refine zx_weak (L' := [.ref v0, .int v1, .int v2, .int v3, .int v4, .null, .int v6, .int v7, .int v8, .int s0, .null, .null]) (zw_leS (zw_leS (zw_leS (zw_leS (zw_leS (zw_leN (zw_leS (zw_leS (zw_leS (zw_leS (zw_leN (zw_leN zw_leZ)))))))))))) (s_X11_lamp_76_lp X P v0 v1 v2 v3 v4 v6 v7 I R J _ _ _ hq22 ?_)
  show zy_V X M_X11_lamp 3 P 138 [.ref v0, .int v1, .int v2, .int v3, .int v4, .null, .int v6, .int v7, .int q22.1, .int q22.2, .null, .null] [] (I, R, J)
  exact zx_weak (zw_leS (zw_leS (zw_leS (zw_leS (zw_leS (zw_leN (zw_leS (zw_leS (zw_leS (zw_leS (zw_leN (zw_leN zw_leZ)))))))))))) (j_X11_lamp_138_ok X P v0 v1 v2 v3 v4 v6 v7 q22.1 q22.2 I R J _ hf hk)
def j_X11_lamp_61 (v0 : Nat) (v1 : Int32) (v2 : Int32) (v3 : Int32) (v4 : Int32) (v5 : Int32) (v6 : Int32) (v7 : Int32) (s0 : Int32) (I : zI) (R : zR) : Option (zI) :=
  if ¬ v4 = 0 then j_X11_lamp_74 v0 v1 v2 v3 v4 v6 v7 s0 v5 I R else j_X11_lamp_74 v0 v1 v2 v3 v4 v6 v7 s0 0 I R
theorem j_X11_lamp_61_ok (X : zw_X) (P : Option Value → aS → Prop) (v0 : Nat) (v1 : Int32) (v2 : Int32) (v3 : Int32) (v4 : Int32) (v5 : Int32) (v6 : Int32) (v7 : Int32) (s0 : Int32) (I : zI) (R : zR) (J : zJ) (o : zI) (hf : j_X11_lamp_61 v0 v1 v2 v3 v4 v5 v6 v7 s0 I R = some o) (hk : P none (o, R, J)) : zy_V X M_X11_lamp 3 P 61 [.ref v0, .int v1, .int v2, .int v3, .int v4, .int v5, .int v6, .int v7, .null, .null, .null, .null] [.int s0] (I, R, J) := by
  unfold j_X11_lamp_61 at hf
  refine zx_istore (pc := 61) (x2 := s0) (L2 := [.ref v0, .int v1, .int v2, .int v3, .int v4, .int v5, .int v6, .int v7, .int s0, .null, .null, .null]) d_X11_lamp_61 (by decide) rfl rfl ?_
  refine zv_iload (pc := 63) d_X11_lamp_63 rfl ?_
  rcases zw_ifE hf with ⟨c7, hf⟩ | ⟨c7, hf⟩
  · refine zv_if_ne (pc := 65) (tg := 72) d_X11_lamp_65 (by decide) (fun _ => ?_) (fun q => absurd q c7)
    refine zv_iload (pc := 72) d_X11_lamp_72 rfl ?_
    exact zx_weak (zw_leS (zw_leS (zw_leS (zw_leS (zw_leS (zw_leN (zw_leS (zw_leS (zw_leS (zw_leN (zw_leN (zw_leN zw_leZ)))))))))))) (j_X11_lamp_74_ok X P v0 v1 v2 v3 v4 v6 v7 s0 v5 I R J _ hf hk)
  · refine zv_if_ne (pc := 65) (tg := 72) d_X11_lamp_65 (by decide) (fun q => absurd q c7) (fun _ => ?_)
    refine zv_iconst (pc := 68) d_X11_lamp_68 zc_i_0 ?_
    refine zv_goto (pc := 69) (tg := 74) d_X11_lamp_69 (by decide) ?_
    exact zx_weak (zw_leS (zw_leS (zw_leS (zw_leS (zw_leS (zw_leN (zw_leS (zw_leS (zw_leS (zw_leN (zw_leN (zw_leN zw_leZ)))))))))))) (j_X11_lamp_74_ok X P v0 v1 v2 v3 v4 v6 v7 s0 0 I R J _ hf hk)
def j_X11_lamp_31 (v0 : Nat) (v1 : Int32) (v2 : Int32) (v3 : Int32) (v4 : Int32) (v5 : Int32) (v6 : Int32) (s0 : Int32) (I : zI) (R : zR) : Option (zI) :=
  if ¬ v4 = 0 then if ¬ v4 = 1 then j_X11_lamp_61 v0 v1 v2 v3 v4 v5 v6 s0 0 I R else zw_g (zw_gc v0 11) (zw_g (zw_gc (R v0 28) 13) (zw_g (zw_in v1 (zw_SH (R v0 28)).2) (j_X11_lamp_61 v0 v1 v2 v3 v4 v5 v6 s0 ((I (R v0 28) (Int32.toNatClampNeg v1)) - 1) I R))) else j_X11_lamp_61 v0 v1 v2 v3 v4 v5 v6 s0 v5 I R
theorem j_X11_lamp_31_ok (X : zw_X) (P : Option Value → aS → Prop) (v0 : Nat) (v1 : Int32) (v2 : Int32) (v3 : Int32) (v4 : Int32) (v5 : Int32) (v6 : Int32) (s0 : Int32) (I : zI) (R : zR) (J : zJ) (o : zI) (hf : j_X11_lamp_31 v0 v1 v2 v3 v4 v5 v6 s0 I R = some o) (hk : P none (o, R, J)) : zy_V X M_X11_lamp 3 P 31 [.ref v0, .int v1, .int v2, .int v3, .int v4, .int v5, .int v6, .null, .null, .null, .null, .null] [.int s0] (I, R, J) := by
  unfold j_X11_lamp_31 at hf
  refine zx_istore (pc := 31) (x2 := s0) (L2 := [.ref v0, .int v1, .int v2, .int v3, .int v4, .int v5, .int v6, .int s0, .null, .null, .null, .null]) d_X11_lamp_31 (by decide) rfl rfl ?_
  refine zv_iload (pc := 33) d_X11_lamp_33 rfl ?_
  rcases zw_ifE hf with ⟨c5, hf⟩ | ⟨c5, hf⟩
  · refine zv_if_ne (pc := 35) (tg := 43) d_X11_lamp_35 (by decide) (fun _ => ?_) (fun q => absurd q c5)
    refine zv_iload (pc := 43) d_X11_lamp_43 rfl ?_
    refine zv_iconst (pc := 45) d_X11_lamp_45 zc_i_1 ?_
    rcases zw_ifE hf with ⟨c6, hf⟩ | ⟨c6, hf⟩
    · refine zv_icmp_ne (pc := 46) (tg := 60) d_X11_lamp_46 (by decide) (fun _ => ?_) (fun q => absurd q c6)
      refine zv_iconst (pc := 60) d_X11_lamp_60 zc_i_0 ?_
      exact zx_weak (zw_leS (zw_leS (zw_leS (zw_leS (zw_leS (zw_leS (zw_leS (zw_leS (zw_leN (zw_leN (zw_leN (zw_leN zw_leZ)))))))))))) (j_X11_lamp_61_ok X P v0 v1 v2 v3 v4 v5 v6 s0 0 I R J _ hf hk)
    · refine zv_icmp_ne (pc := 46) (tg := 60) d_X11_lamp_46 (by decide) (fun q => absurd q c6) (fun _ => ?_)
      refine zv_aload_n (pc := 49) d_X11_lamp_49 rfl ?_
      obtain ⟨g35, hf⟩ := zw_gcE hf (by decide)
      obtain ⟨g36, hf⟩ := zw_gcE hf (by decide)
      refine zx_getR (pc := 50) d_X11_lamp_50 lk_CutStonesModel_64 (by decide) g35 g36 ?_
      refine zv_iload_n (pc := 53) d_X11_lamp_53 rfl ?_
      obtain ⟨i37, hf⟩ := zw_inE hf
      refine zx_iald (pc := 54) d_X11_lamp_54 g36 i37 ?_
      refine zv_iconst (pc := 55) d_X11_lamp_55 zc_i_1 ?_
      refine zv_isub (pc := 56) d_X11_lamp_56 ?_
      refine zv_goto (pc := 57) (tg := 61) d_X11_lamp_57 (by decide) ?_
      exact zx_weak (zw_leS (zw_leS (zw_leS (zw_leS (zw_leS (zw_leS (zw_leS (zw_leS (zw_leN (zw_leN (zw_leN (zw_leN zw_leZ)))))))))))) (j_X11_lamp_61_ok X P v0 v1 v2 v3 v4 v5 v6 s0 ((I (R v0 28) (Int32.toNatClampNeg v1)) - 1) I R J _ hf hk)
  · refine zv_if_ne (pc := 35) (tg := 43) d_X11_lamp_35 (by decide) (fun q => absurd q c5) (fun _ => ?_)
    refine zv_iload (pc := 38) d_X11_lamp_38 rfl ?_
    refine zv_goto (pc := 40) (tg := 61) d_X11_lamp_40 (by decide) ?_
    exact zx_weak (zw_leS (zw_leS (zw_leS (zw_leS (zw_leS (zw_leS (zw_leS (zw_leS (zw_leN (zw_leN (zw_leN (zw_leN zw_leZ)))))))))))) (j_X11_lamp_61_ok X P v0 v1 v2 v3 v4 v5 v6 s0 v5 I R J _ hf hk)
def f_X11_lamp (v0 : Nat) (v1 : Int32) (v2 : Int32) (v3 : Int32) (v4 : Int32) (v5 : Int32) (v6 : Int32) (I : zI) (R : zR) : Option (zI) :=
  zw_g (zw_gc v0 11) (zw_let (zw_u I v0 59 ((I v0 59) + v6) : zI) fun I2 => (if ¬ v4 = 0 then if ¬ v4 = 1 then j_X11_lamp_31 v0 v1 v2 v3 v4 v5 v6 1 I2 R else j_X11_lamp_31 v0 v1 v2 v3 v4 v5 v6 3 I2 R else j_X11_lamp_31 v0 v1 v2 v3 v4 v5 v6 2 I2 R))
theorem c_X11_lamp (X : zw_X) (v0 : Nat) (v1 : Int32) (v2 : Int32) (v3 : Int32) (v4 : Int32) (v5 : Int32) (v6 : Int32) (I : zI) (R : zR) (J : zJ) {P : Option Value → aS → Prop} (o : zI) (hf : f_X11_lamp v0 v1 v2 v3 v4 v5 v6 I R = some o) (hk : P none (o, R, J)) : zw_C X M_X11_lamp 3 0 0 199 [.ref v0, .int v1, .int v2, .int v3, .int v4, .int v5, .int v6] (I, R, J) P := by
  show zy_V X M_X11_lamp 3 P 0 [.ref v0, .int v1, .int v2, .int v3, .int v4, .int v5, .int v6, .null, .null, .null, .null, .null] [] (I, R, J)
  unfold f_X11_lamp at hf
  refine zv_aload_n (pc := 0) d_X11_lamp_0 rfl ?_
  refine zv_dup (pc := 1) d_X11_lamp_1 rfl ?_
  obtain ⟨g1, hf⟩ := zw_gcE hf (by decide)
  refine zx_getI (pc := 2) d_X11_lamp_2 lk_CutStonesModel_343 (by decide) g1 ?_
  refine zv_iload (pc := 5) d_X11_lamp_5 rfl ?_
  refine zv_iadd (pc := 7) d_X11_lamp_7 ?_
  obtain ⟨I2, eI2, hf⟩ := zw_letE hf
  refine zx_putI (pc := 8) (I2 := I2) d_X11_lamp_8 lk_CutStonesModel_343 rfl g1 eI2 ?_
  refine zv_iload (pc := 11) d_X11_lamp_11 rfl ?_
  rcases zw_ifE hf with ⟨c3, hf⟩ | ⟨c3, hf⟩
  · refine zv_if_ne (pc := 13) (tg := 20) d_X11_lamp_13 (by decide) (fun _ => ?_) (fun q => absurd q c3)
    refine zv_iload (pc := 20) d_X11_lamp_20 rfl ?_
    refine zv_iconst (pc := 22) d_X11_lamp_22 zc_i_1 ?_
    rcases zw_ifE hf with ⟨c4, hf⟩ | ⟨c4, hf⟩
    · refine zv_icmp_ne (pc := 23) (tg := 30) d_X11_lamp_23 (by decide) (fun _ => ?_) (fun q => absurd q c4)
      refine zv_iconst (pc := 30) d_X11_lamp_30 zc_i_1 ?_
      exact zx_weak (zw_leS (zw_leS (zw_leS (zw_leS (zw_leS (zw_leS (zw_leS (zw_leN (zw_leN (zw_leN (zw_leN (zw_leN zw_leZ)))))))))))) (j_X11_lamp_31_ok X P v0 v1 v2 v3 v4 v5 v6 1 I2 R J _ hf hk)
    · refine zv_icmp_ne (pc := 23) (tg := 30) d_X11_lamp_23 (by decide) (fun q => absurd q c4) (fun _ => ?_)
      refine zv_iconst (pc := 26) d_X11_lamp_26 zc_i_3 ?_
      refine zv_goto (pc := 27) (tg := 31) d_X11_lamp_27 (by decide) ?_
      exact zx_weak (zw_leS (zw_leS (zw_leS (zw_leS (zw_leS (zw_leS (zw_leS (zw_leN (zw_leN (zw_leN (zw_leN (zw_leN zw_leZ)))))))))))) (j_X11_lamp_31_ok X P v0 v1 v2 v3 v4 v5 v6 3 I2 R J _ hf hk)
  · refine zv_if_ne (pc := 13) (tg := 20) d_X11_lamp_13 (by decide) (fun q => absurd q c3) (fun _ => ?_)
    refine zv_iconst (pc := 16) d_X11_lamp_16 zc_i_2 ?_
    refine zv_goto (pc := 17) (tg := 31) d_X11_lamp_17 (by decide) ?_
    exact zx_weak (zw_leS (zw_leS (zw_leS (zw_leS (zw_leS (zw_leS (zw_leS (zw_leN (zw_leN (zw_leN (zw_leN (zw_leN zw_leZ)))))))))))) (j_X11_lamp_31_ok X P v0 v1 v2 v3 v4 v5 v6 2 I2 R J _ hf hk)
