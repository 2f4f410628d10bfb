abbrev M_X10_forgetAll : zw_M := (⟨"CutStones", "forgetAll", "()V"⟩, prog_1_method_30_code, 1, (Option.none : Option Jvm.ClassFile.FieldType))
theorem d_X10_forgetAll_0 : decode M_X10_forgetAll.2.1 0 = .ok (.aload_n 0, 1) := by decide +kernel
theorem d_X10_forgetAll_1 : decode M_X10_forgetAll.2.1 1 = .ok (.iconst 0, 1) := by decide +kernel
theorem d_X10_forgetAll_2 : decode M_X10_forgetAll.2.1 2 = .ok (.putfield 37, 3) := by decide +kernel
theorem d_X10_forgetAll_5 : decode M_X10_forgetAll.2.1 5 = .ok (.aload_n 0, 1) := by decide +kernel
theorem d_X10_forgetAll_6 : decode M_X10_forgetAll.2.1 6 = .ok (.iconst 0, 1) := by decide +kernel
theorem d_X10_forgetAll_7 : decode M_X10_forgetAll.2.1 7 = .ok (.putfield 48, 3) := by decide +kernel
theorem d_X10_forgetAll_10 : decode M_X10_forgetAll.2.1 10 = .ok (.aload_n 0, 1) := by decide +kernel
theorem d_X10_forgetAll_11 : decode M_X10_forgetAll.2.1 11 = .ok (.getfield 71, 3) := by decide +kernel
theorem d_X10_forgetAll_14 : decode M_X10_forgetAll.2.1 14 = .ok (.iconst 0, 1) := by decide +kernel
theorem d_X10_forgetAll_15 : decode M_X10_forgetAll.2.1 15 = .ok (.putfield 279, 3) := by decide +kernel
theorem d_X10_forgetAll_18 : decode M_X10_forgetAll.2.1 18 = .ok (.aload_n 0, 1) := by decide +kernel
theorem d_X10_forgetAll_19 : decode M_X10_forgetAll.2.1 19 = .ok (.getfield 65, 3) := by decide +kernel
theorem d_X10_forgetAll_22 : decode M_X10_forgetAll.2.1 22 = .ok (.iconst (-1), 1) := by decide +kernel
theorem d_X10_forgetAll_23 : decode M_X10_forgetAll.2.1 23 = .ok (.invokestatic 82, 3) := by decide +kernel
theorem d_X10_forgetAll_26 : decode M_X10_forgetAll.2.1 26 = .ok (.aload_n 0, 1) := by decide +kernel
theorem d_X10_forgetAll_27 : decode M_X10_forgetAll.2.1 27 = .ok (.getfield 75, 3) := by decide +kernel
theorem d_X10_forgetAll_30 : decode M_X10_forgetAll.2.1 30 = .ok (.iconst (-1), 1) := by decide +kernel
theorem d_X10_forgetAll_31 : decode M_X10_forgetAll.2.1 31 = .ok (.invokestatic 82, 3) := by decide +kernel
theorem d_X10_forgetAll_34 : decode M_X10_forgetAll.2.1 34 = .ok (.return_, 1) := by decide +kernel
theorem ce_X10_forgetAll : zw_CeV M_X10_forgetAll 0 := ⟨⟨⟨by decide +kernel, by decide +kernel, by decide +kernel⟩, (zw_mG (List.mem_of_getElem? (i := 832) (by decide +kernel)) rfl), (zw_mG (List.mem_of_getElem? (i := 96) (by decide +kernel)) rfl), by decide, by decide +kernel⟩, (zw_mG (List.mem_of_getElem? (i := 831) (by decide +kernel)) rfl), (zw_mG (List.mem_of_getElem? (i := 22) (by decide +kernel)) rfl)⟩
def f_X10_forgetAll (v0 : Nat) (I : zI) (R : zR) : Option (zI) :=
  zw_g (zw_gc v0 10) (zw_let (zw_u I v0 4 0 : zI) fun I2 => (zw_let (zw_u I2 v0 6 0 : zI) fun I3 => (zw_g (zw_gc (R v0 11) 9) (zw_let (zw_u I3 (R v0 11) 0 0 : zI) fun I5 => (zw_g (zw_gc (R v0 10) 13) ((f_J7_fill_53178 (R v0 10) (-1) I5).bind fun q7 => (zw_g (zw_gc (R v0 12) 13) ((f_J7_fill_53178 (R v0 12) (-1) q7).bind fun q9 => (some q9)))))))))
theorem c_X10_forgetAll (X : zw_X) (v0 : Nat) (I : zI) (R : zR) (J : zJ) {P : Option Value → aS → Prop} (o : zI) (hf : f_X10_forgetAll v0 I R = some o) (hk : P none (o, R, J)) : zw_C X M_X10_forgetAll 1 0 0 199 [.ref v0] (I, R, J) P := by
  show zy_V X M_X10_forgetAll 1 P 0 [.ref v0] [] (I, R, J)
  unfold f_X10_forgetAll at hf
  refine zv_aload_n (pc := 0) d_X10_forgetAll_0 rfl ?_
  refine zv_iconst (pc := 1) d_X10_forgetAll_1 zc_i_0 ?_
  obtain ⟨g1, hf⟩ := zw_gcE hf (by decide)
  obtain ⟨I2, eI2, hf⟩ := zw_letE hf
  refine zx_putZ (pc := 2) (I2 := I2) d_X10_forgetAll_2 lk_CutStones_37 rfl (Or.inl rfl) g1 eI2 ?_
  refine zv_aload_n (pc := 5) d_X10_forgetAll_5 rfl ?_
  refine zv_iconst (pc := 6) d_X10_forgetAll_6 zc_i_0 ?_
  obtain ⟨I3, eI3, hf⟩ := zw_letE hf
  refine zx_putZ (pc := 7) (I2 := I3) d_X10_forgetAll_7 lk_CutStones_48 rfl (Or.inl rfl) g1 eI3 ?_
  refine zv_aload_n (pc := 10) d_X10_forgetAll_10 rfl ?_
  obtain ⟨g4, hf⟩ := zw_gcE hf (by decide)
  refine zx_getR (pc := 11) d_X10_forgetAll_11 lk_CutStones_71 (by decide) g1 g4 ?_
  refine zv_iconst (pc := 14) d_X10_forgetAll_14 zc_i_0 ?_
  obtain ⟨I5, eI5, hf⟩ := zw_letE hf
  refine zx_putI (pc := 15) (I2 := I5) d_X10_forgetAll_15 lk_CutStones_279 rfl g4 eI5 ?_
  refine zv_aload_n (pc := 18) d_X10_forgetAll_18 rfl ?_
  obtain ⟨g6, hf⟩ := zw_gcE hf (by decide)
  refine zx_getR (pc := 19) d_X10_forgetAll_19 lk_CutStones_65 (by decide) g1 g6 ?_
  refine zv_iconst (pc := 22) d_X10_forgetAll_22 zc_i_m1 ?_
  obtain ⟨q7, hq7, hf⟩ := zw_bdE hf
  refine zx_callS (pc := 23) (As := [.ref (R v0 10), .int (-1)]) (st := []) (d2 := 0) (M2 := M_J7_fill_53178) (P2 := (fun r S => r = none ∧ S = (q7, R, J))) d_X10_forgetAll_23 (zw_mG (List.mem_of_getElem? (i := 478) (by decide +kernel)) rfl) ce_J7_fill_53178 (Nat.le_of_ble_eq_true rfl) rfl (Nat.le_of_ble_eq_true rfl) (by decide) (c_J7_fill_53178 X (R v0 10) (-1) I5 R J _ hq7 ⟨rfl, rfl⟩) ?_
  rintro _ _ ⟨rfl, rfl⟩
  show zy_V X M_X10_forgetAll 1 P (23 + 3) [.ref v0] [] (q7, R, J)
  refine zv_aload_n (pc := 26) d_X10_forgetAll_26 rfl ?_
  obtain ⟨g8, hf⟩ := zw_gcE hf (by decide)
  refine zx_getR (pc := 27) d_X10_forgetAll_27 lk_CutStones_75 (by decide) g1 g8 ?_
  refine zv_iconst (pc := 30) d_X10_forgetAll_30 zc_i_m1 ?_
  obtain ⟨q9, hq9, hf⟩ := zw_bdE hf
  refine zx_callS (pc := 31) (As := [.ref (R v0 12), .int (-1)]) (st := []) (d2 := 0) (M2 := M_J7_fill_53178) (P2 := (fun r S => r = none ∧ S = (q9, R, J))) d_X10_forgetAll_31 (zw_mG (List.mem_of_getElem? (i := 478) (by decide +kernel)) rfl) ce_J7_fill_53178 (Nat.le_of_ble_eq_true rfl) rfl (Nat.le_of_ble_eq_true rfl) (by decide) (c_J7_fill_53178 X (R v0 12) (-1) q7 R J _ hq9 ⟨rfl, rfl⟩) ?_
  rintro _ _ ⟨rfl, rfl⟩
  show zy_V X M_X10_forgetAll 1 P (31 + 3) [.ref v0] [] (q9, R, J)
  cases hf
  exact zx_vret (pc := 34) d_X10_forgetAll_34 rfl hk
abbrev M_X10_isDrawing : zw_M := (⟨"CutStones", "isDrawing", "(ZI)Z"⟩, prog_1_method_34_code, 3, (Option.some Jvm.ClassFile.FieldType.boolean))
theorem d_X10_isDrawing_0 : decode M_X10_isDrawing.2.1 0 = .ok (.iload_n 1, 1) := by decide +kernel
theorem d_X10_isDrawing_1 : decode M_X10_isDrawing.2.1 1 = .ok (.ifCond .eq 11, 3) := by decide +kernel
theorem d_X10_isDrawing_4 : decode M_X10_isDrawing.2.1 4 = .ok (.aload_n 0, 1) := by decide +kernel
theorem d_X10_isDrawing_5 : decode M_X10_isDrawing.2.1 5 = .ok (.iload_n 2, 1) := by decide +kernel
theorem d_X10_isDrawing_6 : decode M_X10_isDrawing.2.1 6 = .ok (.invokevirtual 208, 3) := by decide +kernel
theorem d_X10_isDrawing_9 : decode M_X10_isDrawing.2.1 9 = .ok (.goto 8, 3) := by decide +kernel
theorem d_X10_isDrawing_12 : decode M_X10_isDrawing.2.1 12 = .ok (.aload_n 0, 1) := by decide +kernel
theorem d_X10_isDrawing_13 : decode M_X10_isDrawing.2.1 13 = .ok (.iload_n 2, 1) := by decide +kernel
theorem d_X10_isDrawing_14 : decode M_X10_isDrawing.2.1 14 = .ok (.invokevirtual 137, 3) := by decide +kernel
theorem d_X10_isDrawing_17 : decode M_X10_isDrawing.2.1 17 = .ok (.ireturn, 1) := by decide +kernel
theorem ce_X10_isDrawing : zw_CeV M_X10_isDrawing 2 := ⟨⟨⟨by decide +kernel, by decide +kernel, by decide +kernel⟩, (zw_mG (List.mem_of_getElem? (i := 844) (by decide +kernel)) rfl), (zw_mG (List.mem_of_getElem? (i := 96) (by decide +kernel)) rfl), by decide, by decide +kernel⟩, (zw_mG (List.mem_of_getElem? (i := 843) (by decide +kernel)) rfl), (zw_mG (List.mem_of_getElem? (i := 23) (by decide +kernel)) rfl)⟩
def f_X10_isDrawing (v0 : Nat) (v1 : Int32) (v2 : Int32) (I : zI) (R : zR) : Option (Int32) :=
  if v1 = 0 then zw_g (zw_gc v0 10) ((f_X10_isCut v0 v2 I R).bind fun q3 => (zw_g (zw_b q3) (some q3))) else zw_g (zw_gc v0 10) ((f_X10_isRough v0 v2 I R).bind fun q6 => (zw_g (zw_b q6) (some q6)))
theorem c_X10_isDrawing (X : zw_X) (v0 : Nat) (v1 : Int32) (v2 : Int32) (I : zI) (R : zR) (J : zJ) {P : Option Value → aS → Prop} (o : Int32) (hf : f_X10_isDrawing v0 v1 v2 I R = some o) (hk : P (some (.int o)) (I, R, J)) : zw_C X M_X10_isDrawing 1 0 0 199 [.ref v0, .int v1, .int v2] (I, R, J) P := by
  show zy_V X M_X10_isDrawing 1 P 0 [.ref v0, .int v1, .int v2] [] (I, R, J)
  unfold f_X10_isDrawing at hf
  refine zv_iload_n (pc := 0) d_X10_isDrawing_0 rfl ?_
  rcases zw_ifE hf with ⟨c1, hf⟩ | ⟨c1, hf⟩
  · refine zv_if_eq (pc := 1) (tg := 12) d_X10_isDrawing_1 (by decide) (fun _ => ?_) (fun q => absurd c1 q)
    refine zv_aload_n (pc := 12) d_X10_isDrawing_12 rfl ?_
    refine zv_iload_n (pc := 13) d_X10_isDrawing_13 rfl ?_
    obtain ⟨g2, hf⟩ := zw_gcE hf (by decide)
    obtain ⟨q3, hq3, hf⟩ := zw_bdE hf
    refine zx_callV (pc := 14) (As := [.int v2]) (o := v0) (st := []) (d2 := 0) (M2 := M_X10_isCut) (P2 := (fun r S => r = (some (.int q3)) ∧ S = (I, R, J))) d_X10_isDrawing_14 (zw_mG (List.mem_of_getElem? (i := 849) (by decide +kernel)) rfl) ce_X10_isCut (zw_RvK g2 rfl rfl) (Nat.le_of_ble_eq_true rfl) rfl (Nat.le_of_ble_eq_true rfl) (by decide) (c_X10_isCut X v0 v2 I R J _ hq3 ⟨rfl, rfl⟩) ?_
    rintro _ _ ⟨rfl, rfl⟩
    show zy_V X M_X10_isDrawing 1 P (14 + 3) [.ref v0, .int v1, .int v2] [.int q3] (I, R, J)
    obtain ⟨b4, hf⟩ := zw_bE hf
    cases hf
    exact zx_zret (pc := 17) d_X10_isDrawing_17 rfl b4 hk
  · refine zv_if_eq (pc := 1) (tg := 12) d_X10_isDrawing_1 (by decide) (fun q => absurd q c1) (fun _ => ?_)
    refine zv_aload_n (pc := 4) d_X10_isDrawing_4 rfl ?_
    refine zv_iload_n (pc := 5) d_X10_isDrawing_5 rfl ?_
    obtain ⟨g5, hf⟩ := zw_gcE hf (by decide)
    obtain ⟨q6, hq6, hf⟩ := zw_bdE hf
    refine zx_callV (pc := 6) (As := [.int v2]) (o := v0) (st := []) (d2 := 0) (M2 := M_X10_isRough) (P2 := (fun r S => r = (some (.int q6)) ∧ S = (I, R, J))) d_X10_isDrawing_6 (zw_mG (List.mem_of_getElem? (i := 845) (by decide +kernel)) rfl) ce_X10_isRough (zw_RvK g5 rfl rfl) (Nat.le_of_ble_eq_true rfl) rfl (Nat.le_of_ble_eq_true rfl) (by decide) (c_X10_isRough X v0 v2 I R J _ hq6 ⟨rfl, rfl⟩) ?_
    rintro _ _ ⟨rfl, rfl⟩
    show zy_V X M_X10_isDrawing 1 P (6 + 3) [.ref v0, .int v1, .int v2] [.int q6] (I, R, J)
    refine zv_goto (pc := 9) (tg := 17) d_X10_isDrawing_9 (by decide) ?_
    obtain ⟨b7, hf⟩ := zw_bE hf
    cases hf
    exact zx_zret (pc := 17) d_X10_isDrawing_17 rfl b7 hk
abbrev M_X10_test : zw_M := (⟨"CutStones", "test", "(III)I"⟩, prog_1_method_22_code, 4, (Option.some Jvm.ClassFile.FieldType.int))
theorem d_X10_test_0 : decode M_X10_test.2.1 0 = .ok (.aload_n 0, 1) := by decide +kernel
theorem d_X10_test_1 : decode M_X10_test.2.1 1 = .ok (.iload_n 1, 1) := by decide +kernel
theorem d_X10_test_2 : decode M_X10_test.2.1 2 = .ok (.invokevirtual 137, 3) := by decide +kernel
theorem d_X10_test_5 : decode M_X10_test.2.1 5 = .ok (.ifCond .eq 20, 3) := by decide +kernel
theorem d_X10_test_8 : decode M_X10_test.2.1 8 = .ok (.iload_n 2, 1) := by decide +kernel
theorem d_X10_test_9 : decode M_X10_test.2.1 9 = .ok (.invokestatic 152, 3) := by decide +kernel
theorem d_X10_test_12 : decode M_X10_test.2.1 12 = .ok (.ifCond .eq 13, 3) := by decide +kernel
theorem d_X10_test_15 : decode M_X10_test.2.1 15 = .ok (.iload_n 3, 1) := by decide +kernel
theorem d_X10_test_16 : decode M_X10_test.2.1 16 = .ok (.ifCond .lt 9, 3) := by decide +kernel
theorem d_X10_test_19 : decode M_X10_test.2.1 19 = .ok (.iload_n 3, 1) := by decide +kernel
theorem d_X10_test_20 : decode M_X10_test.2.1 20 = .ok (.ldc 158, 2) := by decide +kernel
theorem d_X10_test_22 : decode M_X10_test.2.1 22 = .ok (.if_icmp .le 5, 3) := by decide +kernel
theorem d_X10_test_25 : decode M_X10_test.2.1 25 = .ok (.iconst (-1), 1) := by decide +kernel
theorem d_X10_test_26 : decode M_X10_test.2.1 26 = .ok (.ireturn, 1) := by decide +kernel
theorem d_X10_test_27 : decode M_X10_test.2.1 27 = .ok (.aload_n 0, 1) := by decide +kernel
theorem d_X10_test_28 : decode M_X10_test.2.1 28 = .ok (.getfield 71, 3) := by decide +kernel
theorem d_X10_test_31 : decode M_X10_test.2.1 31 = .ok (.iload_n 1, 1) := by decide +kernel
theorem d_X10_test_32 : decode M_X10_test.2.1 32 = .ok (.iload_n 2, 1) := by decide +kernel
theorem d_X10_test_33 : decode M_X10_test.2.1 33 = .ok (.iload_n 3, 1) := by decide +kernel
theorem d_X10_test_34 : decode M_X10_test.2.1 34 = .ok (.invokevirtual 236, 3) := by decide +kernel
theorem d_X10_test_37 : decode M_X10_test.2.1 37 = .ok (.ireturn, 1) := by decide +kernel
theorem ce_X10_test : zw_CeV M_X10_test 3 := ⟨⟨⟨by decide +kernel, by decide +kernel, by decide +kernel⟩, (zw_mG (List.mem_of_getElem? (i := 1077) (by decide +kernel)) rfl), (zw_mG (List.mem_of_getElem? (i := 96) (by decide +kernel)) rfl), by decide, by decide +kernel⟩, (zw_mG (List.mem_of_getElem? (i := 1075) (by decide +kernel)) rfl), (zw_mG (List.mem_of_getElem? (i := 1076) (by decide +kernel)) rfl)⟩
def f_X10_test (v0 : Nat) (v1 : Int32) (v2 : Int32) (v3 : Int32) (I : zI) (R : zR) : Option (Int32 × zI) :=
  zw_g (zw_gc v0 10) ((f_X10_isCut v0 v1 I R).bind fun q2 => (if q2 = 0 then some ((-1), I) else (f_X10_isColour v2).bind fun q4 => (if q4 = 0 then some ((-1), I) else if v3 < 0 then some ((-1), I) else if v3 ≤ 100000 then zw_g (zw_gc (R v0 11) 9) ((f_X9_addTest (R v0 11) v1 v2 v3 I R).bind fun q9 => (some (q9.1, q9.2))) else some ((-1), I))))
theorem c_X10_test (X : zw_X) (v0 : Nat) (v1 : Int32) (v2 : Int32) (v3 : Int32) (I : zI) (R : zR) (J : zJ) {P : Option Value → aS → Prop} (o : Int32 × zI) (hf : f_X10_test v0 v1 v2 v3 I R = some o) (hk : P (some (.int o.1)) (o.2, R, J)) : zw_C X M_X10_test 1 0 0 199 [.ref v0, .int v1, .int v2, .int v3] (I, R, J) P := by
  show zy_V X M_X10_test 1 P 0 [.ref v0, .int v1, .int v2, .int v3] [] (I, R, J)
  unfold f_X10_test at hf
  refine zv_aload_n (pc := 0) d_X10_test_0 rfl ?_
  refine zv_iload_n (pc := 1) d_X10_test_1 rfl ?_
  obtain ⟨g1, hf⟩ := zw_gcE hf (by decide)
  obtain ⟨q2, hq2, hf⟩ := zw_bdE hf
  refine zx_callV (pc := 2) (As := [.int v1]) (o := v0) (st := []) (d2 := 0) (M2 := M_X10_isCut) (P2 := (fun r S => r = (some (.int q2)) ∧ S = (I, R, J))) d_X10_test_2 (zw_mG (List.mem_of_getElem? (i := 849) (by decide +kernel)) rfl) ce_X10_isCut (zw_RvK g1 rfl rfl) (Nat.le_of_ble_eq_true rfl) rfl (Nat.le_of_ble_eq_true rfl) (by decide) (c_X10_isCut X v0 v1 I R J _ hq2 ⟨rfl, rfl⟩) ?_
  rintro _ _ ⟨rfl, rfl⟩
  show zy_V X M_X10_test 1 P (2 + 3) [.ref v0, .int v1, .int v2, .int v3] [.int q2] (I, R, J)
  rcases zw_ifE hf with ⟨c3, hf⟩ | ⟨c3, hf⟩
  · refine zv_if_eq (pc := 5) (tg := 25) d_X10_test_5 (by decide) (fun _ => ?_) (fun q => absurd c3 q)
    refine zv_iconst (pc := 25) d_X10_test_25 zc_i_m1 ?_
    cases hf
    exact zx_iret (pc := 26) d_X10_test_26 rfl hk
  · refine zv_if_eq (pc := 5) (tg := 25) d_X10_test_5 (by decide) (fun q => absurd q c3) (fun _ => ?_)
    refine zv_iload_n (pc := 8) d_X10_test_8 rfl ?_
    obtain ⟨q4, hq4, hf⟩ := zw_bdE hf
    refine zx_callS (pc := 9) (As := [.int v2]) (st := []) (d2 := 0) (M2 := M_X10_isColour) (P2 := (fun r S => r = (some (.int q4)) ∧ S = (I, R, J))) d_X10_test_9 (zw_mG (List.mem_of_getElem? (i := 884) (by decide +kernel)) rfl) ce_X10_isColour (Nat.le_of_ble_eq_true rfl) rfl (Nat.le_of_ble_eq_true rfl) (by decide) (c_X10_isColour X v2 I R J _ hq4 ⟨rfl, rfl⟩) ?_
    rintro _ _ ⟨rfl, rfl⟩
    show zy_V X M_X10_test 1 P (9 + 3) [.ref v0, .int v1, .int v2, .int v3] [.int q4] (I, R, J)
    rcases zw_ifE hf with ⟨c5, hf⟩ | ⟨c5, hf⟩
    · refine zv_if_eq (pc := 12) (tg := 25) d_X10_test_12 (by decide) (fun _ => ?_) (fun q => absurd c5 q)
      refine zv_iconst (pc := 25) d_X10_test_25 zc_i_m1 ?_
      cases hf
      exact zx_iret (pc := 26) d_X10_test_26 rfl hk
    · refine zv_if_eq (pc := 12) (tg := 25) d_X10_test_12 (by decide) (fun q => absurd q c5) (fun _ => ?_)
      refine zv_iload_n (pc := 15) d_X10_test_15 rfl ?_
      rcases zw_ifE hf with ⟨c6, hf⟩ | ⟨c6, hf⟩
      · refine zv_if_lt (pc := 16) (tg := 25) d_X10_test_16 (by decide) (fun _ => ?_) (fun q => absurd c6 q)
        refine zv_iconst (pc := 25) d_X10_test_25 zc_i_m1 ?_
        cases hf
        exact zx_iret (pc := 26) d_X10_test_26 rfl hk
      · refine zv_if_lt (pc := 16) (tg := 25) d_X10_test_16 (by decide) (fun q => absurd q c6) (fun _ => ?_)
        refine zv_iload_n (pc := 19) d_X10_test_19 rfl ?_
        refine zv_ldc (pc := 20) (v := 100000) d_X10_test_20 (zw_mG (List.mem_of_getElem? (i := 891) (by decide +kernel)) rfl) ?_
        rcases zw_ifE hf with ⟨c7, hf⟩ | ⟨c7, hf⟩
        · refine zv_icmp_le (pc := 22) (tg := 27) d_X10_test_22 (by decide) (fun _ => ?_) (fun q => absurd c7 q)
          refine zv_aload_n (pc := 27) d_X10_test_27 rfl ?_
          obtain ⟨g8, hf⟩ := zw_gcE hf (by decide)
          refine zx_getR (pc := 28) d_X10_test_28 lk_CutStones_71 (by decide) g1 g8 ?_
          refine zv_iload_n (pc := 31) d_X10_test_31 rfl ?_
          refine zv_iload_n (pc := 32) d_X10_test_32 rfl ?_
          refine zv_iload_n (pc := 33) d_X10_test_33 rfl ?_
          obtain ⟨q9, hq9, hf⟩ := zw_bdE hf
          refine zx_callV (pc := 34) (As := [.int v1, .int v2, .int v3]) (o := (R v0 11)) (st := []) (d2 := 0) (M2 := M_X9_addTest) (P2 := (fun r S => r = (some (.int q9.1)) ∧ S = (q9.2, R, J))) d_X10_test_34 (zw_mG (List.mem_of_getElem? (i := 1078) (by decide +kernel)) rfl) ce_X9_addTest (zw_RvK g8 rfl rfl) (Nat.le_of_ble_eq_true rfl) rfl (Nat.le_of_ble_eq_true rfl) (by decide) (c_X9_addTest X (R v0 11) v1 v2 v3 I R J _ hq9 ⟨rfl, rfl⟩) ?_
          rintro _ _ ⟨rfl, rfl⟩
          show zy_V X M_X10_test 1 P (34 + 3) [.ref v0, .int v1, .int v2, .int v3] [.int q9.1] (q9.2, R, J)
          cases hf
          exact zx_iret (pc := 37) d_X10_test_37 rfl hk
        · refine zv_icmp_le (pc := 22) (tg := 27) d_X10_test_22 (by decide) (fun q => absurd q c7) (fun _ => ?_)
          refine zv_iconst (pc := 25) d_X10_test_25 zc_i_m1 ?_
          cases hf
          exact zx_iret (pc := 26) d_X10_test_26 rfl hk
abbrev M_X11_annul : zw_M := (⟨"CutStonesModel", "annul", "(I)I"⟩, prog_13_method_78_code, 2, (Option.some Jvm.ClassFile.FieldType.int))
theorem d_X11_annul_0 : decode M_X11_annul.2.1 0 = .ok (.aload_n 0, 1) := by decide +kernel
theorem d_X11_annul_1 : decode M_X11_annul.2.1 1 = .ok (.getfield 273, 3) := by decide +kernel
theorem d_X11_annul_4 : decode M_X11_annul.2.1 4 = .ok (.bipush 60, 2) := by decide +kernel
theorem d_X11_annul_6 : decode M_X11_annul.2.1 6 = .ok (.if_icmp .eq 27, 3) := by decide +kernel
theorem d_X11_annul_9 : decode M_X11_annul.2.1 9 = .ok (.iload_n 1, 1) := by decide +kernel
theorem d_X11_annul_10 : decode M_X11_annul.2.1 10 = .ok (.iconst 0, 1) := by decide +kernel
theorem d_X11_annul_11 : decode M_X11_annul.2.1 11 = .ok (.aload_n 0, 1) := by decide +kernel
theorem d_X11_annul_12 : decode M_X11_annul.2.1 12 = .ok (.getfield 273, 3) := by decide +kernel
theorem d_X11_annul_15 : decode M_X11_annul.2.1 15 = .ok (.iconst 1, 1) := by decide +kernel
theorem d_X11_annul_16 : decode M_X11_annul.2.1 16 = .ok (.isub, 1) := by decide +kernel
theorem d_X11_annul_17 : decode M_X11_annul.2.1 17 = .ok (.invokestatic 373, 3) := by decide +kernel
theorem d_X11_annul_20 : decode M_X11_annul.2.1 20 = .ok (.ifCond .eq 13, 3) := by decide +kernel
theorem d_X11_annul_23 : decode M_X11_annul.2.1 23 = .ok (.aload_n 0, 1) := by decide +kernel
theorem d_X11_annul_24 : decode M_X11_annul.2.1 24 = .ok (.getfield 161, 3) := by decide +kernel
theorem d_X11_annul_27 : decode M_X11_annul.2.1 27 = .ok (.iload_n 1, 1) := by decide +kernel
theorem d_X11_annul_28 : decode M_X11_annul.2.1 28 = .ok (.iaload, 1) := by decide +kernel
theorem d_X11_annul_29 : decode M_X11_annul.2.1 29 = .ok (.iconst (-1), 1) := by decide +kernel
theorem d_X11_annul_30 : decode M_X11_annul.2.1 30 = .ok (.if_icmp .eq 5, 3) := by decide +kernel
theorem d_X11_annul_33 : decode M_X11_annul.2.1 33 = .ok (.iconst (-1), 1) := by decide +kernel
theorem d_X11_annul_34 : decode M_X11_annul.2.1 34 = .ok (.ireturn, 1) := by decide +kernel
theorem d_X11_annul_35 : decode M_X11_annul.2.1 35 = .ok (.aload_n 0, 1) := by decide +kernel
theorem d_X11_annul_36 : decode M_X11_annul.2.1 36 = .ok (.getfield 161, 3) := by decide +kernel
theorem d_X11_annul_39 : decode M_X11_annul.2.1 39 = .ok (.aload_n 0, 1) := by decide +kernel
theorem d_X11_annul_40 : decode M_X11_annul.2.1 40 = .ok (.getfield 273, 3) := by decide +kernel
theorem d_X11_annul_43 : decode M_X11_annul.2.1 43 = .ok (.iload_n 1, 1) := by decide +kernel
theorem d_X11_annul_44 : decode M_X11_annul.2.1 44 = .ok (.iastore, 1) := by decide +kernel
theorem d_X11_annul_45 : decode M_X11_annul.2.1 45 = .ok (.aload_n 0, 1) := by decide +kernel
theorem d_X11_annul_46 : decode M_X11_annul.2.1 46 = .ok (.dup, 1) := by decide +kernel
theorem d_X11_annul_47 : decode M_X11_annul.2.1 47 = .ok (.getfield 273, 3) := by decide +kernel
theorem d_X11_annul_50 : decode M_X11_annul.2.1 50 = .ok (.iconst 1, 1) := by decide +kernel
theorem d_X11_annul_51 : decode M_X11_annul.2.1 51 = .ok (.iadd, 1) := by decide +kernel
theorem d_X11_annul_52 : decode M_X11_annul.2.1 52 = .ok (.putfield 273, 3) := by decide +kernel
theorem d_X11_annul_55 : decode M_X11_annul.2.1 55 = .ok (.aload_n 0, 1) := by decide +kernel
theorem d_X11_annul_56 : decode M_X11_annul.2.1 56 = .ok (.getfield 273, 3) := by decide +kernel
theorem d_X11_annul_59 : decode M_X11_annul.2.1 59 = .ok (.iconst 1, 1) := by decide +kernel
theorem d_X11_annul_60 : decode M_X11_annul.2.1 60 = .ok (.isub, 1) := by decide +kernel
theorem d_X11_annul_61 : decode M_X11_annul.2.1 61 = .ok (.ireturn, 1) := by decide +kernel
theorem ce_X11_annul : zw_CeV M_X11_annul 1 := ⟨⟨⟨by decide +kernel, by decide +kernel, by decide +kernel⟩, (zw_mG (List.mem_of_getElem? (i := 1688) (by decide +kernel)) rfl), (zw_mG (List.mem_of_getElem? (i := 108) (by decide +kernel)) rfl), by decide, by decide +kernel⟩, (zw_mG (List.mem_of_getElem? (i := 1686) (by decide +kernel)) rfl), (zw_mG (List.mem_of_getElem? (i := 1687) (by decide +kernel)) rfl)⟩
def f_X11_annul (v0 : Nat) (v1 : Int32) (I : zI) (R : zR) : Option (Int32 × zI) :=
  zw_g (zw_gc v0 11) (if (I v0 75) = 60 then some ((-1), I) else (f_X11_in v1 0 ((I v0 75) - 1)).bind fun q3 => (if q3 = 0 then some ((-1), I) else zw_g (zw_gc (R v0 76) 13) (zw_g (zw_in v1 (zw_SH (R v0 76)).2) (if (I (R v0 76) (Int32.toNatClampNeg v1)) = (-1) then zw_g (zw_in (I v0 75) (zw_SH (R v0 76)).2) (zw_let (zw_u I (R v0 76) (Int32.toNatClampNeg (I v0 75)) v1 : zI) fun I9 => (zw_let (zw_u I9 v0 75 ((I9 v0 75) + 1) : zI) fun I10 => (some (((I10 v0 75) - 1), I10)))) else some ((-1), I)))))
theorem c_X11_annul (X : zw_X) (v0 : Nat) (v1 : Int32) (I : zI) (R : zR) (J : zJ) {P : Option Value → aS → Prop} (o : Int32 × zI) (hf : f_X11_annul v0 v1 I R = some o) (hk : P (some (.int o.1)) (o.2, R, J)) : zw_C X M_X11_annul 1 0 0 199 [.ref v0, .int v1] (I, R, J) P := by
  show zy_V X M_X11_annul 1 P 0 [.ref v0, .int v1] [] (I, R, J)
  unfold f_X11_annul at hf
  refine zv_aload_n (pc := 0) d_X11_annul_0 rfl ?_
  obtain ⟨g1, hf⟩ := zw_gcE hf (by decide)
  refine zx_getI (pc := 1) d_X11_annul_1 lk_CutStonesModel_273 (by decide) g1 ?_
  refine zv_bipush (pc := 4) d_X11_annul_4 zc_b_60 ?_
  rcases zw_ifE hf with ⟨c2, hf⟩ | ⟨c2, hf⟩
  · refine zv_icmp_eq (pc := 6) (tg := 33) d_X11_annul_6 (by decide) (fun _ => ?_) (fun q => absurd c2 q)
    refine zv_iconst (pc := 33) d_X11_annul_33 zc_i_m1 ?_
    cases hf
    exact zx_iret (pc := 34) d_X11_annul_34 rfl hk
  · refine zv_icmp_eq (pc := 6) (tg := 33) d_X11_annul_6 (by decide) (fun q => absurd q c2) (fun _ => ?_)
    refine zv_iload_n (pc := 9) d_X11_annul_9 rfl ?_
    refine zv_iconst (pc := 10) d_X11_annul_10 zc_i_0 ?_
    refine zv_aload_n (pc := 11) d_X11_annul_11 rfl ?_
    refine zx_getI (pc := 12) d_X11_annul_12 lk_CutStonesModel_273 (by decide) g1 ?_
    refine zv_iconst (pc := 15) d_X11_annul_15 zc_i_1 ?_
    refine zv_isub (pc := 16) d_X11_annul_16 ?_
    obtain ⟨q3, hq3, hf⟩ := zw_bdE hf
    refine zx_callS (pc := 17) (As := [.int v1, .int 0, .int ((I v0 75) - 1)]) (st := []) (d2 := 0) (M2 := M_X11_in) (P2 := (fun r S => r = (some (.int q3)) ∧ S = (I, R, J))) d_X11_annul_17 (zw_mG (List.mem_of_getElem? (i := 1522) (by decide +kernel)) rfl) ce_X11_in (Nat.le_of_ble_eq_true rfl) rfl (Nat.le_of_ble_eq_true rfl) (by decide) (c_X11_in X v1 0 ((I v0 75) - 1) I R J _ hq3 ⟨rfl, rfl⟩) ?_
    rintro _ _ ⟨rfl, rfl⟩
    show zy_V X M_X11_annul 1 P (17 + 3) [.ref v0, .int v1] [.int q3] (I, R, J)
    rcases zw_ifE hf with ⟨c4, hf⟩ | ⟨c4, hf⟩
    · refine zv_if_eq (pc := 20) (tg := 33) d_X11_annul_20 (by decide) (fun _ => ?_) (fun q => absurd c4 q)
      refine zv_iconst (pc := 33) d_X11_annul_33 zc_i_m1 ?_
      cases hf
      exact zx_iret (pc := 34) d_X11_annul_34 rfl hk
    · refine zv_if_eq (pc := 20) (tg := 33) d_X11_annul_20 (by decide) (fun q => absurd q c4) (fun _ => ?_)
      refine zv_aload_n (pc := 23) d_X11_annul_23 rfl ?_
      obtain ⟨g5, hf⟩ := zw_gcE hf (by decide)
      refine zx_getR (pc := 24) d_X11_annul_24 lk_CutStonesModel_161 (by decide) g1 g5 ?_
      refine zv_iload_n (pc := 27) d_X11_annul_27 rfl ?_
      obtain ⟨i6, hf⟩ := zw_inE hf
      refine zx_iald (pc := 28) d_X11_annul_28 g5 i6 ?_
      refine zv_iconst (pc := 29) d_X11_annul_29 zc_i_m1 ?_
      rcases zw_ifE hf with ⟨c7, hf⟩ | ⟨c7, hf⟩
      · refine zv_icmp_eq (pc := 30) (tg := 35) d_X11_annul_30 (by decide) (fun _ => ?_) (fun q => absurd c7 q)
        refine zv_aload_n (pc := 35) d_X11_annul_35 rfl ?_
        refine zx_getR (pc := 36) d_X11_annul_36 lk_CutStonesModel_161 (by decide) g1 g5 ?_
        refine zv_aload_n (pc := 39) d_X11_annul_39 rfl ?_
        refine zx_getI (pc := 40) d_X11_annul_40 lk_CutStonesModel_273 (by decide) g1 ?_
        refine zv_iload_n (pc := 43) d_X11_annul_43 rfl ?_
        obtain ⟨i8, hf⟩ := zw_inE hf
        obtain ⟨I9, eI9, hf⟩ := zw_letE hf
        refine zx_iast (pc := 44) (I2 := I9) d_X11_annul_44 g5 i8 eI9 ?_
        refine zv_aload_n (pc := 45) d_X11_annul_45 rfl ?_
        refine zv_dup (pc := 46) d_X11_annul_46 rfl ?_
        refine zx_getI (pc := 47) d_X11_annul_47 lk_CutStonesModel_273 (by decide) g1 ?_
        refine zv_iconst (pc := 50) d_X11_annul_50 zc_i_1 ?_
        refine zv_iadd (pc := 51) d_X11_annul_51 ?_
        obtain ⟨I10, eI10, hf⟩ := zw_letE hf
        refine zx_putI (pc := 52) (I2 := I10) d_X11_annul_52 lk_CutStonesModel_273 rfl g1 eI10 ?_
        refine zv_aload_n (pc := 55) d_X11_annul_55 rfl ?_
        refine zx_getI (pc := 56) d_X11_annul_56 lk_CutStonesModel_273 (by decide) g1 ?_
        refine zv_iconst (pc := 59) d_X11_annul_59 zc_i_1 ?_
        refine zv_isub (pc := 60) d_X11_annul_60 ?_
        cases hf
        exact zx_iret (pc := 61) d_X11_annul_61 rfl hk
      · refine zv_icmp_eq (pc := 30) (tg := 35) d_X11_annul_30 (by decide) (fun q => absurd q c7) (fun _ => ?_)
        refine zv_iconst (pc := 33) d_X11_annul_33 zc_i_m1 ?_
        cases hf
        exact zx_iret (pc := 34) d_X11_annul_34 rfl hk
abbrev M_X11_column : zw_M := (⟨"CutStonesModel", "column", "(I)I"⟩, prog_13_method_63_code, 2, (Option.some Jvm.ClassFile.FieldType.int))
theorem d_X11_column_0 : decode M_X11_column.2.1 0 = .ok (.aload_n 0, 1) := by decide +kernel
theorem d_X11_column_1 : decode M_X11_column.2.1 1 = .ok (.getfield 267, 3) := by decide +kernel
theorem d_X11_column_4 : decode M_X11_column.2.1 4 = .ok (.ifCond .eq 26, 3) := by decide +kernel
theorem d_X11_column_7 : decode M_X11_column.2.1 7 = .ok (.iload_n 1, 1) := by decide +kernel
theorem d_X11_column_8 : decode M_X11_column.2.1 8 = .ok (.iconst 0, 1) := by decide +kernel
theorem d_X11_column_9 : decode M_X11_column.2.1 9 = .ok (.aload_n 0, 1) := by decide +kernel
theorem d_X11_column_10 : decode M_X11_column.2.1 10 = .ok (.getfield 416, 3) := by decide +kernel
theorem d_X11_column_13 : decode M_X11_column.2.1 13 = .ok (.iconst 1, 1) := by decide +kernel
theorem d_X11_column_14 : decode M_X11_column.2.1 14 = .ok (.isub, 1) := by decide +kernel
theorem d_X11_column_15 : decode M_X11_column.2.1 15 = .ok (.invokestatic 373, 3) := by decide +kernel
theorem d_X11_column_18 : decode M_X11_column.2.1 18 = .ok (.ifCond .eq 12, 3) := by decide +kernel
theorem d_X11_column_21 : decode M_X11_column.2.1 21 = .ok (.aload_n 0, 1) := by decide +kernel
theorem d_X11_column_22 : decode M_X11_column.2.1 22 = .ok (.getfield 146, 3) := by decide +kernel
theorem d_X11_column_25 : decode M_X11_column.2.1 25 = .ok (.iload_n 1, 1) := by decide +kernel
theorem d_X11_column_26 : decode M_X11_column.2.1 26 = .ok (.iaload, 1) := by decide +kernel
theorem d_X11_column_27 : decode M_X11_column.2.1 27 = .ok (.goto 4, 3) := by decide +kernel
theorem d_X11_column_30 : decode M_X11_column.2.1 30 = .ok (.iconst (-1), 1) := by decide +kernel
theorem d_X11_column_31 : decode M_X11_column.2.1 31 = .ok (.ireturn, 1) := by decide +kernel
theorem ce_X11_column : zw_CeV M_X11_column 1 := ⟨⟨⟨by decide +kernel, by decide +kernel, by decide +kernel⟩, (zw_mG (List.mem_of_getElem? (i := 1615) (by decide +kernel)) rfl), (zw_mG (List.mem_of_getElem? (i := 108) (by decide +kernel)) rfl), by decide, by decide +kernel⟩, (zw_mG (List.mem_of_getElem? (i := 1613) (by decide +kernel)) rfl), (zw_mG (List.mem_of_getElem? (i := 1614) (by decide +kernel)) rfl)⟩
def f_X11_column (v0 : Nat) (v1 : Int32) (I : zI) (R : zR) : Option (Int32) :=
  zw_g (zw_gc v0 11) (if (I v0 65) = 0 then some (-1) else (f_X11_in v1 0 ((I v0 66) - 1)).bind fun q3 => (if q3 = 0 then some (-1) else zw_g (zw_gc (R v0 69) 13) (zw_g (zw_in v1 (zw_SH (R v0 69)).2) (some (I (R v0 69) (Int32.toNatClampNeg v1))))))
theorem c_X11_column (X : zw_X) (v0 : Nat) (v1 : Int32) (I : zI) (R : zR) (J : zJ) {P : Option Value → aS → Prop} (o : Int32) (hf : f_X11_column v0 v1 I R = some o) (hk : P (some (.int o)) (I, R, J)) : zw_C X M_X11_column 1 0 0 199 [.ref v0, .int v1] (I, R, J) P := by
  show zy_V X M_X11_column 1 P 0 [.ref v0, .int v1] [] (I, R, J)
  unfold f_X11_column at hf
  refine zv_aload_n (pc := 0) d_X11_column_0 rfl ?_
  obtain ⟨g1, hf⟩ := zw_gcE hf (by decide)
  refine zx_getI (pc := 1) d_X11_column_1 lk_CutStonesModel_267 (by decide) g1 ?_
  rcases zw_ifE hf with ⟨c2, hf⟩ | ⟨c2, hf⟩
  · refine zv_if_eq (pc := 4) (tg := 30) d_X11_column_4 (by decide) (fun _ => ?_) (fun q => absurd c2 q)
    refine zv_iconst (pc := 30) d_X11_column_30 zc_i_m1 ?_
    cases hf
    exact zx_iret (pc := 31) d_X11_column_31 rfl hk
  · refine zv_if_eq (pc := 4) (tg := 30) d_X11_column_4 (by decide) (fun q => absurd q c2) (fun _ => ?_)
    refine zv_iload_n (pc := 7) d_X11_column_7 rfl ?_
    refine zv_iconst (pc := 8) d_X11_column_8 zc_i_0 ?_
    refine zv_aload_n (pc := 9) d_X11_column_9 rfl ?_
    refine zx_getI (pc := 10) d_X11_column_10 lk_CutStonesModel_416 (by decide) g1 ?_
    refine zv_iconst (pc := 13) d_X11_column_13 zc_i_1 ?_
    refine zv_isub (pc := 14) d_X11_column_14 ?_
    obtain ⟨q3, hq3, hf⟩ := zw_bdE hf
    refine zx_callS (pc := 15) (As := [.int v1, .int 0, .int ((I v0 66) - 1)]) (st := []) (d2 := 0) (M2 := M_X11_in) (P2 := (fun r S => r = (some (.int q3)) ∧ S = (I, R, J))) d_X11_column_15 (zw_mG (List.mem_of_getElem? (i := 1522) (by decide +kernel)) rfl) ce_X11_in (Nat.le_of_ble_eq_true rfl) rfl (Nat.le_of_ble_eq_true rfl) (by decide) (c_X11_in X v1 0 ((I v0 66) - 1) I R J _ hq3 ⟨rfl, rfl⟩) ?_
    rintro _ _ ⟨rfl, rfl⟩
    show zy_V X M_X11_column 1 P (15 + 3) [.ref v0, .int v1] [.int q3] (I, R, J)
    rcases zw_ifE hf with ⟨c4, hf⟩ | ⟨c4, hf⟩
    · refine zv_if_eq (pc := 18) (tg := 30) d_X11_column_18 (by decide) (fun _ => ?_) (fun q => absurd c4 q)
      refine zv_iconst (pc := 30) d_X11_column_30 zc_i_m1 ?_
      cases hf
      exact zx_iret (pc := 31) d_X11_column_31 rfl hk
    · refine zv_if_eq (pc := 18) (tg := 30) d_X11_column_18 (by decide) (fun q => absurd q c4) (fun _ => ?_)
      refine zv_aload_n (pc := 21) d_X11_column_21 rfl ?_
      obtain ⟨g5, hf⟩ := zw_gcE hf (by decide)
      refine zx_getR (pc := 22) d_X11_column_22 lk_CutStonesModel_146 (by decide) g1 g5 ?_
      refine zv_iload_n (pc := 25) d_X11_column_25 rfl ?_
      obtain ⟨i6, hf⟩ := zw_inE hf
      refine zx_iald (pc := 26) d_X11_column_26 g5 i6 ?_
      refine zv_goto (pc := 27) (tg := 31) d_X11_column_27 (by decide) ?_
      cases hf
      exact zx_iret (pc := 31) d_X11_column_31 rfl hk
abbrev M_X11_comesOut : zw_M := (⟨"CutStonesModel", "comesOut", "(Z)V"⟩, prog_13_method_30_code, 3, (Option.none : Option Jvm.ClassFile.FieldType))
theorem d_X11_comesOut_0 : decode M_X11_comesOut.2.1 0 = .ok (.aload_n 0, 1) := by decide +kernel
theorem d_X11_comesOut_1 : decode M_X11_comesOut.2.1 1 = .ok (.getfield 306, 3) := by decide +kernel
theorem d_X11_comesOut_4 : decode M_X11_comesOut.2.1 4 = .ok (.ifCond .le 87, 3) := by decide +kernel
theorem d_X11_comesOut_7 : decode M_X11_comesOut.2.1 7 = .ok (.aload_n 0, 1) := by decide +kernel
theorem d_X11_comesOut_8 : decode M_X11_comesOut.2.1 8 = .ok (.getfield 116, 3) := by decide +kernel
theorem d_X11_comesOut_11 : decode M_X11_comesOut.2.1 11 = .ok (.aload_n 0, 1) := by decide +kernel
theorem d_X11_comesOut_12 : decode M_X11_comesOut.2.1 12 = .ok (.getfield 306, 3) := by decide +kernel
theorem d_X11_comesOut_15 : decode M_X11_comesOut.2.1 15 = .ok (.iconst 1, 1) := by decide +kernel
theorem d_X11_comesOut_16 : decode M_X11_comesOut.2.1 16 = .ok (.isub, 1) := by decide +kernel
theorem d_X11_comesOut_17 : decode M_X11_comesOut.2.1 17 = .ok (.iaload, 1) := by decide +kernel
theorem d_X11_comesOut_18 : decode M_X11_comesOut.2.1 18 = .ok (.istore_n 2, 1) := by decide +kernel
theorem d_X11_comesOut_19 : decode M_X11_comesOut.2.1 19 = .ok (.iload_n 2, 1) := by decide +kernel
theorem d_X11_comesOut_20 : decode M_X11_comesOut.2.1 20 = .ok (.bipush 6, 2) := by decide +kernel
theorem d_X11_comesOut_22 : decode M_X11_comesOut.2.1 22 = .ok (.if_icmp .eq 19, 3) := by decide +kernel
theorem d_X11_comesOut_25 : decode M_X11_comesOut.2.1 25 = .ok (.iload_n 1, 1) := by decide +kernel
theorem d_X11_comesOut_26 : decode M_X11_comesOut.2.1 26 = .ok (.ifCond .eq 16, 3) := by decide +kernel
theorem d_X11_comesOut_29 : decode M_X11_comesOut.2.1 29 = .ok (.iload_n 2, 1) := by decide +kernel
theorem d_X11_comesOut_30 : decode M_X11_comesOut.2.1 30 = .ok (.bipush 8, 2) := by decide +kernel
theorem d_X11_comesOut_32 : decode M_X11_comesOut.2.1 32 = .ok (.if_icmp .eq 9, 3) := by decide +kernel
theorem d_X11_comesOut_35 : decode M_X11_comesOut.2.1 35 = .ok (.iload_n 2, 1) := by decide +kernel
theorem d_X11_comesOut_36 : decode M_X11_comesOut.2.1 36 = .ok (.bipush 9, 2) := by decide +kernel
theorem d_X11_comesOut_38 : decode M_X11_comesOut.2.1 38 = .ok (.if_icmp .ne 4, 3) := by decide +kernel
theorem d_X11_comesOut_41 : decode M_X11_comesOut.2.1 41 = .ok (.return_, 1) := by decide +kernel
theorem d_X11_comesOut_42 : decode M_X11_comesOut.2.1 42 = .ok (.aload_n 0, 1) := by decide +kernel
theorem d_X11_comesOut_43 : decode M_X11_comesOut.2.1 43 = .ok (.dup, 1) := by decide +kernel
theorem d_X11_comesOut_44 : decode M_X11_comesOut.2.1 44 = .ok (.getfield 306, 3) := by decide +kernel
theorem d_X11_comesOut_47 : decode M_X11_comesOut.2.1 47 = .ok (.iconst 1, 1) := by decide +kernel
theorem d_X11_comesOut_48 : decode M_X11_comesOut.2.1 48 = .ok (.isub, 1) := by decide +kernel
theorem d_X11_comesOut_49 : decode M_X11_comesOut.2.1 49 = .ok (.putfield 306, 3) := by decide +kernel
theorem d_X11_comesOut_52 : decode M_X11_comesOut.2.1 52 = .ok (.aload_n 0, 1) := by decide +kernel
theorem d_X11_comesOut_53 : decode M_X11_comesOut.2.1 53 = .ok (.iload_n 2, 1) := by decide +kernel
theorem d_X11_comesOut_54 : decode M_X11_comesOut.2.1 54 = .ok (.bipush 8, 2) := by decide +kernel
theorem d_X11_comesOut_56 : decode M_X11_comesOut.2.1 56 = .ok (.if_icmp .ne 7, 3) := by decide +kernel
theorem d_X11_comesOut_59 : decode M_X11_comesOut.2.1 59 = .ok (.iconst 2, 1) := by decide +kernel
theorem d_X11_comesOut_60 : decode M_X11_comesOut.2.1 60 = .ok (.goto 24, 3) := by decide +kernel
theorem d_X11_comesOut_63 : decode M_X11_comesOut.2.1 63 = .ok (.iload_n 2, 1) := by decide +kernel
theorem d_X11_comesOut_64 : decode M_X11_comesOut.2.1 64 = .ok (.bipush 9, 2) := by decide +kernel
theorem d_X11_comesOut_66 : decode M_X11_comesOut.2.1 66 = .ok (.if_icmp .ne 7, 3) := by decide +kernel
theorem d_X11_comesOut_69 : decode M_X11_comesOut.2.1 69 = .ok (.iconst 3, 1) := by decide +kernel
theorem d_X11_comesOut_70 : decode M_X11_comesOut.2.1 70 = .ok (.goto 14, 3) := by decide +kernel
theorem d_X11_comesOut_73 : decode M_X11_comesOut.2.1 73 = .ok (.iload_n 2, 1) := by decide +kernel
theorem d_X11_comesOut_74 : decode M_X11_comesOut.2.1 74 = .ok (.bipush 10, 2) := by decide +kernel
theorem d_X11_comesOut_76 : decode M_X11_comesOut.2.1 76 = .ok (.if_icmp .ne 7, 3) := by decide +kernel
theorem d_X11_comesOut_79 : decode M_X11_comesOut.2.1 79 = .ok (.iconst 4, 1) := by decide +kernel
theorem d_X11_comesOut_80 : decode M_X11_comesOut.2.1 80 = .ok (.goto 4, 3) := by decide +kernel
theorem d_X11_comesOut_83 : decode M_X11_comesOut.2.1 83 = .ok (.iconst 5, 1) := by decide +kernel
theorem d_X11_comesOut_84 : decode M_X11_comesOut.2.1 84 = .ok (.iconst 0, 1) := by decide +kernel
theorem d_X11_comesOut_85 : decode M_X11_comesOut.2.1 85 = .ok (.invokevirtual 309, 3) := by decide +kernel
theorem d_X11_comesOut_88 : decode M_X11_comesOut.2.1 88 = .ok (.goto (-88), 3) := by decide +kernel
theorem d_X11_comesOut_91 : decode M_X11_comesOut.2.1 91 = .ok (.return_, 1) := by decide +kernel
theorem ce_X11_comesOut : zw_CeV M_X11_comesOut 1 := ⟨⟨⟨by decide +kernel, by decide +kernel, by decide +kernel⟩, (zw_mG (List.mem_of_getElem? (i := 1501) (by decide +kernel)) rfl), (zw_mG (List.mem_of_getElem? (i := 108) (by decide +kernel)) rfl), by decide, by decide +kernel⟩, (zw_mG (List.mem_of_getElem? (i := 1500) (by decide +kernel)) rfl), (zw_mG (List.mem_of_getElem? (i := 68) (by decide +kernel)) rfl)⟩
def j_X11_comesOut_84_0 (v0 : Nat) (v1 : Int32) (s0 : Nat) (s1 : Int32) (I : zI) (R : zR) : Option ((zI) ⊕ ((zI) ⊕ (zI))) :=
  zw_g (zw_gc s0 11) ((f_X11_emit s0 s1 0 I R).bind fun q28 => (some (.inl q28)))
theorem j_X11_comesOut_84_0_ok (X : zw_X) (P : Option Value → aS → Prop) (v0 : Nat) (v1 : Int32) (s0 : Nat) (s1 : Int32) (I : zI) (R : zR) (J : zJ) (o : (zI) ⊕ ((zI) ⊕ (zI))) (hf : j_X11_comesOut_84_0 v0 v1 s0 s1 I R = some o) (hk : (zw_se (fun t => zy_V X M_X11_comesOut 1 P 0 [.ref v0, .int v1, .null] [] (t, R, J)) (fun r => (zw_se (fun r0 => zy_V X M_X11_comesOut 1 P 91 [.null, .null, .null] [] (r0, R, J)) (fun t0 => zy_V X M_X11_comesOut 1 P 41 [.null, .null, .null] [] (t0, R, J)) r)) o)) : zy_V X M_X11_comesOut 1 P 84 [.ref v0, .int v1, .null] [.int s1, .ref s0] (I, R, J) := by
  unfold j_X11_comesOut_84_0 at hf
  refine zv_iconst (pc := 84) d_X11_comesOut_84 zc_i_0 ?_
  obtain ⟨g27, hf⟩ := zw_gcE hf (by decide)
  obtain ⟨q28, hq28, hf⟩ := zw_bdE hf
  refine zx_callV (pc := 85) (As := [.int s1, .int 0]) (o := s0) (st := []) (d2 := 0) (M2 := M_X11_emit) (P2 := (fun r S => r = none ∧ S = (q28, R, J))) d_X11_comesOut_85 (zw_mG (List.mem_of_getElem? (i := 1494) (by decide +kernel)) rfl) ce_X11_emit (zw_RvK g27 rfl rfl) (Nat.le_of_ble_eq_true rfl) rfl (Nat.le_of_ble_eq_true rfl) (by decide) (c_X11_emit X s0 s1 0 I R J _ hq28 ⟨rfl, rfl⟩) ?_
  rintro _ _ ⟨rfl, rfl⟩
  show zy_V X M_X11_comesOut 1 P (85 + 3) [.ref v0, .int v1, .null] [] (q28, R, J)
  refine zv_goto (pc := 88) (tg := 0) d_X11_comesOut_88 (by decide) ?_
  cases hf
  exact zx_weak (zw_leS (zw_leS (zw_leN zw_leZ))) hk
def j_X11_comesOut_42_0 (v0 : Nat) (v1 : Int32) (v2 : Int32) (I : zI) (R : zR) : Option ((zI) ⊕ ((zI) ⊕ (zI))) :=
  zw_g (zw_gc v0 11) (zw_let (zw_u I v0 48 ((I v0 48) - 1) : zI) fun I23 => (if ¬ v2 = 8 then if ¬ v2 = 9 then if ¬ v2 = 10 then j_X11_comesOut_84_0 v0 v1 v0 5 I23 R else j_X11_comesOut_84_0 v0 v1 v0 4 I23 R else j_X11_comesOut_84_0 v0 v1 v0 3 I23 R else j_X11_comesOut_84_0 v0 v1 v0 2 I23 R))
theorem j_X11_comesOut_42_0_ok (X : zw_X) (P : Option Value → aS → Prop) (v0 : Nat) (v1 : Int32) (v2 : Int32) (I : zI) (R : zR) (J : zJ) (o : (zI) ⊕ ((zI) ⊕ (zI))) (hf : j_X11_comesOut_42_0 v0 v1 v2 I R = some o) (hk : (zw_se (fun t => zy_V X M_X11_comesOut 1 P 0 [.ref v0, .int v1, .null] [] (t, R, J)) (fun r => (zw_se (fun r0 => zy_V X M_X11_comesOut 1 P 91 [.null, .null, .null] [] (r0, R, J)) (fun t0 => zy_V X M_X11_comesOut 1 P 41 [.null, .null, .null] [] (t0, R, J)) r)) o)) : zy_V X M_X11_comesOut 1 P 42 [.ref v0, .int v1, .int v2] [] (I, R, J) := by
  unfold j_X11_comesOut_42_0 at hf
  refine zv_aload_n (pc := 42) d_X11_comesOut_42 rfl ?_
  refine zv_dup (pc := 43) d_X11_comesOut_43 rfl ?_
  obtain ⟨g22, hf⟩ := zw_gcE hf (by decide)
  refine zx_getI (pc := 44) d_X11_comesOut_44 lk_CutStonesModel_306 (by decide) g22 ?_
  refine zv_iconst (pc := 47) d_X11_comesOut_47 zc_i_1 ?_
  refine zv_isub (pc := 48) d_X11_comesOut_48 ?_
  obtain ⟨I23, eI23, hf⟩ := zw_letE hf
  refine zx_putI (pc := 49) (I2 := I23) d_X11_comesOut_49 lk_CutStonesModel_306 rfl g22 eI23 ?_
  refine zv_aload_n (pc := 52) d_X11_comesOut_52 rfl ?_
  refine zv_iload_n (pc := 53) d_X11_comesOut_53 rfl ?_
  refine zv_bipush (pc := 54) d_X11_comesOut_54 zc_b_8 ?_
  rcases zw_ifE hf with ⟨c24, hf⟩ | ⟨c24, hf⟩
  · refine zv_icmp_ne (pc := 56) (tg := 63) d_X11_comesOut_56 (by decide) (fun _ => ?_) (fun q => absurd q c24)
    refine zv_iload_n (pc := 63) d_X11_comesOut_63 rfl ?_
    refine zv_bipush (pc := 64) d_X11_comesOut_64 zc_b_9 ?_
    rcases zw_ifE hf with ⟨c25, hf⟩ | ⟨c25, hf⟩
    · refine zv_icmp_ne (pc := 66) (tg := 73) d_X11_comesOut_66 (by decide) (fun _ => ?_) (fun q => absurd q c25)
      refine zv_iload_n (pc := 73) d_X11_comesOut_73 rfl ?_
      refine zv_bipush (pc := 74) d_X11_comesOut_74 zc_b_10 ?_
      rcases zw_ifE hf with ⟨c26, hf⟩ | ⟨c26, hf⟩
      · refine zv_icmp_ne (pc := 76) (tg := 83) d_X11_comesOut_76 (by decide) (fun _ => ?_) (fun q => absurd q c26)
        refine zv_iconst (pc := 83) d_X11_comesOut_83 zc_i_5 ?_
        exact zx_weak (zw_leS (zw_leS (zw_leN zw_leZ))) (j_X11_comesOut_84_0_ok X P v0 v1 v0 5 I23 R J _ hf hk)
      · refine zv_icmp_ne (pc := 76) (tg := 83) d_X11_comesOut_76 (by decide) (fun q => absurd q c26) (fun _ => ?_)
        refine zv_iconst (pc := 79) d_X11_comesOut_79 zc_i_4 ?_
        refine zv_goto (pc := 80) (tg := 84) d_X11_comesOut_80 (by decide) ?_
        exact zx_weak (zw_leS (zw_leS (zw_leN zw_leZ))) (j_X11_comesOut_84_0_ok X P v0 v1 v0 4 I23 R J _ hf hk)
    · refine zv_icmp_ne (pc := 66) (tg := 73) d_X11_comesOut_66 (by decide) (fun q => absurd q c25) (fun _ => ?_)
      refine zv_iconst (pc := 69) d_X11_comesOut_69 zc_i_3 ?_
      refine zv_goto (pc := 70) (tg := 84) d_X11_comesOut_70 (by decide) ?_
      exact zx_weak (zw_leS (zw_leS (zw_leN zw_leZ))) (j_X11_comesOut_84_0_ok X P v0 v1 v0 3 I23 R J _ hf hk)
  · refine zv_icmp_ne (pc := 56) (tg := 63) d_X11_comesOut_56 (by decide) (fun q => absurd q c24) (fun _ => ?_)
    refine zv_iconst (pc := 59) d_X11_comesOut_59 zc_i_2 ?_
    refine zv_goto (pc := 60) (tg := 84) d_X11_comesOut_60 (by decide) ?_
    exact zx_weak (zw_leS (zw_leS (zw_leN zw_leZ))) (j_X11_comesOut_84_0_ok X P v0 v1 v0 2 I23 R J _ hf hk)
def s_X11_comesOut_0 (v0 : Nat) (v1 : Int32) (R : zR) (s : zI) : Option ((zI) ⊕ ((zI) ⊕ (zI))) :=
  zw_g (zw_gc v0 11) (if (s v0 48) ≤ 0 then some (.inr (.inl s)) else zw_g (zw_gc (R v0 47) 13) (zw_g (zw_in ((s v0 48) - 1) (zw_SH (R v0 47)).2) (zw_let ((s (R v0 47) (Int32.toNatClampNeg ((s v0 48) - 1))) : Int32) fun x19 => (if x19 = 6 then some (.inr (.inr s)) else if v1 = 0 then j_X11_comesOut_42_0 v0 v1 x19 s R else if x19 = 8 then some (.inr (.inr s)) else if ¬ x19 = 9 then j_X11_comesOut_42_0 v0 v1 x19 s R else some (.inr (.inr s))))))
theorem s_X11_comesOut_0_ok (X : zw_X) (P : Option Value → aS → Prop) (v0 : Nat) (v1 : Int32) (R : zR) (J : zJ) (s : zI) (o : (zI) ⊕ ((zI) ⊕ (zI))) (hf : s_X11_comesOut_0 v0 v1 R s = some o) (hk : (zw_se (fun t => zy_V X M_X11_comesOut 1 P 0 [.ref v0, .int v1, .null] [] (t, R, J)) (fun r => (zw_se (fun r0 => zy_V X M_X11_comesOut 1 P 91 [.null, .null, .null] [] (r0, R, J)) (fun t0 => zy_V X M_X11_comesOut 1 P 41 [.null, .null, .null] [] (t0, R, J)) r)) o)) : zy_V X M_X11_comesOut 1 P 0 [.ref v0, .int v1, .null] [] (s, R, J) := by
  unfold s_X11_comesOut_0 at hf
  refine zv_aload_n (pc := 0) d_X11_comesOut_0 rfl ?_
  obtain ⟨g15, hf⟩ := zw_gcE hf (by decide)
  refine zx_getI (pc := 1) d_X11_comesOut_1 lk_CutStonesModel_306 (by decide) g15 ?_
  rcases zw_ifE hf with ⟨c16, hf⟩ | ⟨c16, hf⟩
  · refine zv_if_le (pc := 4) (tg := 91) d_X11_comesOut_4 (by decide) (fun _ => ?_) (fun q => absurd c16 q)
    cases hf
    exact zx_weak (zw_leN (zw_leN (zw_leN zw_leZ))) hk
  · refine zv_if_le (pc := 4) (tg := 91) d_X11_comesOut_4 (by decide) (fun q => absurd q c16) (fun _ => ?_)
    refine zv_aload_n (pc := 7) d_X11_comesOut_7 rfl ?_
    obtain ⟨g17, hf⟩ := zw_gcE hf (by decide)
    refine zx_getR (pc := 8) d_X11_comesOut_8 lk_CutStonesModel_116 (by decide) g15 g17 ?_
    refine zv_aload_n (pc := 11) d_X11_comesOut_11 rfl ?_
    refine zx_getI (pc := 12) d_X11_comesOut_12 lk_CutStonesModel_306 (by decide) g15 ?_
    refine zv_iconst (pc := 15) d_X11_comesOut_15 zc_i_1 ?_
    refine zv_isub (pc := 16) d_X11_comesOut_16 ?_
    obtain ⟨i18, hf⟩ := zw_inE hf
    refine zx_iald (pc := 17) d_X11_comesOut_17 g17 i18 ?_
    obtain ⟨x19, ex19, hf⟩ := zw_letE hf
    refine zx_istore_n (pc := 18) (x2 := x19) (L2 := [.ref v0, .int v1, .int x19]) d_X11_comesOut_18 (by decide) ex19 rfl ?_
    refine zv_iload_n (pc := 19) d_X11_comesOut_19 rfl ?_
    refine zv_bipush (pc := 20) d_X11_comesOut_20 zc_b_6 ?_
    rcases zw_ifE hf with ⟨c20, hf⟩ | ⟨c20, hf⟩
    · refine zv_icmp_eq (pc := 22) (tg := 41) d_X11_comesOut_22 (by decide) (fun _ => ?_) (fun q => absurd c20 q)
      cases hf
      exact zx_weak (zw_leN (zw_leN (zw_leN zw_leZ))) hk
    · refine zv_icmp_eq (pc := 22) (tg := 41) d_X11_comesOut_22 (by decide) (fun q => absurd q c20) (fun _ => ?_)
      refine zv_iload_n (pc := 25) d_X11_comesOut_25 rfl ?_
      rcases zw_ifE hf with ⟨c21, hf⟩ | ⟨c21, hf⟩
      · refine zv_if_eq (pc := 26) (tg := 42) d_X11_comesOut_26 (by decide) (fun _ => ?_) (fun q => absurd c21 q)
        exact zx_weak (zw_leS (zw_leS (zw_leS zw_leZ))) (j_X11_comesOut_42_0_ok X P v0 v1 x19 s R J _ hf hk)
      · refine zv_if_eq (pc := 26) (tg := 42) d_X11_comesOut_26 (by decide) (fun q => absurd q c21) (fun _ => ?_)
        refine zv_iload_n (pc := 29) d_X11_comesOut_29 rfl ?_
        refine zv_bipush (pc := 30) d_X11_comesOut_30 zc_b_8 ?_
        rcases zw_ifE hf with ⟨c29, hf⟩ | ⟨c29, hf⟩
        · refine zv_icmp_eq (pc := 32) (tg := 41) d_X11_comesOut_32 (by decide) (fun _ => ?_) (fun q => absurd c29 q)
          cases hf
          exact zx_weak (zw_leN (zw_leN (zw_leN zw_leZ))) hk
        · refine zv_icmp_eq (pc := 32) (tg := 41) d_X11_comesOut_32 (by decide) (fun q => absurd q c29) (fun _ => ?_)
          refine zv_iload_n (pc := 35) d_X11_comesOut_35 rfl ?_
          refine zv_bipush (pc := 36) d_X11_comesOut_36 zc_b_9 ?_
          rcases zw_ifE hf with ⟨c30, hf⟩ | ⟨c30, hf⟩
          · refine zv_icmp_ne (pc := 38) (tg := 42) d_X11_comesOut_38 (by decide) (fun _ => ?_) (fun q => absurd q c30)
            exact zx_weak (zw_leS (zw_leS (zw_leS zw_leZ))) (j_X11_comesOut_42_0_ok X P v0 v1 x19 s R J _ hf hk)
          · refine zv_icmp_ne (pc := 38) (tg := 42) d_X11_comesOut_38 (by decide) (fun q => absurd q c30) (fun _ => ?_)
            cases hf
            exact zx_weak (zw_leN (zw_leN (zw_leN zw_leZ))) hk
theorem s_X11_comesOut_0_lp (X : zw_X) (P : Option Value → aS → Prop) (v0 : Nat) (v1 : Int32) (R : zR) (J : zJ) (n : Nat) (s : zI) (r : (zI) ⊕ (zI)) (h : zw_it (s_X11_comesOut_0 v0 v1 R) n s = some r) (hq : (zw_se (fun r0 => zy_V X M_X11_comesOut 1 P 91 [.null, .null, .null] [] (r0, R, J)) (fun t0 => zy_V X M_X11_comesOut 1 P 41 [.null, .null, .null] [] (t0, R, J)) r)) : zy_V X M_X11_comesOut 1 P 0 [.ref v0, .int v1, .null] [] (s, R, J) :=
  zw_itE (A := (fun t : zI => zy_V X M_X11_comesOut 1 P 0 [.ref v0, .int v1, .null] [] (t, R, J))) (Q := (fun r : (zI) ⊕ (zI) => (zw_se (fun r0 => zy_V X M_X11_comesOut 1 P 91 [.null, .null, .null] [] (r0, R, J)) (fun t0 => zy_V X M_X11_comesOut 1 P 41 [.null, .null, .null] [] (t0, R, J)) r))) (fun s o h1 h2 => s_X11_comesOut_0_ok X P v0 v1 R J s o h1 h2) n s r h hq
def j_X11_comesOut_84 (v0 : Nat) (v1 : Int32) (s0 : Nat) (s1 : Int32) (I : zI) (R : zR) : Option (zI) :=
  zw_g (zw_gc s0 11) ((f_X11_emit s0 s1 0 I R).bind fun q14 => ((zw_it (s_X11_comesOut_0 v0 v1 R) 1000000 q14).bind fun q31 => (match q31 with | .inl a32 => (some a32) | .inr a33 => (some a33))))
theorem j_X11_comesOut_84_ok (X : zw_X) (P : Option Value → aS → Prop) (v0 : Nat) (v1 : Int32) (s0 : Nat) (s1 : Int32) (I : zI) (R : zR) (J : zJ) (o : zI) (hf : j_X11_comesOut_84 v0 v1 s0 s1 I R = some o) (hk : P none (o, R, J)) : zy_V X M_X11_comesOut 1 P 84 [.ref v0, .int v1, .null] [.int s1, .ref s0] (I, R, J) := by
  unfold j_X11_comesOut_84 at hf
  refine zv_iconst (pc := 84) d_X11_comesOut_84 zc_i_0 ?_
  obtain ⟨g13, hf⟩ := zw_gcE hf (by decide)
  obtain ⟨q14, hq14, hf⟩ := zw_bdE hf
  refine zx_callV (pc := 85) (As := [.int s1, .int 0]) (o := s0) (st := []) (d2 := 0) (M2 := M_X11_emit) (P2 := (fun r S => r = none ∧ S = (q14, R, J))) d_X11_comesOut_85 (zw_mG (List.mem_of_getElem? (i := 1494) (by decide +kernel)) rfl) ce_X11_emit (zw_RvK g13 rfl rfl) (Nat.le_of_ble_eq_true rfl) rfl (Nat.le_of_ble_eq_true rfl) (by decide) (c_X11_emit X s0 s1 0 I R J _ hq14 ⟨rfl, rfl⟩) ?_
  rintro _ _ ⟨rfl, rfl⟩
  show zy_V X M_X11_comesOut 1 P (85 + 3) [.ref v0, .int v1, .null] [] (q14, R, J)
  refine zv_goto (pc := 88) (tg := 0) d_X11_comesOut_88 (by decide) ?_
  obtain ⟨q31, hq31, hf⟩ := zw_bdE hf
  refine zx_weak (L' := [.ref v0, .int v1, .null]) (zw_leS (zw_leS (zw_leN zw_leZ))) (s_X11_comesOut_0_lp X P v0 v1 R J _ _ _ hq31 ?_)
  rcases q31 with a32 | a33
  ·
    show zy_V X M_X11_comesOut 1 P 91 [.null, .null, .null] [] (a32, R, J)
    cases hf
    exact zx_vret (pc := 91) d_X11_comesOut_91 rfl hk
  ·
    show zy_V X M_X11_comesOut 1 P 41 [.null, .null, .null] [] (a33, R, J)
    cases hf
    exact zx_vret (pc := 41) d_X11_comesOut_41 rfl hk
def j_X11_comesOut_42 (v0 : Nat) (v1 : Int32) (v2 : Int32) (I : zI) (R : zR) : Option (zI) :=
  zw_g (zw_gc v0 11) (zw_let (zw_u I v0 48 ((I v0 48) - 1) : zI) fun I9 => (if ¬ v2 = 8 then if ¬ v2 = 9 then if ¬ v2 = 10 then j_X11_comesOut_84 v0 v1 v0 5 I9 R else j_X11_comesOut_84 v0 v1 v0 4 I9 R else j_X11_comesOut_84 v0 v1 v0 3 I9 R else j_X11_comesOut_84 v0 v1 v0 2 I9 R))
theorem j_X11_comesOut_42_ok (X : zw_X) (P : Option Value → aS → Prop) (v0 : Nat) (v1 : Int32) (v2 : Int32) (I : zI) (R : zR) (J : zJ) (o : zI) (hf : j_X11_comesOut_42 v0 v1 v2 I R = some o) (hk : P none (o, R, J)) : zy_V X M_X11_comesOut 1 P 42 [.ref v0, .int v1, .int v2] [] (I, R, J) := by
  unfold j_X11_comesOut_42 at hf
  refine zv_aload_n (pc := 42) d_X11_comesOut_42 rfl ?_
  refine zv_dup (pc := 43) d_X11_comesOut_43 rfl ?_
  obtain ⟨g8, hf⟩ := zw_gcE hf (by decide)
  refine zx_getI (pc := 44) d_X11_comesOut_44 lk_CutStonesModel_306 (by decide) g8 ?_
  refine zv_iconst (pc := 47) d_X11_comesOut_47 zc_i_1 ?_
  refine zv_isub (pc := 48) d_X11_comesOut_48 ?_
  obtain ⟨I9, eI9, hf⟩ := zw_letE hf
  refine zx_putI (pc := 49) (I2 := I9) d_X11_comesOut_49 lk_CutStonesModel_306 rfl g8 eI9 ?_
  refine zv_aload_n (pc := 52) d_X11_comesOut_52 rfl ?_
  refine zv_iload_n (pc := 53) d_X11_comesOut_53 rfl ?_
  refine zv_bipush (pc := 54) d_X11_comesOut_54 zc_b_8 ?_
  rcases zw_ifE hf with ⟨c10, hf⟩ | ⟨c10, hf⟩
  · refine zv_icmp_ne (pc := 56) (tg := 63) d_X11_comesOut_56 (by decide) (fun _ => ?_) (fun q => absurd q c10)
    refine zv_iload_n (pc := 63) d_X11_comesOut_63 rfl ?_
    refine zv_bipush (pc := 64) d_X11_comesOut_64 zc_b_9 ?_
    rcases zw_ifE hf with ⟨c11, hf⟩ | ⟨c11, hf⟩
    · refine zv_icmp_ne (pc := 66) (tg := 73) d_X11_comesOut_66 (by decide) (fun _ => ?_) (fun q => absurd q c11)
      refine zv_iload_n (pc := 73) d_X11_comesOut_73 rfl ?_
      refine zv_bipush (pc := 74) d_X11_comesOut_74 zc_b_10 ?_
      rcases zw_ifE hf with ⟨c12, hf⟩ | ⟨c12, hf⟩
      · refine zv_icmp_ne (pc := 76) (tg := 83) d_X11_comesOut_76 (by decide) (fun _ => ?_) (fun q => absurd q c12)
        refine zv_iconst (pc := 83) d_X11_comesOut_83 zc_i_5 ?_
        exact zx_weak (zw_leS (zw_leS (zw_leN zw_leZ))) (j_X11_comesOut_84_ok X P v0 v1 v0 5 I9 R J _ hf hk)
      · refine zv_icmp_ne (pc := 76) (tg := 83) d_X11_comesOut_76 (by decide) (fun q => absurd q c12) (fun _ => ?_)
        refine zv_iconst (pc := 79) d_X11_comesOut_79 zc_i_4 ?_
        refine zv_goto (pc := 80) (tg := 84) d_X11_comesOut_80 (by decide) ?_
        exact zx_weak (zw_leS (zw_leS (zw_leN zw_leZ))) (j_X11_comesOut_84_ok X P v0 v1 v0 4 I9 R J _ hf hk)
    · refine zv_icmp_ne (pc := 66) (tg := 73) d_X11_comesOut_66 (by decide) (fun q => absurd q c11) (fun _ => ?_)
      refine zv_iconst (pc := 69) d_X11_comesOut_69 zc_i_3 ?_
      refine zv_goto (pc := 70) (tg := 84) d_X11_comesOut_70 (by decide) ?_
      exact zx_weak (zw_leS (zw_leS (zw_leN zw_leZ))) (j_X11_comesOut_84_ok X P v0 v1 v0 3 I9 R J _ hf hk)
  · refine zv_icmp_ne (pc := 56) (tg := 63) d_X11_comesOut_56 (by decide) (fun q => absurd q c10) (fun _ => ?_)
    refine zv_iconst (pc := 59) d_X11_comesOut_59 zc_i_2 ?_
    refine zv_goto (pc := 60) (tg := 84) d_X11_comesOut_60 (by decide) ?_
    exact zx_weak (zw_leS (zw_leS (zw_leN zw_leZ))) (j_X11_comesOut_84_ok X P v0 v1 v0 2 I9 R J _ hf hk)
def f_X11_comesOut (v0 : Nat) (v1 : Int32) (I : zI) (R : zR) : Option (zI) :=
  zw_g (zw_gc v0 11) (if (I v0 48) ≤ 0 then some I else zw_g (zw_gc (R v0 47) 13) (zw_g (zw_in ((I v0 48) - 1) (zw_SH (R v0 47)).2) (zw_let ((I (R v0 47) (Int32.toNatClampNeg ((I v0 48) - 1))) : Int32) fun x5 => (if x5 = 6 then some I else if v1 = 0 then j_X11_comesOut_42 v0 v1 x5 I R else if x5 = 8 then some I else if ¬ x5 = 9 then j_X11_comesOut_42 v0 v1 x5 I R else some I))))
theorem c_X11_comesOut (X : zw_X) (v0 : Nat) (v1 : Int32) (I : zI) (R : zR) (J : zJ) {P : Option Value → aS → Prop} (o : zI) (hf : f_X11_comesOut v0 v1 I R = some o) (hk : P none (o, R, J)) : zw_C X M_X11_comesOut 1 0 0 199 [.ref v0, .int v1] (I, R, J) P := by
  show zy_V X M_X11_comesOut 1 P 0 [.ref v0, .int v1, .null] [] (I, R, J)
  unfold f_X11_comesOut at hf
  refine zv_aload_n (pc := 0) d_X11_comesOut_0 rfl ?_
  obtain ⟨g1, hf⟩ := zw_gcE hf (by decide)
  refine zx_getI (pc := 1) d_X11_comesOut_1 lk_CutStonesModel_306 (by decide) g1 ?_
  rcases zw_ifE hf with ⟨c2, hf⟩ | ⟨c2, hf⟩
  · refine zv_if_le (pc := 4) (tg := 91) d_X11_comesOut_4 (by decide) (fun _ => ?_) (fun q => absurd c2 q)
    cases hf
    exact zx_vret (pc := 91) d_X11_comesOut_91 rfl hk
  · refine zv_if_le (pc := 4) (tg := 91) d_X11_comesOut_4 (by decide) (fun q => absurd q c2) (fun _ => ?_)
    refine zv_aload_n (pc := 7) d_X11_comesOut_7 rfl ?_
    obtain ⟨g3, hf⟩ := zw_gcE hf (by decide)
    refine zx_getR (pc := 8) d_X11_comesOut_8 lk_CutStonesModel_116 (by decide) g1 g3 ?_
    refine zv_aload_n (pc := 11) d_X11_comesOut_11 rfl ?_
    refine zx_getI (pc := 12) d_X11_comesOut_12 lk_CutStonesModel_306 (by decide) g1 ?_
    refine zv_iconst (pc := 15) d_X11_comesOut_15 zc_i_1 ?_
    refine zv_isub (pc := 16) d_X11_comesOut_16 ?_
    obtain ⟨i4, hf⟩ := zw_inE hf
    refine zx_iald (pc := 17) d_X11_comesOut_17 g3 i4 ?_
    obtain ⟨x5, ex5, hf⟩ := zw_letE hf
    refine zx_istore_n (pc := 18) (x2 := x5) (L2 := [.ref v0, .int v1, .int x5]) d_X11_comesOut_18 (by decide) ex5 rfl ?_
    refine zv_iload_n (pc := 19) d_X11_comesOut_19 rfl ?_
    refine zv_bipush (pc := 20) d_X11_comesOut_20 zc_b_6 ?_
    rcases zw_ifE hf with ⟨c6, hf⟩ | ⟨c6, hf⟩
    · refine zv_icmp_eq (pc := 22) (tg := 41) d_X11_comesOut_22 (by decide) (fun _ => ?_) (fun q => absurd c6 q)
      cases hf
      exact zx_vret (pc := 41) d_X11_comesOut_41 rfl hk
    · refine zv_icmp_eq (pc := 22) (tg := 41) d_X11_comesOut_22 (by decide) (fun q => absurd q c6) (fun _ => ?_)
      refine zv_iload_n (pc := 25) d_X11_comesOut_25 rfl ?_
      rcases zw_ifE hf with ⟨c7, hf⟩ | ⟨c7, hf⟩
      · refine zv_if_eq (pc := 26) (tg := 42) d_X11_comesOut_26 (by decide) (fun _ => ?_) (fun q => absurd c7 q)
        exact zx_weak (zw_leS (zw_leS (zw_leS zw_leZ))) (j_X11_comesOut_42_ok X P v0 v1 x5 I R J _ hf hk)
      · refine zv_if_eq (pc := 26) (tg := 42) d_X11_comesOut_26 (by decide) (fun q => absurd q c7) (fun _ => ?_)
        refine zv_iload_n (pc := 29) d_X11_comesOut_29 rfl ?_
        refine zv_bipush (pc := 30) d_X11_comesOut_30 zc_b_8 ?_
        rcases zw_ifE hf with ⟨c34, hf⟩ | ⟨c34, hf⟩
        · refine zv_icmp_eq (pc := 32) (tg := 41) d_X11_comesOut_32 (by decide) (fun _ => ?_) (fun q => absurd c34 q)
          cases hf
          exact zx_vret (pc := 41) d_X11_comesOut_41 rfl hk
        · refine zv_icmp_eq (pc := 32) (tg := 41) d_X11_comesOut_32 (by decide) (fun q => absurd q c34) (fun _ => ?_)
          refine zv_iload_n (pc := 35) d_X11_comesOut_35 rfl ?_
          refine zv_bipush (pc := 36) d_X11_comesOut_36 zc_b_9 ?_
          rcases zw_ifE hf with ⟨c35, hf⟩ | ⟨c35, hf⟩
          · refine zv_icmp_ne (pc := 38) (tg := 42) d_X11_comesOut_38 (by decide) (fun _ => ?_) (fun q => absurd q c35)
            exact zx_weak (zw_leS (zw_leS (zw_leS zw_leZ))) (j_X11_comesOut_42_ok X P v0 v1 x5 I R J _ hf hk)
          · refine zv_icmp_ne (pc := 38) (tg := 42) d_X11_comesOut_38 (by decide) (fun q => absurd q c35) (fun _ => ?_)
            cases hf
            exact zx_vret (pc := 41) d_X11_comesOut_41 rfl hk
abbrev M_X11_cutRow : zw_M := (⟨"CutStonesModel", "cutRow", "(I)I"⟩, prog_13_method_47_code, 2, (Option.some Jvm.ClassFile.FieldType.int))
theorem d_X11_cutRow_0 : decode M_X11_cutRow.2.1 0 = .ok (.iload_n 1, 1) := by decide +kernel
theorem d_X11_cutRow_1 : decode M_X11_cutRow.2.1 1 = .ok (.iconst 0, 1) := by decide +kernel
theorem d_X11_cutRow_2 : decode M_X11_cutRow.2.1 2 = .ok (.aload_n 0, 1) := by decide +kernel
theorem d_X11_cutRow_3 : decode M_X11_cutRow.2.1 3 = .ok (.getfield 58, 3) := by decide +kernel
theorem d_X11_cutRow_6 : decode M_X11_cutRow.2.1 6 = .ok (.aload_n 0, 1) := by decide +kernel
theorem d_X11_cutRow_7 : decode M_X11_cutRow.2.1 7 = .ok (.getfield 248, 3) := by decide +kernel
theorem d_X11_cutRow_10 : decode M_X11_cutRow.2.1 10 = .ok (.iaload, 1) := by decide +kernel
theorem d_X11_cutRow_11 : decode M_X11_cutRow.2.1 11 = .ok (.iconst 1, 1) := by decide +kernel
theorem d_X11_cutRow_12 : decode M_X11_cutRow.2.1 12 = .ok (.isub, 1) := by decide +kernel
theorem d_X11_cutRow_13 : decode M_X11_cutRow.2.1 13 = .ok (.invokestatic 373, 3) := by decide +kernel
theorem d_X11_cutRow_16 : decode M_X11_cutRow.2.1 16 = .ok (.ifCond .eq 15, 3) := by decide +kernel
theorem d_X11_cutRow_19 : decode M_X11_cutRow.2.1 19 = .ok (.bipush 10, 2) := by decide +kernel
theorem d_X11_cutRow_21 : decode M_X11_cutRow.2.1 21 = .ok (.aload_n 0, 1) := by decide +kernel
theorem d_X11_cutRow_22 : decode M_X11_cutRow.2.1 22 = .ok (.getfield 248, 3) := by decide +kernel
theorem d_X11_cutRow_25 : decode M_X11_cutRow.2.1 25 = .ok (.imul, 1) := by decide +kernel
theorem d_X11_cutRow_26 : decode M_X11_cutRow.2.1 26 = .ok (.iload_n 1, 1) := by decide +kernel
theorem d_X11_cutRow_27 : decode M_X11_cutRow.2.1 27 = .ok (.iadd, 1) := by decide +kernel
theorem d_X11_cutRow_28 : decode M_X11_cutRow.2.1 28 = .ok (.goto 4, 3) := by decide +kernel
theorem d_X11_cutRow_31 : decode M_X11_cutRow.2.1 31 = .ok (.iconst (-1), 1) := by decide +kernel
theorem d_X11_cutRow_32 : decode M_X11_cutRow.2.1 32 = .ok (.ireturn, 1) := by decide +kernel
theorem ce_X11_cutRow : zw_CeV M_X11_cutRow 1 := ⟨⟨⟨by decide +kernel, by decide +kernel, by decide +kernel⟩, (zw_mG (List.mem_of_getElem? (i := 1528) (by decide +kernel)) rfl), (zw_mG (List.mem_of_getElem? (i := 108) (by decide +kernel)) rfl), by decide, by decide +kernel⟩, (zw_mG (List.mem_of_getElem? (i := 1527) (by decide +kernel)) rfl), (zw_mG (List.mem_of_getElem? (i := 72) (by decide +kernel)) rfl)⟩
def f_X11_cutRow (v0 : Nat) (v1 : Int32) (I : zI) (R : zR) : Option (Int32) :=
  zw_g (zw_gc v0 11) (zw_g (zw_gc (R v0 26) 13) (zw_g (zw_in (I v0 18) (zw_SH (R v0 26)).2) ((f_X11_in v1 0 ((I (R v0 26) (Int32.toNatClampNeg (I v0 18))) - 1)).bind fun q4 => (if q4 = 0 then some (-1) else some ((10 * (I v0 18)) + v1)))))
theorem c_X11_cutRow (X : zw_X) (v0 : Nat) (v1 : Int32) (I : zI) (R : zR) (J : zJ) {P : Option Value → aS → Prop} (o : Int32) (hf : f_X11_cutRow v0 v1 I R = some o) (hk : P (some (.int o)) (I, R, J)) : zw_C X M_X11_cutRow 1 0 0 199 [.ref v0, .int v1] (I, R, J) P := by
  show zy_V X M_X11_cutRow 1 P 0 [.ref v0, .int v1] [] (I, R, J)
  unfold f_X11_cutRow at hf
  refine zv_iload_n (pc := 0) d_X11_cutRow_0 rfl ?_
  refine zv_iconst (pc := 1) d_X11_cutRow_1 zc_i_0 ?_
  refine zv_aload_n (pc := 2) d_X11_cutRow_2 rfl ?_
  obtain ⟨g1, hf⟩ := zw_gcE hf (by decide)
  obtain ⟨g2, hf⟩ := zw_gcE hf (by decide)
  refine zx_getR (pc := 3) d_X11_cutRow_3 lk_CutStonesModel_58 (by decide) g1 g2 ?_
  refine zv_aload_n (pc := 6) d_X11_cutRow_6 rfl ?_
  refine zx_getI (pc := 7) d_X11_cutRow_7 lk_CutStonesModel_248 (by decide) g1 ?_
  obtain ⟨i3, hf⟩ := zw_inE hf
  refine zx_iald (pc := 10) d_X11_cutRow_10 g2 i3 ?_
  refine zv_iconst (pc := 11) d_X11_cutRow_11 zc_i_1 ?_
  refine zv_isub (pc := 12) d_X11_cutRow_12 ?_
  obtain ⟨q4, hq4, hf⟩ := zw_bdE hf
  refine zx_callS (pc := 13) (As := [.int v1, .int 0, .int ((I (R v0 26) (Int32.toNatClampNeg (I v0 18))) - 1)]) (st := []) (d2 := 0) (M2 := M_X11_in) (P2 := (fun r S => r = (some (.int q4)) ∧ S = (I, R, J))) d_X11_cutRow_13 (zw_mG (List.mem_of_getElem? (i := 1522) (by decide +kernel)) rfl) ce_X11_in (Nat.le_of_ble_eq_true rfl) rfl (Nat.le_of_ble_eq_true rfl) (by decide) (c_X11_in X v1 0 ((I (R v0 26) (Int32.toNatClampNeg (I v0 18))) - 1) I R J _ hq4 ⟨rfl, rfl⟩) ?_
  rintro _ _ ⟨rfl, rfl⟩
  show zy_V X M_X11_cutRow 1 P (13 + 3) [.ref v0, .int v1] [.int q4] (I, R, J)
  rcases zw_ifE hf with ⟨c5, hf⟩ | ⟨c5, hf⟩
  · refine zv_if_eq (pc := 16) (tg := 31) d_X11_cutRow_16 (by decide) (fun _ => ?_) (fun q => absurd c5 q)
    refine zv_iconst (pc := 31) d_X11_cutRow_31 zc_i_m1 ?_
    cases hf
    exact zx_iret (pc := 32) d_X11_cutRow_32 rfl hk
  · refine zv_if_eq (pc := 16) (tg := 31) d_X11_cutRow_16 (by decide) (fun q => absurd q c5) (fun _ => ?_)
    refine zv_bipush (pc := 19) d_X11_cutRow_19 zc_b_10 ?_
    refine zv_aload_n (pc := 21) d_X11_cutRow_21 rfl ?_
    refine zx_getI (pc := 22) d_X11_cutRow_22 lk_CutStonesModel_248 (by decide) g1 ?_
    refine zv_imul (pc := 25) d_X11_cutRow_25 ?_
    refine zv_iload_n (pc := 26) d_X11_cutRow_26 rfl ?_
    refine zv_iadd (pc := 27) d_X11_cutRow_27 ?_
    refine zv_goto (pc := 28) (tg := 32) d_X11_cutRow_28 (by decide) ?_
    cases hf
    exact zx_iret (pc := 32) d_X11_cutRow_32 rfl hk
abbrev M_X11_feed : zw_M := (⟨"CutStonesModel", "feed", "(IIIII)I"⟩, prog_13_method_3_code, 6, (Option.some Jvm.ClassFile.FieldType.int))
theorem d_X11_feed_0 : decode M_X11_feed.2.1 0 = .ok (.aload_n 0, 1) := by decide +kernel
theorem d_X11_feed_1 : decode M_X11_feed.2.1 1 = .ok (.getfield 177, 3) := by decide +kernel
theorem d_X11_feed_4 : decode M_X11_feed.2.1 4 = .ok (.bipush 20, 2) := by decide +kernel
theorem d_X11_feed_6 : decode M_X11_feed.2.1 6 = .ok (.iadd, 1) := by decide +kernel
theorem d_X11_feed_7 : decode M_X11_feed.2.1 7 = .ok (.sipush 2000, 3) := by decide +kernel
theorem d_X11_feed_10 : decode M_X11_feed.2.1 10 = .ok (.if_icmp .le 5, 3) := by decide +kernel
theorem d_X11_feed_13 : decode M_X11_feed.2.1 13 = .ok (.iconst (-1), 1) := by decide +kernel
theorem d_X11_feed_14 : decode M_X11_feed.2.1 14 = .ok (.ireturn, 1) := by decide +kernel
theorem d_X11_feed_15 : decode M_X11_feed.2.1 15 = .ok (.aload_n 0, 1) := by decide +kernel
theorem d_X11_feed_16 : decode M_X11_feed.2.1 16 = .ok (.iload_n 1, 1) := by decide +kernel
theorem d_X11_feed_17 : decode M_X11_feed.2.1 17 = .ok (.invokevirtual 180, 3) := by decide +kernel
theorem d_X11_feed_20 : decode M_X11_feed.2.1 20 = .ok (.aload_n 0, 1) := by decide +kernel
theorem d_X11_feed_21 : decode M_X11_feed.2.1 21 = .ok (.iload_n 2, 1) := by decide +kernel
theorem d_X11_feed_22 : decode M_X11_feed.2.1 22 = .ok (.invokevirtual 180, 3) := by decide +kernel
theorem d_X11_feed_25 : decode M_X11_feed.2.1 25 = .ok (.aload_n 0, 1) := by decide +kernel
theorem d_X11_feed_26 : decode M_X11_feed.2.1 26 = .ok (.iload_n 3, 1) := by decide +kernel
theorem d_X11_feed_27 : decode M_X11_feed.2.1 27 = .ok (.invokevirtual 180, 3) := by decide +kernel
theorem d_X11_feed_30 : decode M_X11_feed.2.1 30 = .ok (.aload_n 0, 1) := by decide +kernel
theorem d_X11_feed_31 : decode M_X11_feed.2.1 31 = .ok (.iload 4, 2) := by decide +kernel
theorem d_X11_feed_33 : decode M_X11_feed.2.1 33 = .ok (.invokevirtual 180, 3) := by decide +kernel
theorem d_X11_feed_36 : decode M_X11_feed.2.1 36 = .ok (.aload_n 0, 1) := by decide +kernel
theorem d_X11_feed_37 : decode M_X11_feed.2.1 37 = .ok (.iload 5, 2) := by decide +kernel
theorem d_X11_feed_39 : decode M_X11_feed.2.1 39 = .ok (.invokevirtual 180, 3) := by decide +kernel
theorem d_X11_feed_42 : decode M_X11_feed.2.1 42 = .ok (.aload_n 0, 1) := by decide +kernel
theorem d_X11_feed_43 : decode M_X11_feed.2.1 43 = .ok (.getfield 177, 3) := by decide +kernel
theorem d_X11_feed_46 : decode M_X11_feed.2.1 46 = .ok (.ireturn, 1) := by decide +kernel
theorem ce_X11_feed : zw_CeV M_X11_feed 5 := ⟨⟨⟨by decide +kernel, by decide +kernel, by decide +kernel⟩, (zw_mG (List.mem_of_getElem? (i := 1404) (by decide +kernel)) rfl), (zw_mG (List.mem_of_getElem? (i := 108) (by decide +kernel)) rfl), by decide, by decide +kernel⟩, (zw_mG (List.mem_of_getElem? (i := 1402) (by decide +kernel)) rfl), (zw_mG (List.mem_of_getElem? (i := 1403) (by decide +kernel)) rfl)⟩
def f_X11_feed (v0 : Nat) (v1 : Int32) (v2 : Int32) (v3 : Int32) (v4 : Int32) (v5 : Int32) (I : zI) (R : zR) : Option (Int32 × zI) :=
  zw_g (zw_gc v0 11) (if ((I v0 2) + 20) ≤ 2000 then (f_X11_put v0 v1 I R).bind fun q3 => ((f_X11_put v0 v2 q3 R).bind fun q4 => ((f_X11_put v0 v3 q4 R).bind fun q5 => ((f_X11_put v0 v4 q5 R).bind fun q6 => ((f_X11_put v0 v5 q6 R).bind fun q7 => (some ((q7 v0 2), q7)))))) else some ((-1), I))
theorem c_X11_feed (X : zw_X) (v0 : Nat) (v1 : Int32) (v2 : Int32) (v3 : Int32) (v4 : Int32) (v5 : Int32) (I : zI) (R : zR) (J : zJ) {P : Option Value → aS → Prop} (o : Int32 × zI) (hf : f_X11_feed v0 v1 v2 v3 v4 v5 I R = some o) (hk : P (some (.int o.1)) (o.2, R, J)) : zw_C X M_X11_feed 1 0 0 199 [.ref v0, .int v1, .int v2, .int v3, .int v4, .int v5] (I, R, J) P := by
  show zy_V X M_X11_feed 1 P 0 [.ref v0, .int v1, .int v2, .int v3, .int v4, .int v5] [] (I, R, J)
  unfold f_X11_feed at hf
  refine zv_aload_n (pc := 0) d_X11_feed_0 rfl ?_
  obtain ⟨g1, hf⟩ := zw_gcE hf (by decide)
  refine zx_getI (pc := 1) d_X11_feed_1 lk_CutStonesModel_177 (by decide) g1 ?_
  refine zv_bipush (pc := 4) d_X11_feed_4 zc_b_20 ?_
  refine zv_iadd (pc := 6) d_X11_feed_6 ?_
  refine zv_sipush (pc := 7) d_X11_feed_7 zc_s_2000 ?_
  rcases zw_ifE hf with ⟨c2, hf⟩ | ⟨c2, hf⟩
  · refine zv_icmp_le (pc := 10) (tg := 15) d_X11_feed_10 (by decide) (fun _ => ?_) (fun q => absurd c2 q)
    refine zv_aload_n (pc := 15) d_X11_feed_15 rfl ?_
    refine zv_iload_n (pc := 16) d_X11_feed_16 rfl ?_
    obtain ⟨q3, hq3, hf⟩ := zw_bdE hf
    refine zx_callV (pc := 17) (As := [.int v1]) (o := v0) (st := []) (d2 := 0) (M2 := M_X11_put) (P2 := (fun r S => r = none ∧ S = (q3, R, J))) d_X11_feed_17 (zw_mG (List.mem_of_getElem? (i := 1405) (by decide +kernel)) rfl) ce_X11_put (zw_RvK g1 rfl rfl) (Nat.le_of_ble_eq_true rfl) rfl (Nat.le_of_ble_eq_true rfl) (by decide) (c_X11_put X v0 v1 I R J _ hq3 ⟨rfl, rfl⟩) ?_
    rintro _ _ ⟨rfl, rfl⟩
    show zy_V X M_X11_feed 1 P (17 + 3) [.ref v0, .int v1, .int v2, .int v3, .int v4, .int v5] [] (q3, R, J)
    refine zv_aload_n (pc := 20) d_X11_feed_20 rfl ?_
    refine zv_iload_n (pc := 21) d_X11_feed_21 rfl ?_
    obtain ⟨q4, hq4, hf⟩ := zw_bdE hf
    refine zx_callV (pc := 22) (As := [.int v2]) (o := v0) (st := []) (d2 := 0) (M2 := M_X11_put) (P2 := (fun r S => r = none ∧ S = (q4, R, J))) d_X11_feed_22 (zw_mG (List.mem_of_getElem? (i := 1405) (by decide +kernel)) rfl) ce_X11_put (zw_RvK g1 rfl rfl) (Nat.le_of_ble_eq_true rfl) rfl (Nat.le_of_ble_eq_true rfl) (by decide) (c_X11_put X v0 v2 q3 R J _ hq4 ⟨rfl, rfl⟩) ?_
    rintro _ _ ⟨rfl, rfl⟩
    show zy_V X M_X11_feed 1 P (22 + 3) [.ref v0, .int v1, .int v2, .int v3, .int v4, .int v5] [] (q4, R, J)
    refine zv_aload_n (pc := 25) d_X11_feed_25 rfl ?_
    refine zv_iload_n (pc := 26) d_X11_feed_26 rfl ?_
    obtain ⟨q5, hq5, hf⟩ := zw_bdE hf
    refine zx_callV (pc := 27) (As := [.int v3]) (o := v0) (st := []) (d2 := 0) (M2 := M_X11_put) (P2 := (fun r S => r = none ∧ S = (q5, R, J))) d_X11_feed_27 (zw_mG (List.mem_of_getElem? (i := 1405) (by decide +kernel)) rfl) ce_X11_put (zw_RvK g1 rfl rfl) (Nat.le_of_ble_eq_true rfl) rfl (Nat.le_of_ble_eq_true rfl) (by decide) (c_X11_put X v0 v3 q4 R J _ hq5 ⟨rfl, rfl⟩) ?_
    rintro _ _ ⟨rfl, rfl⟩
    show zy_V X M_X11_feed 1 P (27 + 3) [.ref v0, .int v1, .int v2, .int v3, .int v4, .int v5] [] (q5, R, J)
    refine zv_aload_n (pc := 30) d_X11_feed_30 rfl ?_
    refine zv_iload (pc := 31) d_X11_feed_31 rfl ?_
    obtain ⟨q6, hq6, hf⟩ := zw_bdE hf
    refine zx_callV (pc := 33) (As := [.int v4]) (o := v0) (st := []) (d2 := 0) (M2 := M_X11_put) (P2 := (fun r S => r = none ∧ S = (q6, R, J))) d_X11_feed_33 (zw_mG (List.mem_of_getElem? (i := 1405) (by decide +kernel)) rfl) ce_X11_put (zw_RvK g1 rfl rfl) (Nat.le_of_ble_eq_true rfl) rfl (Nat.le_of_ble_eq_true rfl) (by decide) (c_X11_put X v0 v4 q5 R J _ hq6 ⟨rfl, rfl⟩) ?_
    rintro _ _ ⟨rfl, rfl⟩
    show zy_V X M_X11_feed 1 P (33 + 3) [.ref v0, .int v1, .int v2, .int v3, .int v4, .int v5] [] (q6, R, J)
    refine zv_aload_n (pc := 36) d_X11_feed_36 rfl ?_
    refine zv_iload (pc := 37) d_X11_feed_37 rfl ?_
    obtain ⟨q7, hq7, hf⟩ := zw_bdE hf
    refine zx_callV (pc := 39) (As := [.int v5]) (o := v0) (st := []) (d2 := 0) (M2 := M_X11_put) (P2 := (fun r S => r = none ∧ S = (q7, R, J))) d_X11_feed_39 (zw_mG (List.mem_of_getElem? (i := 1405) (by decide +kernel)) rfl) ce_X11_put (zw_RvK g1 rfl rfl) (Nat.le_of_ble_eq_true rfl) rfl (Nat.le_of_ble_eq_true rfl) (by decide) (c_X11_put X v0 v5 q6 R J _ hq7 ⟨rfl, rfl⟩) ?_
    rintro _ _ ⟨rfl, rfl⟩
    show zy_V X M_X11_feed 1 P (39 + 3) [.ref v0, .int v1, .int v2, .int v3, .int v4, .int v5] [] (q7, R, J)
    refine zv_aload_n (pc := 42) d_X11_feed_42 rfl ?_
    refine zx_getI (pc := 43) d_X11_feed_43 lk_CutStonesModel_177 (by decide) g1 ?_
    cases hf
    exact zx_iret (pc := 46) d_X11_feed_46 rfl hk
  · refine zv_icmp_le (pc := 10) (tg := 15) d_X11_feed_10 (by decide) (fun q => absurd q c2) (fun _ => ?_)
    refine zv_iconst (pc := 13) d_X11_feed_13 zc_i_m1 ?_
    cases hf
    exact zx_iret (pc := 14) d_X11_feed_14 rfl hk
abbrev M_X11_goesOn : zw_M := (⟨"CutStonesModel", "goesOn", "()V"⟩, prog_13_method_18_code, 1, (Option.none : Option Jvm.ClassFile.FieldType))
theorem d_X11_goesOn_0 : decode M_X11_goesOn.2.1 0 = .ok (.aload_n 0, 1) := by decide +kernel
theorem d_X11_goesOn_1 : decode M_X11_goesOn.2.1 1 = .ok (.getfield 221, 3) := by decide +kernel
theorem d_X11_goesOn_4 : decode M_X11_goesOn.2.1 4 = .ok (.sipush 500, 3) := by decide +kernel
theorem d_X11_goesOn_7 : decode M_X11_goesOn.2.1 7 = .ok (.if_icmp .ne 11, 3) := by decide +kernel
theorem d_X11_goesOn_10 : decode M_X11_goesOn.2.1 10 = .ok (.aload_n 0, 1) := by decide +kernel
theorem d_X11_goesOn_11 : decode M_X11_goesOn.2.1 11 = .ok (.iconst 2, 1) := by decide +kernel
theorem d_X11_goesOn_12 : decode M_X11_goesOn.2.1 12 = .ok (.invokevirtual 233, 3) := by decide +kernel
theorem d_X11_goesOn_15 : decode M_X11_goesOn.2.1 15 = .ok (.goto 13, 3) := by decide +kernel
theorem d_X11_goesOn_18 : decode M_X11_goesOn.2.1 18 = .ok (.aload_n 0, 1) := by decide +kernel
theorem d_X11_goesOn_19 : decode M_X11_goesOn.2.1 19 = .ok (.dup, 1) := by decide +kernel
theorem d_X11_goesOn_20 : decode M_X11_goesOn.2.1 20 = .ok (.getfield 221, 3) := by decide +kernel
theorem d_X11_goesOn_23 : decode M_X11_goesOn.2.1 23 = .ok (.iconst 1, 1) := by decide +kernel
theorem d_X11_goesOn_24 : decode M_X11_goesOn.2.1 24 = .ok (.iadd, 1) := by decide +kernel
theorem d_X11_goesOn_25 : decode M_X11_goesOn.2.1 25 = .ok (.putfield 221, 3) := by decide +kernel
theorem d_X11_goesOn_28 : decode M_X11_goesOn.2.1 28 = .ok (.return_, 1) := by decide +kernel
theorem ce_X11_goesOn : zw_CeV M_X11_goesOn 0 := ⟨⟨⟨by decide +kernel, by decide +kernel, by decide +kernel⟩, (zw_mG (List.mem_of_getElem? (i := 1461) (by decide +kernel)) rfl), (zw_mG (List.mem_of_getElem? (i := 108) (by decide +kernel)) rfl), by decide, by decide +kernel⟩, (zw_mG (List.mem_of_getElem? (i := 1460) (by decide +kernel)) rfl), (zw_mG (List.mem_of_getElem? (i := 58) (by decide +kernel)) rfl)⟩
def f_X11_goesOn (v0 : Nat) (I : zI) (R : zR) : Option (zI) :=
  zw_g (zw_gc v0 11) (if ¬ (I v0 11) = 500 then zw_let (zw_u I v0 11 ((I v0 11) + 1) : zI) fun I3 => (some I3) else (f_X11_fail v0 2 I R).bind fun q4 => (some q4))
theorem c_X11_goesOn (X : zw_X) (v0 : Nat) (I : zI) (R : zR) (J : zJ) {P : Option Value → aS → Prop} (o : zI) (hf : f_X11_goesOn v0 I R = some o) (hk : P none (o, R, J)) : zw_C X M_X11_goesOn 1 0 0 199 [.ref v0] (I, R, J) P := by
  show zy_V X M_X11_goesOn 1 P 0 [.ref v0] [] (I, R, J)
  unfold f_X11_goesOn at hf
  refine zv_aload_n (pc := 0) d_X11_goesOn_0 rfl ?_
  obtain ⟨g1, hf⟩ := zw_gcE hf (by decide)
  refine zx_getI (pc := 1) d_X11_goesOn_1 lk_CutStonesModel_221 (by decide) g1 ?_
  refine zv_sipush (pc := 4) d_X11_goesOn_4 zc_s_500 ?_
  rcases zw_ifE hf with ⟨c2, hf⟩ | ⟨c2, hf⟩
  · refine zv_icmp_ne (pc := 7) (tg := 18) d_X11_goesOn_7 (by decide) (fun _ => ?_) (fun q => absurd q c2)
    refine zv_aload_n (pc := 18) d_X11_goesOn_18 rfl ?_
    refine zv_dup (pc := 19) d_X11_goesOn_19 rfl ?_
    refine zx_getI (pc := 20) d_X11_goesOn_20 lk_CutStonesModel_221 (by decide) g1 ?_
    refine zv_iconst (pc := 23) d_X11_goesOn_23 zc_i_1 ?_
    refine zv_iadd (pc := 24) d_X11_goesOn_24 ?_
    obtain ⟨I3, eI3, hf⟩ := zw_letE hf
    refine zx_putI (pc := 25) (I2 := I3) d_X11_goesOn_25 lk_CutStonesModel_221 rfl g1 eI3 ?_
    cases hf
    exact zx_vret (pc := 28) d_X11_goesOn_28 rfl hk
  · refine zv_icmp_ne (pc := 7) (tg := 18) d_X11_goesOn_7 (by decide) (fun q => absurd q c2) (fun _ => ?_)
    refine zv_aload_n (pc := 10) d_X11_goesOn_10 rfl ?_
    refine zv_iconst (pc := 11) d_X11_goesOn_11 zc_i_2 ?_
    obtain ⟨q4, hq4, hf⟩ := zw_bdE hf
    refine zx_callV (pc := 12) (As := [.int 2]) (o := v0) (st := []) (d2 := 0) (M2 := M_X11_fail) (P2 := (fun r S => r = none ∧ S = (q4, R, J))) d_X11_goesOn_12 (zw_mG (List.mem_of_getElem? (i := 1450) (by decide +kernel)) rfl) ce_X11_fail (zw_RvK g1 rfl rfl) (Nat.le_of_ble_eq_true rfl) rfl (Nat.le_of_ble_eq_true rfl) (by decide) (c_X11_fail X v0 2 I R J _ hq4 ⟨rfl, rfl⟩) ?_
    rintro _ _ ⟨rfl, rfl⟩
    show zy_V X M_X11_goesOn 1 P (12 + 3) [.ref v0] [] (q4, R, J)
    refine zv_goto (pc := 15) (tg := 28) d_X11_goesOn_15 (by decide) ?_
    cases hf
    exact zx_vret (pc := 28) d_X11_goesOn_28 rfl hk
abbrev M_X11_hasSide : zw_M := (⟨"CutStonesModel", "hasSide", "(II)Z"⟩, prog_13_method_39_code, 2, (Option.some Jvm.ClassFile.FieldType.boolean))
theorem d_X11_hasSide_0 : decode M_X11_hasSide.2.1 0 = .ok (.iload_n 0, 1) := by decide +kernel
theorem d_X11_hasSide_1 : decode M_X11_hasSide.2.1 1 = .ok (.iconst 5, 1) := by decide +kernel
theorem d_X11_hasSide_2 : decode M_X11_hasSide.2.1 2 = .ok (.if_icmp .lt 5, 3) := by decide +kernel
theorem d_X11_hasSide_5 : decode M_X11_hasSide.2.1 5 = .ok (.iconst 1, 1) := by decide +kernel
theorem d_X11_hasSide_6 : decode M_X11_hasSide.2.1 6 = .ok (.ireturn, 1) := by decide +kernel
theorem d_X11_hasSide_7 : decode M_X11_hasSide.2.1 7 = .ok (.iload_n 0, 1) := by decide +kernel
theorem d_X11_hasSide_8 : decode M_X11_hasSide.2.1 8 = .ok (.ifCond .le 23, 3) := by decide +kernel
theorem d_X11_hasSide_11 : decode M_X11_hasSide.2.1 11 = .ok (.iload_n 1, 1) := by decide +kernel
theorem d_X11_hasSide_12 : decode M_X11_hasSide.2.1 12 = .ok (.iload_n 0, 1) := by decide +kernel
theorem d_X11_hasSide_13 : decode M_X11_hasSide.2.1 13 = .ok (.invokestatic 346, 3) := by decide +kernel
theorem d_X11_hasSide_16 : decode M_X11_hasSide.2.1 16 = .ok (.if_icmp .eq 11, 3) := by decide +kernel
theorem d_X11_hasSide_19 : decode M_X11_hasSide.2.1 19 = .ok (.iload_n 1, 1) := by decide +kernel
theorem d_X11_hasSide_20 : decode M_X11_hasSide.2.1 20 = .ok (.iload_n 0, 1) := by decide +kernel
theorem d_X11_hasSide_21 : decode M_X11_hasSide.2.1 21 = .ok (.invokestatic 349, 3) := by decide +kernel
theorem d_X11_hasSide_24 : decode M_X11_hasSide.2.1 24 = .ok (.if_icmp .ne 7, 3) := by decide +kernel
theorem d_X11_hasSide_27 : decode M_X11_hasSide.2.1 27 = .ok (.iconst 1, 1) := by decide +kernel
theorem d_X11_hasSide_28 : decode M_X11_hasSide.2.1 28 = .ok (.goto 4, 3) := by decide +kernel
theorem d_X11_hasSide_31 : decode M_X11_hasSide.2.1 31 = .ok (.iconst 0, 1) := by decide +kernel
theorem d_X11_hasSide_32 : decode M_X11_hasSide.2.1 32 = .ok (.ireturn, 1) := by decide +kernel
theorem ce_X11_hasSide : zw_CeS M_X11_hasSide 2 := ⟨⟨⟨by decide +kernel, by decide +kernel, by decide +kernel⟩, (zw_mG (List.mem_of_getElem? (i := 1576) (by decide +kernel)) rfl), (zw_mG (List.mem_of_getElem? (i := 108) (by decide +kernel)) rfl), by decide, by decide +kernel⟩, (zw_mG (List.mem_of_getElem? (i := 1575) (by decide +kernel)) rfl)⟩
def j_X11_hasSide_27   : Option (Int32) :=
  some 1
theorem j_X11_hasSide_27_ok (X : zw_X) (P : Option Value → aS → Prop)  (I : zI) (R : zR) (J : zJ) (o : Int32) (hf : j_X11_hasSide_27  = some o) (hk : P (some (.int o)) (I, R, J)) : zy_V X M_X11_hasSide 1 P 27 [.null, .null] [] (I, R, J) := by
  unfold j_X11_hasSide_27 at hf
  refine zv_iconst (pc := 27) d_X11_hasSide_27 zc_i_1 ?_
  refine zv_goto (pc := 28) (tg := 32) d_X11_hasSide_28 (by decide) ?_
  cases hf
  exact zx_zret (pc := 32) d_X11_hasSide_32 rfl (Or.inr rfl) hk
def f_X11_hasSide (v0 : Int32) (v1 : Int32)  : Option (Int32) :=
  if v0 < 5 then if v0 ≤ 0 then some 0 else (f_X11_upDown v0).bind fun q3 => (if v1 = q3 then j_X11_hasSide_27 else (f_X11_across v0).bind fun q5 => (if ¬ v1 = q5 then some 0 else j_X11_hasSide_27)) else some 1
theorem c_X11_hasSide (X : zw_X) (v0 : Int32) (v1 : Int32) (I : zI) (R : zR) (J : zJ) {P : Option Value → aS → Prop} (o : Int32) (hf : f_X11_hasSide v0 v1  = some o) (hk : P (some (.int o)) (I, R, J)) : zw_C X M_X11_hasSide 1 0 0 199 [.int v0, .int v1] (I, R, J) P := by
  show zy_V X M_X11_hasSide 1 P 0 [.int v0, .int v1] [] (I, R, J)
  unfold f_X11_hasSide at hf
  refine zv_iload_n (pc := 0) d_X11_hasSide_0 rfl ?_
  refine zv_iconst (pc := 1) d_X11_hasSide_1 zc_i_5 ?_
  rcases zw_ifE hf with ⟨c1, hf⟩ | ⟨c1, hf⟩
  · refine zv_icmp_lt (pc := 2) (tg := 7) d_X11_hasSide_2 (by decide) (fun _ => ?_) (fun q => absurd c1 q)
    refine zv_iload_n (pc := 7) d_X11_hasSide_7 rfl ?_
    rcases zw_ifE hf with ⟨c2, hf⟩ | ⟨c2, hf⟩
    · refine zv_if_le (pc := 8) (tg := 31) d_X11_hasSide_8 (by decide) (fun _ => ?_) (fun q => absurd c2 q)
      refine zv_iconst (pc := 31) d_X11_hasSide_31 zc_i_0 ?_
      cases hf
      exact zx_zret (pc := 32) d_X11_hasSide_32 rfl (Or.inl rfl) hk
    · refine zv_if_le (pc := 8) (tg := 31) d_X11_hasSide_8 (by decide) (fun q => absurd q c2) (fun _ => ?_)
      refine zv_iload_n (pc := 11) d_X11_hasSide_11 rfl ?_
      refine zv_iload_n (pc := 12) d_X11_hasSide_12 rfl ?_
      obtain ⟨q3, hq3, hf⟩ := zw_bdE hf
      refine zx_callS (pc := 13) (As := [.int v0]) (st := [.int v1]) (d2 := 0) (M2 := M_X11_upDown) (P2 := (fun r S => r = (some (.int q3)) ∧ S = (I, R, J))) d_X11_hasSide_13 (zw_mG (List.mem_of_getElem? (i := 1577) (by decide +kernel)) rfl) ce_X11_upDown (Nat.le_of_ble_eq_true rfl) rfl (Nat.le_of_ble_eq_true rfl) (by decide) (c_X11_upDown X v0 I R J _ hq3 ⟨rfl, rfl⟩) ?_
      rintro _ _ ⟨rfl, rfl⟩
      show zy_V X M_X11_hasSide 1 P (13 + 3) [.int v0, .int v1] [.int q3, .int v1] (I, R, J)
      rcases zw_ifE hf with ⟨c4, hf⟩ | ⟨c4, hf⟩
      · refine zv_icmp_eq (pc := 16) (tg := 27) d_X11_hasSide_16 (by decide) (fun _ => ?_) (fun q => absurd c4 q)
        exact zx_weak (zw_leN (zw_leN zw_leZ)) (j_X11_hasSide_27_ok X P I R J _ hf hk)
      · refine zv_icmp_eq (pc := 16) (tg := 27) d_X11_hasSide_16 (by decide) (fun q => absurd q c4) (fun _ => ?_)
        refine zv_iload_n (pc := 19) d_X11_hasSide_19 rfl ?_
        refine zv_iload_n (pc := 20) d_X11_hasSide_20 rfl ?_
        obtain ⟨q5, hq5, hf⟩ := zw_bdE hf
        refine zx_callS (pc := 21) (As := [.int v0]) (st := [.int v1]) (d2 := 0) (M2 := M_X11_across) (P2 := (fun r S => r = (some (.int q5)) ∧ S = (I, R, J))) d_X11_hasSide_21 (zw_mG (List.mem_of_getElem? (i := 1580) (by decide +kernel)) rfl) ce_X11_across (Nat.le_of_ble_eq_true rfl) rfl (Nat.le_of_ble_eq_true rfl) (by decide) (c_X11_across X v0 I R J _ hq5 ⟨rfl, rfl⟩) ?_
        rintro _ _ ⟨rfl, rfl⟩
        show zy_V X M_X11_hasSide 1 P (21 + 3) [.int v0, .int v1] [.int q5, .int v1] (I, R, J)
        rcases zw_ifE hf with ⟨c6, hf⟩ | ⟨c6, hf⟩
        · refine zv_icmp_ne (pc := 24) (tg := 31) d_X11_hasSide_24 (by decide) (fun _ => ?_) (fun q => absurd q c6)
          refine zv_iconst (pc := 31) d_X11_hasSide_31 zc_i_0 ?_
          cases hf
          exact zx_zret (pc := 32) d_X11_hasSide_32 rfl (Or.inl rfl) hk
        · refine zv_icmp_ne (pc := 24) (tg := 31) d_X11_hasSide_24 (by decide) (fun q => absurd q c6) (fun _ => ?_)
          exact zx_weak (zw_leN (zw_leN zw_leZ)) (j_X11_hasSide_27_ok X P I R J _ hf hk)
  · refine zv_icmp_lt (pc := 2) (tg := 7) d_X11_hasSide_2 (by decide) (fun q => absurd q c1) (fun _ => ?_)
    refine zv_iconst (pc := 5) d_X11_hasSide_5 zc_i_1 ?_
    cases hf
    exact zx_zret (pc := 6) d_X11_hasSide_6 rfl (Or.inr rfl) hk
abbrev M_X11_isKnown : zw_M := (⟨"CutStonesModel", "isKnown", "(I)Z"⟩, prog_13_method_83_code, 2, (Option.some Jvm.ClassFile.FieldType.boolean))
theorem d_X11_isKnown_0 : decode M_X11_isKnown.2.1 0 = .ok (.iload_n 1, 1) := by decide +kernel
theorem d_X11_isKnown_1 : decode M_X11_isKnown.2.1 1 = .ok (.iconst 0, 1) := by decide +kernel
theorem d_X11_isKnown_2 : decode M_X11_isKnown.2.1 2 = .ok (.aload_n 0, 1) := by decide +kernel
theorem d_X11_isKnown_3 : decode M_X11_isKnown.2.1 3 = .ok (.getfield 273, 3) := by decide +kernel
theorem d_X11_isKnown_6 : decode M_X11_isKnown.2.1 6 = .ok (.invokestatic 373, 3) := by decide +kernel
theorem d_X11_isKnown_9 : decode M_X11_isKnown.2.1 9 = .ok (.ireturn, 1) := by decide +kernel
theorem ce_X11_isKnown : zw_CeV M_X11_isKnown 1 := ⟨⟨⟨by decide +kernel, by decide +kernel, by decide +kernel⟩, (zw_mG (List.mem_of_getElem? (i := 1704) (by decide +kernel)) rfl), (zw_mG (List.mem_of_getElem? (i := 108) (by decide +kernel)) rfl), by decide, by decide +kernel⟩, (zw_mG (List.mem_of_getElem? (i := 1703) (by decide +kernel)) rfl), (zw_mG (List.mem_of_getElem? (i := 91) (by decide +kernel)) rfl)⟩
def f_X11_isKnown (v0 : Nat) (v1 : Int32) (I : zI) : Option (Int32) :=
  zw_g (zw_gc v0 11) ((f_X11_in v1 0 (I v0 75)).bind fun q2 => (zw_g (zw_b q2) (some q2)))
theorem c_X11_isKnown (X : zw_X) (v0 : Nat) (v1 : Int32) (I : zI) (R : zR) (J : zJ) {P : Option Value → aS → Prop} (o : Int32) (hf : f_X11_isKnown v0 v1 I = some o) (hk : P (some (.int o)) (I, R, J)) : zw_C X M_X11_isKnown 1 0 0 199 [.ref v0, .int v1] (I, R, J) P := by
  show zy_V X M_X11_isKnown 1 P 0 [.ref v0, .int v1] [] (I, R, J)
  unfold f_X11_isKnown at hf
  refine zv_iload_n (pc := 0) d_X11_isKnown_0 rfl ?_
  refine zv_iconst (pc := 1) d_X11_isKnown_1 zc_i_0 ?_
  refine zv_aload_n (pc := 2) d_X11_isKnown_2 rfl ?_
  obtain ⟨g1, hf⟩ := zw_gcE hf (by decide)
  refine zx_getI (pc := 3) d_X11_isKnown_3 lk_CutStonesModel_273 (by decide) g1 ?_
  obtain ⟨q2, hq2, hf⟩ := zw_bdE hf
  refine zx_callS (pc := 6) (As := [.int v1, .int 0, .int (I v0 75)]) (st := []) (d2 := 0) (M2 := M_X11_in) (P2 := (fun r S => r = (some (.int q2)) ∧ S = (I, R, J))) d_X11_isKnown_6 (zw_mG (List.mem_of_getElem? (i := 1522) (by decide +kernel)) rfl) ce_X11_in (Nat.le_of_ble_eq_true rfl) rfl (Nat.le_of_ble_eq_true rfl) (by decide) (c_X11_in X v1 0 (I v0 75) I R J _ hq2 ⟨rfl, rfl⟩) ?_
  rintro _ _ ⟨rfl, rfl⟩
  show zy_V X M_X11_isKnown 1 P (6 + 3) [.ref v0, .int v1] [.int q2] (I, R, J)
  obtain ⟨b3, hf⟩ := zw_bE hf
  cases hf
  exact zx_zret (pc := 9) d_X11_isKnown_9 rfl b3 hk
abbrev M_X11_isTrue : zw_M := (⟨"CutStonesModel", "isTrue", "(I)Z"⟩, prog_13_method_34_code, 6, (Option.some Jvm.ClassFile.FieldType.boolean))
theorem d_X11_isTrue_0 : decode M_X11_isTrue.2.1 0 = .ok (.aload_n 0, 1) := by decide +kernel
theorem d_X11_isTrue_1 : decode M_X11_isTrue.2.1 1 = .ok (.aload_n 0, 1) := by decide +kernel
theorem d_X11_isTrue_2 : decode M_X11_isTrue.2.1 2 = .ok (.getfield 101, 3) := by decide +kernel
theorem d_X11_isTrue_5 : decode M_X11_isTrue.2.1 5 = .ok (.iload_n 1, 1) := by decide +kernel
theorem d_X11_isTrue_6 : decode M_X11_isTrue.2.1 6 = .ok (.iaload, 1) := by decide +kernel
theorem d_X11_isTrue_7 : decode M_X11_isTrue.2.1 7 = .ok (.aload_n 0, 1) := by decide +kernel
theorem d_X11_isTrue_8 : decode M_X11_isTrue.2.1 8 = .ok (.getfield 104, 3) := by decide +kernel
theorem d_X11_isTrue_11 : decode M_X11_isTrue.2.1 11 = .ok (.iload_n 1, 1) := by decide +kernel
theorem d_X11_isTrue_12 : decode M_X11_isTrue.2.1 12 = .ok (.iaload, 1) := by decide +kernel
theorem d_X11_isTrue_13 : decode M_X11_isTrue.2.1 13 = .ok (.invokevirtual 321, 3) := by decide +kernel
theorem d_X11_isTrue_16 : decode M_X11_isTrue.2.1 16 = .ok (.istore_n 2, 1) := by decide +kernel
theorem d_X11_isTrue_17 : decode M_X11_isTrue.2.1 17 = .ok (.aload_n 0, 1) := by decide +kernel
theorem d_X11_isTrue_18 : decode M_X11_isTrue.2.1 18 = .ok (.getfield 318, 3) := by decide +kernel
theorem d_X11_isTrue_21 : decode M_X11_isTrue.2.1 21 = .ok (.istore_n 3, 1) := by decide +kernel
theorem d_X11_isTrue_22 : decode M_X11_isTrue.2.1 22 = .ok (.aload_n 0, 1) := by decide +kernel
theorem d_X11_isTrue_23 : decode M_X11_isTrue.2.1 23 = .ok (.aload_n 0, 1) := by decide +kernel
theorem d_X11_isTrue_24 : decode M_X11_isTrue.2.1 24 = .ok (.getfield 104, 3) := by decide +kernel
theorem d_X11_isTrue_27 : decode M_X11_isTrue.2.1 27 = .ok (.iload_n 1, 1) := by decide +kernel
theorem d_X11_isTrue_28 : decode M_X11_isTrue.2.1 28 = .ok (.iaload, 1) := by decide +kernel
theorem d_X11_isTrue_29 : decode M_X11_isTrue.2.1 29 = .ok (.aload_n 0, 1) := by decide +kernel
theorem d_X11_isTrue_30 : decode M_X11_isTrue.2.1 30 = .ok (.getfield 107, 3) := by decide +kernel
theorem d_X11_isTrue_33 : decode M_X11_isTrue.2.1 33 = .ok (.iload_n 1, 1) := by decide +kernel
theorem d_X11_isTrue_34 : decode M_X11_isTrue.2.1 34 = .ok (.iaload, 1) := by decide +kernel
theorem d_X11_isTrue_35 : decode M_X11_isTrue.2.1 35 = .ok (.invokevirtual 321, 3) := by decide +kernel
theorem d_X11_isTrue_38 : decode M_X11_isTrue.2.1 38 = .ok (.istore 4, 2) := by decide +kernel
theorem d_X11_isTrue_40 : decode M_X11_isTrue.2.1 40 = .ok (.iload_n 3, 1) := by decide +kernel
theorem d_X11_isTrue_41 : decode M_X11_isTrue.2.1 41 = .ok (.ifCond .ne 10, 3) := by decide +kernel
theorem d_X11_isTrue_44 : decode M_X11_isTrue.2.1 44 = .ok (.aload_n 0, 1) := by decide +kernel
theorem d_X11_isTrue_45 : decode M_X11_isTrue.2.1 45 = .ok (.getfield 318, 3) := by decide +kernel
theorem d_X11_isTrue_48 : decode M_X11_isTrue.2.1 48 = .ok (.ifCond .eq 7, 3) := by decide +kernel
theorem d_X11_isTrue_51 : decode M_X11_isTrue.2.1 51 = .ok (.iconst 1, 1) := by decide +kernel
theorem d_X11_isTrue_52 : decode M_X11_isTrue.2.1 52 = .ok (.goto 4, 3) := by decide +kernel
theorem d_X11_isTrue_55 : decode M_X11_isTrue.2.1 55 = .ok (.iconst 0, 1) := by decide +kernel
theorem d_X11_isTrue_56 : decode M_X11_isTrue.2.1 56 = .ok (.istore_n 3, 1) := by decide +kernel
theorem d_X11_isTrue_57 : decode M_X11_isTrue.2.1 57 = .ok (.aload_n 0, 1) := by decide +kernel
theorem d_X11_isTrue_58 : decode M_X11_isTrue.2.1 58 = .ok (.getfield 91, 3) := by decide +kernel
theorem d_X11_isTrue_61 : decode M_X11_isTrue.2.1 61 = .ok (.iload_n 1, 1) := by decide +kernel
theorem d_X11_isTrue_62 : decode M_X11_isTrue.2.1 62 = .ok (.iaload, 1) := by decide +kernel
theorem d_X11_isTrue_63 : decode M_X11_isTrue.2.1 63 = .ok (.ifCond .ne 17, 3) := by decide +kernel
theorem d_X11_isTrue_66 : decode M_X11_isTrue.2.1 66 = .ok (.iload_n 2, 1) := by decide +kernel
theorem d_X11_isTrue_67 : decode M_X11_isTrue.2.1 67 = .ok (.iload 4, 2) := by decide +kernel
theorem d_X11_isTrue_69 : decode M_X11_isTrue.2.1 69 = .ok (.if_icmp .ne 7, 3) := by decide +kernel
theorem d_X11_isTrue_72 : decode M_X11_isTrue.2.1 72 = .ok (.iconst 1, 1) := by decide +kernel
theorem d_X11_isTrue_73 : decode M_X11_isTrue.2.1 73 = .ok (.goto 66, 3) := by decide +kernel
theorem d_X11_isTrue_76 : decode M_X11_isTrue.2.1 76 = .ok (.iconst 0, 1) := by decide +kernel
theorem d_X11_isTrue_77 : decode M_X11_isTrue.2.1 77 = .ok (.goto 62, 3) := by decide +kernel
theorem d_X11_isTrue_80 : decode M_X11_isTrue.2.1 80 = .ok (.aload_n 0, 1) := by decide +kernel
theorem d_X11_isTrue_81 : decode M_X11_isTrue.2.1 81 = .ok (.getfield 91, 3) := by decide +kernel
theorem d_X11_isTrue_84 : decode M_X11_isTrue.2.1 84 = .ok (.iload_n 1, 1) := by decide +kernel
theorem d_X11_isTrue_85 : decode M_X11_isTrue.2.1 85 = .ok (.iaload, 1) := by decide +kernel
theorem d_X11_isTrue_86 : decode M_X11_isTrue.2.1 86 = .ok (.iconst 1, 1) := by decide +kernel
theorem d_X11_isTrue_87 : decode M_X11_isTrue.2.1 87 = .ok (.if_icmp .ne 17, 3) := by decide +kernel
theorem d_X11_isTrue_90 : decode M_X11_isTrue.2.1 90 = .ok (.iload_n 2, 1) := by decide +kernel
theorem d_X11_isTrue_91 : decode M_X11_isTrue.2.1 91 = .ok (.iload 4, 2) := by decide +kernel
theorem d_X11_isTrue_93 : decode M_X11_isTrue.2.1 93 = .ok (.if_icmp .eq 7, 3) := by decide +kernel
theorem d_X11_isTrue_96 : decode M_X11_isTrue.2.1 96 = .ok (.iconst 1, 1) := by decide +kernel
theorem d_X11_isTrue_97 : decode M_X11_isTrue.2.1 97 = .ok (.goto 42, 3) := by decide +kernel
theorem d_X11_isTrue_100 : decode M_X11_isTrue.2.1 100 = .ok (.iconst 0, 1) := by decide +kernel
theorem d_X11_isTrue_101 : decode M_X11_isTrue.2.1 101 = .ok (.goto 38, 3) := by decide +kernel
theorem d_X11_isTrue_104 : decode M_X11_isTrue.2.1 104 = .ok (.aload_n 0, 1) := by decide +kernel
theorem d_X11_isTrue_105 : decode M_X11_isTrue.2.1 105 = .ok (.getfield 91, 3) := by decide +kernel
theorem d_X11_isTrue_108 : decode M_X11_isTrue.2.1 108 = .ok (.iload_n 1, 1) := by decide +kernel
theorem d_X11_isTrue_109 : decode M_X11_isTrue.2.1 109 = .ok (.iaload, 1) := by decide +kernel
theorem d_X11_isTrue_110 : decode M_X11_isTrue.2.1 110 = .ok (.iconst 2, 1) := by decide +kernel
theorem d_X11_isTrue_111 : decode M_X11_isTrue.2.1 111 = .ok (.if_icmp .ne 17, 3) := by decide +kernel
theorem d_X11_isTrue_114 : decode M_X11_isTrue.2.1 114 = .ok (.iload_n 2, 1) := by decide +kernel
theorem d_X11_isTrue_115 : decode M_X11_isTrue.2.1 115 = .ok (.iload 4, 2) := by decide +kernel
theorem d_X11_isTrue_117 : decode M_X11_isTrue.2.1 117 = .ok (.if_icmp .ge 7, 3) := by decide +kernel
theorem d_X11_isTrue_120 : decode M_X11_isTrue.2.1 120 = .ok (.iconst 1, 1) := by decide +kernel
theorem d_X11_isTrue_121 : decode M_X11_isTrue.2.1 121 = .ok (.goto 18, 3) := by decide +kernel
theorem d_X11_isTrue_124 : decode M_X11_isTrue.2.1 124 = .ok (.iconst 0, 1) := by decide +kernel
theorem d_X11_isTrue_125 : decode M_X11_isTrue.2.1 125 = .ok (.goto 14, 3) := by decide +kernel
theorem d_X11_isTrue_128 : decode M_X11_isTrue.2.1 128 = .ok (.iload_n 2, 1) := by decide +kernel
theorem d_X11_isTrue_129 : decode M_X11_isTrue.2.1 129 = .ok (.iload 4, 2) := by decide +kernel
theorem d_X11_isTrue_131 : decode M_X11_isTrue.2.1 131 = .ok (.if_icmp .gt 7, 3) := by decide +kernel
theorem d_X11_isTrue_134 : decode M_X11_isTrue.2.1 134 = .ok (.iconst 1, 1) := by decide +kernel
theorem d_X11_isTrue_135 : decode M_X11_isTrue.2.1 135 = .ok (.goto 4, 3) := by decide +kernel
theorem d_X11_isTrue_138 : decode M_X11_isTrue.2.1 138 = .ok (.iconst 0, 1) := by decide +kernel
theorem d_X11_isTrue_139 : decode M_X11_isTrue.2.1 139 = .ok (.istore 5, 2) := by decide +kernel
theorem d_X11_isTrue_141 : decode M_X11_isTrue.2.1 141 = .ok (.iload 5, 2) := by decide +kernel
theorem d_X11_isTrue_143 : decode M_X11_isTrue.2.1 143 = .ok (.ifCond .eq 11, 3) := by decide +kernel
theorem d_X11_isTrue_146 : decode M_X11_isTrue.2.1 146 = .ok (.iload_n 3, 1) := by decide +kernel
theorem d_X11_isTrue_147 : decode M_X11_isTrue.2.1 147 = .ok (.ifCond .ne 7, 3) := by decide +kernel
theorem d_X11_isTrue_150 : decode M_X11_isTrue.2.1 150 = .ok (.iconst 1, 1) := by decide +kernel
theorem d_X11_isTrue_151 : decode M_X11_isTrue.2.1 151 = .ok (.goto 4, 3) := by decide +kernel
theorem d_X11_isTrue_154 : decode M_X11_isTrue.2.1 154 = .ok (.iconst 0, 1) := by decide +kernel
theorem d_X11_isTrue_155 : decode M_X11_isTrue.2.1 155 = .ok (.aload_n 0, 1) := by decide +kernel
theorem d_X11_isTrue_156 : decode M_X11_isTrue.2.1 156 = .ok (.getfield 94, 3) := by decide +kernel
theorem d_X11_isTrue_159 : decode M_X11_isTrue.2.1 159 = .ok (.iload_n 1, 1) := by decide +kernel
theorem d_X11_isTrue_160 : decode M_X11_isTrue.2.1 160 = .ok (.baload, 1) := by decide +kernel
theorem d_X11_isTrue_161 : decode M_X11_isTrue.2.1 161 = .ok (.if_icmp .eq 7, 3) := by decide +kernel
theorem d_X11_isTrue_164 : decode M_X11_isTrue.2.1 164 = .ok (.iconst 1, 1) := by decide +kernel
theorem d_X11_isTrue_165 : decode M_X11_isTrue.2.1 165 = .ok (.goto 4, 3) := by decide +kernel
theorem d_X11_isTrue_168 : decode M_X11_isTrue.2.1 168 = .ok (.iconst 0, 1) := by decide +kernel
theorem d_X11_isTrue_169 : decode M_X11_isTrue.2.1 169 = .ok (.ireturn, 1) := by decide +kernel
theorem ce_X11_isTrue : zw_CeV M_X11_isTrue 1 := ⟨⟨⟨by decide +kernel, by decide +kernel, by decide +kernel⟩, (zw_mG (List.mem_of_getElem? (i := 1631) (by decide +kernel)) rfl), (zw_mG (List.mem_of_getElem? (i := 108) (by decide +kernel)) rfl), by decide, by decide +kernel⟩, (zw_mG (List.mem_of_getElem? (i := 1630) (by decide +kernel)) rfl), (zw_mG (List.mem_of_getElem? (i := 83) (by decide +kernel)) rfl)⟩
def j_X11_isTrue_155 (v0 : Nat) (v1 : Int32) (s0 : Int32) (I : zI) (R : zR) : Option (Int32 × zI) :=
  zw_g (zw_gc v0 11) (zw_g (zw_gc (R v0 39) 15) (zw_g (zw_in v1 (zw_SH (R v0 39)).2) (if s0 = (I (R v0 39) (Int32.toNatClampNeg v1)) then some (0, I) else some (1, I))))
theorem j_X11_isTrue_155_ok (X : zw_X) (P : Option Value → aS → Prop) (v0 : Nat) (v1 : Int32) (s0 : Int32) (I : zI) (R : zR) (J : zJ) (o : Int32 × zI) (hf : j_X11_isTrue_155 v0 v1 s0 I R = some o) (hk : P (some (.int o.1)) (o.2, R, J)) : zy_V X M_X11_isTrue 1 P 155 [.ref v0, .int v1, .null, .null, .null, .null] [.int s0] (I, R, J) := by
  unfold j_X11_isTrue_155 at hf
  refine zv_aload_n (pc := 155) d_X11_isTrue_155 rfl ?_
  obtain ⟨g23, hf⟩ := zw_gcE hf (by decide)
  obtain ⟨g24, hf⟩ := zw_gcE hf (by decide)
  refine zx_getR (pc := 156) d_X11_isTrue_156 lk_CutStonesModel_94 (by decide) g23 g24 ?_
  refine zv_iload_n (pc := 159) d_X11_isTrue_159 rfl ?_
  obtain ⟨i25, hf⟩ := zw_inE hf
  refine zx_zald (pc := 160) d_X11_isTrue_160 g24 i25 ?_
  rcases zw_ifE hf with ⟨c26, hf⟩ | ⟨c26, hf⟩
  · refine zv_icmp_eq (pc := 161) (tg := 168) d_X11_isTrue_161 (by decide) (fun _ => ?_) (fun q => absurd c26 q)
    refine zv_iconst (pc := 168) d_X11_isTrue_168 zc_i_0 ?_
    cases hf
    exact zx_zret (pc := 169) d_X11_isTrue_169 rfl (Or.inl rfl) hk
  · refine zv_icmp_eq (pc := 161) (tg := 168) d_X11_isTrue_161 (by decide) (fun q => absurd q c26) (fun _ => ?_)
    refine zv_iconst (pc := 164) d_X11_isTrue_164 zc_i_1 ?_
    refine zv_goto (pc := 165) (tg := 169) d_X11_isTrue_165 (by decide) ?_
    cases hf
    exact zx_zret (pc := 169) d_X11_isTrue_169 rfl (Or.inr rfl) hk
def j_X11_isTrue_154 (v0 : Nat) (v1 : Int32) (I : zI) (R : zR) : Option (Int32 × zI) :=
  j_X11_isTrue_155 v0 v1 0 I R
theorem j_X11_isTrue_154_ok (X : zw_X) (P : Option Value → aS → Prop) (v0 : Nat) (v1 : Int32) (I : zI) (R : zR) (J : zJ) (o : Int32 × zI) (hf : j_X11_isTrue_154 v0 v1 I R = some o) (hk : P (some (.int o.1)) (o.2, R, J)) : zy_V X M_X11_isTrue 1 P 154 [.ref v0, .int v1, .null, .null, .null, .null] [] (I, R, J) := by
  unfold j_X11_isTrue_154 at hf
  refine zv_iconst (pc := 154) d_X11_isTrue_154 zc_i_0 ?_
  exact zx_weak (zw_leS (zw_leS (zw_leN (zw_leN (zw_leN (zw_leN zw_leZ)))))) (j_X11_isTrue_155_ok X P v0 v1 0 I R J _ hf hk)
def j_X11_isTrue_139 (v0 : Nat) (v1 : Int32) (v3 : Int32) (s0 : Int32) (I : zI) (R : zR) : Option (Int32 × zI) :=
  if s0 = 0 then j_X11_isTrue_154 v0 v1 I R else if ¬ v3 = 0 then j_X11_isTrue_154 v0 v1 I R else j_X11_isTrue_155 v0 v1 1 I R
theorem j_X11_isTrue_139_ok (X : zw_X) (P : Option Value → aS → Prop) (v0 : Nat) (v1 : Int32) (v3 : Int32) (s0 : Int32) (I : zI) (R : zR) (J : zJ) (o : Int32 × zI) (hf : j_X11_isTrue_139 v0 v1 v3 s0 I R = some o) (hk : P (some (.int o.1)) (o.2, R, J)) : zy_V X M_X11_isTrue 1 P 139 [.ref v0, .int v1, .null, .int v3, .null, .null] [.int s0] (I, R, J) := by
  unfold j_X11_isTrue_139 at hf
  refine zx_istore (pc := 139) (x2 := s0) (L2 := [.ref v0, .int v1, .null, .int v3, .null, .int s0]) d_X11_isTrue_139 (by decide) rfl rfl ?_
  refine zv_iload (pc := 141) d_X11_isTrue_141 rfl ?_
  rcases zw_ifE hf with ⟨c22, hf⟩ | ⟨c22, hf⟩
  · refine zv_if_eq (pc := 143) (tg := 154) d_X11_isTrue_143 (by decide) (fun _ => ?_) (fun q => absurd c22 q)
    exact zx_weak (zw_leS (zw_leS (zw_leN (zw_leN (zw_leN (zw_leN zw_leZ)))))) (j_X11_isTrue_154_ok X P v0 v1 I R J _ hf hk)
  · refine zv_if_eq (pc := 143) (tg := 154) d_X11_isTrue_143 (by decide) (fun q => absurd q c22) (fun _ => ?_)
    refine zv_iload_n (pc := 146) d_X11_isTrue_146 rfl ?_
    rcases zw_ifE hf with ⟨c27, hf⟩ | ⟨c27, hf⟩
    · refine zv_if_ne (pc := 147) (tg := 154) d_X11_isTrue_147 (by decide) (fun _ => ?_) (fun q => absurd q c27)
      exact zx_weak (zw_leS (zw_leS (zw_leN (zw_leN (zw_leN (zw_leN zw_leZ)))))) (j_X11_isTrue_154_ok X P v0 v1 I R J _ hf hk)
    · refine zv_if_ne (pc := 147) (tg := 154) d_X11_isTrue_147 (by decide) (fun q => absurd q c27) (fun _ => ?_)
      refine zv_iconst (pc := 150) d_X11_isTrue_150 zc_i_1 ?_
      refine zv_goto (pc := 151) (tg := 155) d_X11_isTrue_151 (by decide) ?_
      exact zx_weak (zw_leS (zw_leS (zw_leN (zw_leN (zw_leN (zw_leN zw_leZ)))))) (j_X11_isTrue_155_ok X P v0 v1 1 I R J _ hf hk)
def j_X11_isTrue_56 (v0 : Nat) (v1 : Int32) (v2 : Int32) (v4 : Int32) (s0 : Int32) (I : zI) (R : zR) : Option (Int32 × zI) :=
  zw_g (zw_gc v0 11) (zw_g (zw_gc (R v0 38) 13) (zw_g (zw_in v1 (zw_SH (R v0 38)).2) (if ¬ (I (R v0 38) (Int32.toNatClampNeg v1)) = 0 then zw_g (zw_in v1 (zw_SH (R v0 38)).2) (if ¬ (I (R v0 38) (Int32.toNatClampNeg v1)) = 1 then zw_g (zw_in v1 (zw_SH (R v0 38)).2) (if ¬ (I (R v0 38) (Int32.toNatClampNeg v1)) = 2 then if v4 < v2 then j_X11_isTrue_139 v0 v1 s0 0 I R else j_X11_isTrue_139 v0 v1 s0 1 I R else if v4 ≤ v2 then j_X11_isTrue_139 v0 v1 s0 0 I R else j_X11_isTrue_139 v0 v1 s0 1 I R) else if v2 = v4 then j_X11_isTrue_139 v0 v1 s0 0 I R else j_X11_isTrue_139 v0 v1 s0 1 I R) else if ¬ v2 = v4 then j_X11_isTrue_139 v0 v1 s0 0 I R else j_X11_isTrue_139 v0 v1 s0 1 I R)))
theorem j_X11_isTrue_56_ok (X : zw_X) (P : Option Value → aS → Prop) (v0 : Nat) (v1 : Int32) (v2 : Int32) (v4 : Int32) (s0 : Int32) (I : zI) (R : zR) (J : zJ) (o : Int32 × zI) (hf : j_X11_isTrue_56 v0 v1 v2 v4 s0 I R = some o) (hk : P (some (.int o.1)) (o.2, R, J)) : zy_V X M_X11_isTrue 1 P 56 [.ref v0, .int v1, .int v2, .null, .int v4, .null] [.int s0] (I, R, J) := by
  unfold j_X11_isTrue_56 at hf
  refine zx_istore_n (pc := 56) (x2 := s0) (L2 := [.ref v0, .int v1, .int v2, .int s0, .int v4, .null]) d_X11_isTrue_56 (by decide) rfl rfl ?_
  refine zv_aload_n (pc := 57) d_X11_isTrue_57 rfl ?_
  obtain ⟨g13, hf⟩ := zw_gcE hf (by decide)
  obtain ⟨g14, hf⟩ := zw_gcE hf (by decide)
  refine zx_getR (pc := 58) d_X11_isTrue_58 lk_CutStonesModel_91 (by decide) g13 g14 ?_
  refine zv_iload_n (pc := 61) d_X11_isTrue_61 rfl ?_
  obtain ⟨i15, hf⟩ := zw_inE hf
  refine zx_iald (pc := 62) d_X11_isTrue_62 g14 i15 ?_
  rcases zw_ifE hf with ⟨c16, hf⟩ | ⟨c16, hf⟩
  · refine zv_if_ne (pc := 63) (tg := 80) d_X11_isTrue_63 (by decide) (fun _ => ?_) (fun q => absurd q c16)
    refine zv_aload_n (pc := 80) d_X11_isTrue_80 rfl ?_
    refine zx_getR (pc := 81) d_X11_isTrue_81 lk_CutStonesModel_91 (by decide) g13 g14 ?_
    refine zv_iload_n (pc := 84) d_X11_isTrue_84 rfl ?_
    obtain ⟨i17, hf⟩ := zw_inE hf
    refine zx_iald (pc := 85) d_X11_isTrue_85 g14 i17 ?_
    refine zv_iconst (pc := 86) d_X11_isTrue_86 zc_i_1 ?_
    rcases zw_ifE hf with ⟨c18, hf⟩ | ⟨c18, hf⟩
    · refine zv_icmp_ne (pc := 87) (tg := 104) d_X11_isTrue_87 (by decide) (fun _ => ?_) (fun q => absurd q c18)
      refine zv_aload_n (pc := 104) d_X11_isTrue_104 rfl ?_
      refine zx_getR (pc := 105) d_X11_isTrue_105 lk_CutStonesModel_91 (by decide) g13 g14 ?_
      refine zv_iload_n (pc := 108) d_X11_isTrue_108 rfl ?_
      obtain ⟨i19, hf⟩ := zw_inE hf
      refine zx_iald (pc := 109) d_X11_isTrue_109 g14 i19 ?_
      refine zv_iconst (pc := 110) d_X11_isTrue_110 zc_i_2 ?_
      rcases zw_ifE hf with ⟨c20, hf⟩ | ⟨c20, hf⟩
      · refine zv_icmp_ne (pc := 111) (tg := 128) d_X11_isTrue_111 (by decide) (fun _ => ?_) (fun q => absurd q c20)
        refine zv_iload_n (pc := 128) d_X11_isTrue_128 rfl ?_
        refine zv_iload (pc := 129) d_X11_isTrue_129 rfl ?_
        rcases zw_ifE hf with ⟨c21, hf⟩ | ⟨c21, hf⟩
        · refine zv_icmp_gt (pc := 131) (tg := 138) d_X11_isTrue_131 (by decide) (fun _ => ?_) (fun q => absurd c21 q)
          refine zv_iconst (pc := 138) d_X11_isTrue_138 zc_i_0 ?_
          exact zx_weak (zw_leS (zw_leS (zw_leN (zw_leS (zw_leN (zw_leN zw_leZ)))))) (j_X11_isTrue_139_ok X P v0 v1 s0 0 I R J _ hf hk)
        · refine zv_icmp_gt (pc := 131) (tg := 138) d_X11_isTrue_131 (by decide) (fun q => absurd q c21) (fun _ => ?_)
          refine zv_iconst (pc := 134) d_X11_isTrue_134 zc_i_1 ?_
          refine zv_goto (pc := 135) (tg := 139) d_X11_isTrue_135 (by decide) ?_
          exact zx_weak (zw_leS (zw_leS (zw_leN (zw_leS (zw_leN (zw_leN zw_leZ)))))) (j_X11_isTrue_139_ok X P v0 v1 s0 1 I R J _ hf hk)
      · refine zv_icmp_ne (pc := 111) (tg := 128) d_X11_isTrue_111 (by decide) (fun q => absurd q c20) (fun _ => ?_)
        refine zv_iload_n (pc := 114) d_X11_isTrue_114 rfl ?_
        refine zv_iload (pc := 115) d_X11_isTrue_115 rfl ?_
        rcases zw_ifE hf with ⟨c28, hf⟩ | ⟨c28, hf⟩
        · refine zv_icmp_ge (pc := 117) (tg := 124) d_X11_isTrue_117 (by decide) (fun _ => ?_) (fun q => absurd c28 q)
          refine zv_iconst (pc := 124) d_X11_isTrue_124 zc_i_0 ?_
          refine zv_goto (pc := 125) (tg := 139) d_X11_isTrue_125 (by decide) ?_
          exact zx_weak (zw_leS (zw_leS (zw_leN (zw_leS (zw_leN (zw_leN zw_leZ)))))) (j_X11_isTrue_139_ok X P v0 v1 s0 0 I R J _ hf hk)
        · refine zv_icmp_ge (pc := 117) (tg := 124) d_X11_isTrue_117 (by decide) (fun q => absurd q c28) (fun _ => ?_)
          refine zv_iconst (pc := 120) d_X11_isTrue_120 zc_i_1 ?_
          refine zv_goto (pc := 121) (tg := 139) d_X11_isTrue_121 (by decide) ?_
          exact zx_weak (zw_leS (zw_leS (zw_leN (zw_leS (zw_leN (zw_leN zw_leZ)))))) (j_X11_isTrue_139_ok X P v0 v1 s0 1 I R J _ hf hk)
    · refine zv_icmp_ne (pc := 87) (tg := 104) d_X11_isTrue_87 (by decide) (fun q => absurd q c18) (fun _ => ?_)
      refine zv_iload_n (pc := 90) d_X11_isTrue_90 rfl ?_
      refine zv_iload (pc := 91) d_X11_isTrue_91 rfl ?_
      rcases zw_ifE hf with ⟨c29, hf⟩ | ⟨c29, hf⟩
      · refine zv_icmp_eq (pc := 93) (tg := 100) d_X11_isTrue_93 (by decide) (fun _ => ?_) (fun q => absurd c29 q)
        refine zv_iconst (pc := 100) d_X11_isTrue_100 zc_i_0 ?_
        refine zv_goto (pc := 101) (tg := 139) d_X11_isTrue_101 (by decide) ?_
        exact zx_weak (zw_leS (zw_leS (zw_leN (zw_leS (zw_leN (zw_leN zw_leZ)))))) (j_X11_isTrue_139_ok X P v0 v1 s0 0 I R J _ hf hk)
      · refine zv_icmp_eq (pc := 93) (tg := 100) d_X11_isTrue_93 (by decide) (fun q => absurd q c29) (fun _ => ?_)
        refine zv_iconst (pc := 96) d_X11_isTrue_96 zc_i_1 ?_
        refine zv_goto (pc := 97) (tg := 139) d_X11_isTrue_97 (by decide) ?_
        exact zx_weak (zw_leS (zw_leS (zw_leN (zw_leS (zw_leN (zw_leN zw_leZ)))))) (j_X11_isTrue_139_ok X P v0 v1 s0 1 I R J _ hf hk)
  · refine zv_if_ne (pc := 63) (tg := 80) d_X11_isTrue_63 (by decide) (fun q => absurd q c16) (fun _ => ?_)
    refine zv_iload_n (pc := 66) d_X11_isTrue_66 rfl ?_
    refine zv_iload (pc := 67) d_X11_isTrue_67 rfl ?_
    rcases zw_ifE hf with ⟨c30, hf⟩ | ⟨c30, hf⟩
    · refine zv_icmp_ne (pc := 69) (tg := 76) d_X11_isTrue_69 (by decide) (fun _ => ?_) (fun q => absurd q c30)
      refine zv_iconst (pc := 76) d_X11_isTrue_76 zc_i_0 ?_
      refine zv_goto (pc := 77) (tg := 139) d_X11_isTrue_77 (by decide) ?_
      exact zx_weak (zw_leS (zw_leS (zw_leN (zw_leS (zw_leN (zw_leN zw_leZ)))))) (j_X11_isTrue_139_ok X P v0 v1 s0 0 I R J _ hf hk)
    · refine zv_icmp_ne (pc := 69) (tg := 76) d_X11_isTrue_69 (by decide) (fun q => absurd q c30) (fun _ => ?_)
      refine zv_iconst (pc := 72) d_X11_isTrue_72 zc_i_1 ?_
      refine zv_goto (pc := 73) (tg := 139) d_X11_isTrue_73 (by decide) ?_
      exact zx_weak (zw_leS (zw_leS (zw_leN (zw_leS (zw_leN (zw_leN zw_leZ)))))) (j_X11_isTrue_139_ok X P v0 v1 s0 1 I R J _ hf hk)
def j_X11_isTrue_51 (v0 : Nat) (v1 : Int32) (v2 : Int32) (v4 : Int32) (I : zI) (R : zR) : Option (Int32 × zI) :=
  j_X11_isTrue_56 v0 v1 v2 v4 1 I R
theorem j_X11_isTrue_51_ok (X : zw_X) (P : Option Value → aS → Prop) (v0 : Nat) (v1 : Int32) (v2 : Int32) (v4 : Int32) (I : zI) (R : zR) (J : zJ) (o : Int32 × zI) (hf : j_X11_isTrue_51 v0 v1 v2 v4 I R = some o) (hk : P (some (.int o.1)) (o.2, R, J)) : zy_V X M_X11_isTrue 1 P 51 [.ref v0, .int v1, .int v2, .null, .int v4, .null] [] (I, R, J) := by
  unfold j_X11_isTrue_51 at hf
  refine zv_iconst (pc := 51) d_X11_isTrue_51 zc_i_1 ?_
  refine zv_goto (pc := 52) (tg := 56) d_X11_isTrue_52 (by decide) ?_
  exact zx_weak (zw_leS (zw_leS (zw_leS (zw_leN (zw_leS (zw_leN zw_leZ)))))) (j_X11_isTrue_56_ok X P v0 v1 v2 v4 1 I R J _ hf hk)
def f_X11_isTrue (v0 : Nat) (v1 : Int32) (I : zI) (R : zR) : Option (Int32 × zI) :=
  zw_g (zw_gc v0 11) (zw_g (zw_gc (R v0 41) 13) (zw_g (zw_in v1 (zw_SH (R v0 41)).2) (zw_g (zw_gc (R v0 42) 13) (zw_g (zw_in v1 (zw_SH (R v0 42)).2) ((f_X11_termOf v0 (I (R v0 41) (Int32.toNatClampNeg v1)) (I (R v0 42) (Int32.toNatClampNeg v1)) I R).bind fun q6 => (zw_let ((q6.2 v0 51) : Int32) fun x7 => (zw_g (zw_in v1 (zw_SH (R v0 42)).2) (zw_g (zw_gc (R v0 43) 13) (zw_g (zw_in v1 (zw_SH (R v0 43)).2) ((f_X11_termOf v0 (q6.2 (R v0 42) (Int32.toNatClampNeg v1)) (q6.2 (R v0 43) (Int32.toNatClampNeg v1)) q6.2 R).bind fun q11 => (if ¬ x7 = 0 then j_X11_isTrue_51 v0 v1 q6.1 q11.1 q11.2 R else if (q11.2 v0 51) = 0 then j_X11_isTrue_56 v0 v1 q6.1 q11.1 0 q11.2 R else j_X11_isTrue_51 v0 v1 q6.1 q11.1 q11.2 R)))))))))))
theorem c_X11_isTrue (X : zw_X) (v0 : Nat) (v1 : Int32) (I : zI) (R : zR) (J : zJ) {P : Option Value → aS → Prop} (o : Int32 × zI) (hf : f_X11_isTrue v0 v1 I R = some o) (hk : P (some (.int o.1)) (o.2, R, J)) : zw_C X M_X11_isTrue 1 0 0 199 [.ref v0, .int v1] (I, R, J) P := by
  show zy_V X M_X11_isTrue 1 P 0 [.ref v0, .int v1, .null, .null, .null, .null] [] (I, R, J)
  unfold f_X11_isTrue at hf
  refine zv_aload_n (pc := 0) d_X11_isTrue_0 rfl ?_
  refine zv_aload_n (pc := 1) d_X11_isTrue_1 rfl ?_
  obtain ⟨g1, hf⟩ := zw_gcE hf (by decide)
  obtain ⟨g2, hf⟩ := zw_gcE hf (by decide)
  refine zx_getR (pc := 2) d_X11_isTrue_2 lk_CutStonesModel_101 (by decide) g1 g2 ?_
  refine zv_iload_n (pc := 5) d_X11_isTrue_5 rfl ?_
  obtain ⟨i3, hf⟩ := zw_inE hf
  refine zx_iald (pc := 6) d_X11_isTrue_6 g2 i3 ?_
  refine zv_aload_n (pc := 7) d_X11_isTrue_7 rfl ?_
  obtain ⟨g4, hf⟩ := zw_gcE hf (by decide)
  refine zx_getR (pc := 8) d_X11_isTrue_8 lk_CutStonesModel_104 (by decide) g1 g4 ?_
  refine zv_iload_n (pc := 11) d_X11_isTrue_11 rfl ?_
  obtain ⟨i5, hf⟩ := zw_inE hf
  refine zx_iald (pc := 12) d_X11_isTrue_12 g4 i5 ?_
  obtain ⟨q6, hq6, hf⟩ := zw_bdE hf
  refine zx_callV (pc := 13) (As := [.int (I (R v0 41) (Int32.toNatClampNeg v1)), .int (I (R v0 42) (Int32.toNatClampNeg v1))]) (o := v0) (st := []) (d2 := 0) (M2 := M_X11_termOf) (P2 := (fun r S => r = (some (.int q6.1)) ∧ S = (q6.2, R, J))) d_X11_isTrue_13 (zw_mG (List.mem_of_getElem? (i := 1632) (by decide +kernel)) rfl) ce_X11_termOf (zw_RvK g1 rfl rfl) (Nat.le_of_ble_eq_true rfl) rfl (Nat.le_of_ble_eq_true rfl) (by decide) (c_X11_termOf X v0 (I (R v0 41) (Int32.toNatClampNeg v1)) (I (R v0 42) (Int32.toNatClampNeg v1)) I R J _ hq6 ⟨rfl, rfl⟩) ?_
  rintro _ _ ⟨rfl, rfl⟩
  show zy_V X M_X11_isTrue 1 P (13 + 3) [.ref v0, .int v1, .null, .null, .null, .null] [.int q6.1] (q6.2, R, J)
  refine zx_istore_n (pc := 16) (x2 := q6.1) (L2 := [.ref v0, .int v1, .int q6.1, .null, .null, .null]) d_X11_isTrue_16 (by decide) rfl rfl ?_
  refine zv_aload_n (pc := 17) d_X11_isTrue_17 rfl ?_
  refine zx_getI (pc := 18) d_X11_isTrue_18 lk_CutStonesModel_318 (by decide) g1 ?_
  obtain ⟨x7, ex7, hf⟩ := zw_letE hf
  refine zx_istore_n (pc := 21) (x2 := x7) (L2 := [.ref v0, .int v1, .int q6.1, .int x7, .null, .null]) d_X11_isTrue_21 (by decide) ex7 rfl ?_
  refine zv_aload_n (pc := 22) d_X11_isTrue_22 rfl ?_
  refine zv_aload_n (pc := 23) d_X11_isTrue_23 rfl ?_
  refine zx_getR (pc := 24) d_X11_isTrue_24 lk_CutStonesModel_104 (by decide) g1 g4 ?_
  refine zv_iload_n (pc := 27) d_X11_isTrue_27 rfl ?_
  obtain ⟨i8, hf⟩ := zw_inE hf
  refine zx_iald (pc := 28) d_X11_isTrue_28 g4 i8 ?_
  refine zv_aload_n (pc := 29) d_X11_isTrue_29 rfl ?_
  obtain ⟨g9, hf⟩ := zw_gcE hf (by decide)
  refine zx_getR (pc := 30) d_X11_isTrue_30 lk_CutStonesModel_107 (by decide) g1 g9 ?_
  refine zv_iload_n (pc := 33) d_X11_isTrue_33 rfl ?_
  obtain ⟨i10, hf⟩ := zw_inE hf
  refine zx_iald (pc := 34) d_X11_isTrue_34 g9 i10 ?_
  obtain ⟨q11, hq11, hf⟩ := zw_bdE hf
  refine zx_callV (pc := 35) (As := [.int (q6.2 (R v0 42) (Int32.toNatClampNeg v1)), .int (q6.2 (R v0 43) (Int32.toNatClampNeg v1))]) (o := v0) (st := []) (d2 := 0) (M2 := M_X11_termOf) (P2 := (fun r S => r = (some (.int q11.1)) ∧ S = (q11.2, R, J))) d_X11_isTrue_35 (zw_mG (List.mem_of_getElem? (i := 1632) (by decide +kernel)) rfl) ce_X11_termOf (zw_RvK g1 rfl rfl) (Nat.le_of_ble_eq_true rfl) rfl (Nat.le_of_ble_eq_true rfl) (by decide) (c_X11_termOf X v0 (q6.2 (R v0 42) (Int32.toNatClampNeg v1)) (q6.2 (R v0 43) (Int32.toNatClampNeg v1)) q6.2 R J _ hq11 ⟨rfl, rfl⟩) ?_
  rintro _ _ ⟨rfl, rfl⟩
  show zy_V X M_X11_isTrue 1 P (35 + 3) [.ref v0, .int v1, .int q6.1, .int x7, .null, .null] [.int q11.1] (q11.2, R, J)
  refine zx_istore (pc := 38) (x2 := q11.1) (L2 := [.ref v0, .int v1, .int q6.1, .int x7, .int q11.1, .null]) d_X11_isTrue_38 (by decide) rfl rfl ?_
  refine zv_iload_n (pc := 40) d_X11_isTrue_40 rfl ?_
  rcases zw_ifE hf with ⟨c12, hf⟩ | ⟨c12, hf⟩
  · refine zv_if_ne (pc := 41) (tg := 51) d_X11_isTrue_41 (by decide) (fun _ => ?_) (fun q => absurd q c12)
    exact zx_weak (zw_leS (zw_leS (zw_leS (zw_leN (zw_leS (zw_leN zw_leZ)))))) (j_X11_isTrue_51_ok X P v0 v1 q6.1 q11.1 q11.2 R J _ hf hk)
  · refine zv_if_ne (pc := 41) (tg := 51) d_X11_isTrue_41 (by decide) (fun q => absurd q c12) (fun _ => ?_)
    refine zv_aload_n (pc := 44) d_X11_isTrue_44 rfl ?_
    refine zx_getI (pc := 45) d_X11_isTrue_45 lk_CutStonesModel_318 (by decide) g1 ?_
    rcases zw_ifE hf with ⟨c31, hf⟩ | ⟨c31, hf⟩
    · refine zv_if_eq (pc := 48) (tg := 55) d_X11_isTrue_48 (by decide) (fun _ => ?_) (fun q => absurd c31 q)
      refine zv_iconst (pc := 55) d_X11_isTrue_55 zc_i_0 ?_
      exact zx_weak (zw_leS (zw_leS (zw_leS (zw_leN (zw_leS (zw_leN zw_leZ)))))) (j_X11_isTrue_56_ok X P v0 v1 q6.1 q11.1 0 q11.2 R J _ hf hk)
    · refine zv_if_eq (pc := 48) (tg := 55) d_X11_isTrue_48 (by decide) (fun q => absurd q c31) (fun _ => ?_)
      exact zx_weak (zw_leS (zw_leS (zw_leS (zw_leN (zw_leS (zw_leN zw_leZ)))))) (j_X11_isTrue_51_ok X P v0 v1 q6.1 q11.1 q11.2 R J _ hf hk)
