abbrev M_X10_measure : zw_M := (⟨"CutStones", "measure", "(I)I"⟩, prog_1_method_29_code, 5, (Option.some Jvm.ClassFile.FieldType.int))
theorem d_X10_measure_0 : decode M_X10_measure.2.1 0 = .ok (.iload_n 1, 1) := by decide +kernel
theorem d_X10_measure_1 : decode M_X10_measure.2.1 1 = .ok (.bipush 10, 2) := by decide +kernel
theorem d_X10_measure_3 : decode M_X10_measure.2.1 3 = .ok (.if_icmp .lt 9, 3) := by decide +kernel
theorem d_X10_measure_6 : decode M_X10_measure.2.1 6 = .ok (.iload_n 1, 1) := by decide +kernel
theorem d_X10_measure_7 : decode M_X10_measure.2.1 7 = .ok (.bipush 50, 2) := by decide +kernel
theorem d_X10_measure_9 : decode M_X10_measure.2.1 9 = .ok (.if_icmp .lt 5, 3) := by decide +kernel
theorem d_X10_measure_12 : decode M_X10_measure.2.1 12 = .ok (.iconst (-1), 1) := by decide +kernel
theorem d_X10_measure_13 : decode M_X10_measure.2.1 13 = .ok (.ireturn, 1) := by decide +kernel
theorem d_X10_measure_14 : decode M_X10_measure.2.1 14 = .ok (.iload_n 1, 1) := by decide +kernel
theorem d_X10_measure_15 : decode M_X10_measure.2.1 15 = .ok (.bipush 30, 2) := by decide +kernel
theorem d_X10_measure_17 : decode M_X10_measure.2.1 17 = .ok (.if_icmp .lt 7, 3) := by decide +kernel
theorem d_X10_measure_20 : decode M_X10_measure.2.1 20 = .ok (.iconst 1, 1) := by decide +kernel
theorem d_X10_measure_21 : decode M_X10_measure.2.1 21 = .ok (.goto 4, 3) := by decide +kernel
theorem d_X10_measure_24 : decode M_X10_measure.2.1 24 = .ok (.iconst 0, 1) := by decide +kernel
theorem d_X10_measure_25 : decode M_X10_measure.2.1 25 = .ok (.istore_n 2, 1) := by decide +kernel
theorem d_X10_measure_26 : decode M_X10_measure.2.1 26 = .ok (.iload_n 1, 1) := by decide +kernel
theorem d_X10_measure_27 : decode M_X10_measure.2.1 27 = .ok (.bipush 10, 2) := by decide +kernel
theorem d_X10_measure_29 : decode M_X10_measure.2.1 29 = .ok (.irem, 1) := by decide +kernel
theorem d_X10_measure_30 : decode M_X10_measure.2.1 30 = .ok (.istore_n 3, 1) := by decide +kernel
theorem d_X10_measure_31 : decode M_X10_measure.2.1 31 = .ok (.aload_n 0, 1) := by decide +kernel
theorem d_X10_measure_32 : decode M_X10_measure.2.1 32 = .ok (.iload_n 2, 1) := by decide +kernel
theorem d_X10_measure_33 : decode M_X10_measure.2.1 33 = .ok (.iload_n 3, 1) := by decide +kernel
theorem d_X10_measure_34 : decode M_X10_measure.2.1 34 = .ok (.invokevirtual 116, 3) := by decide +kernel
theorem d_X10_measure_37 : decode M_X10_measure.2.1 37 = .ok (.ifCond .ne 5, 3) := by decide +kernel
theorem d_X10_measure_40 : decode M_X10_measure.2.1 40 = .ok (.iconst (-1), 1) := by decide +kernel
theorem d_X10_measure_41 : decode M_X10_measure.2.1 41 = .ok (.ireturn, 1) := by decide +kernel
theorem d_X10_measure_42 : decode M_X10_measure.2.1 42 = .ok (.iload_n 1, 1) := by decide +kernel
theorem d_X10_measure_43 : decode M_X10_measure.2.1 43 = .ok (.bipush 10, 2) := by decide +kernel
theorem d_X10_measure_45 : decode M_X10_measure.2.1 45 = .ok (.idiv, 1) := by decide +kernel
theorem d_X10_measure_46 : decode M_X10_measure.2.1 46 = .ok (.iconst 2, 1) := by decide +kernel
theorem d_X10_measure_47 : decode M_X10_measure.2.1 47 = .ok (.irem, 1) := by decide +kernel
theorem d_X10_measure_48 : decode M_X10_measure.2.1 48 = .ok (.iconst 1, 1) := by decide +kernel
theorem d_X10_measure_49 : decode M_X10_measure.2.1 49 = .ok (.if_icmp .ne 7, 3) := by decide +kernel
theorem d_X10_measure_52 : decode M_X10_measure.2.1 52 = .ok (.iconst 1, 1) := by decide +kernel
theorem d_X10_measure_53 : decode M_X10_measure.2.1 53 = .ok (.goto 4, 3) := by decide +kernel
theorem d_X10_measure_56 : decode M_X10_measure.2.1 56 = .ok (.iconst 0, 1) := by decide +kernel
theorem d_X10_measure_57 : decode M_X10_measure.2.1 57 = .ok (.istore 4, 2) := by decide +kernel
theorem d_X10_measure_59 : decode M_X10_measure.2.1 59 = .ok (.iload 4, 2) := by decide +kernel
theorem d_X10_measure_61 : decode M_X10_measure.2.1 61 = .ok (.ifCond .eq 15, 3) := by decide +kernel
theorem d_X10_measure_64 : decode M_X10_measure.2.1 64 = .ok (.aload_n 0, 1) := by decide +kernel
theorem d_X10_measure_65 : decode M_X10_measure.2.1 65 = .ok (.iload_n 2, 1) := by decide +kernel
theorem d_X10_measure_66 : decode M_X10_measure.2.1 66 = .ok (.iload_n 3, 1) := by decide +kernel
theorem d_X10_measure_67 : decode M_X10_measure.2.1 67 = .ok (.invokevirtual 120, 3) := by decide +kernel
theorem d_X10_measure_70 : decode M_X10_measure.2.1 70 = .ok (.getfield 224, 3) := by decide +kernel
theorem d_X10_measure_73 : decode M_X10_measure.2.1 73 = .ok (.goto 12, 3) := by decide +kernel
theorem d_X10_measure_76 : decode M_X10_measure.2.1 76 = .ok (.aload_n 0, 1) := by decide +kernel
theorem d_X10_measure_77 : decode M_X10_measure.2.1 77 = .ok (.iload_n 2, 1) := by decide +kernel
theorem d_X10_measure_78 : decode M_X10_measure.2.1 78 = .ok (.iload_n 3, 1) := by decide +kernel
theorem d_X10_measure_79 : decode M_X10_measure.2.1 79 = .ok (.invokevirtual 120, 3) := by decide +kernel
theorem d_X10_measure_82 : decode M_X10_measure.2.1 82 = .ok (.getfield 285, 3) := by decide +kernel
theorem d_X10_measure_85 : decode M_X10_measure.2.1 85 = .ok (.ireturn, 1) := by decide +kernel
theorem ce_X10_measure : zw_CeV M_X10_measure 1 := ⟨⟨⟨by decide +kernel, by decide +kernel, by decide +kernel⟩, (zw_mG (List.mem_of_getElem? (i := 1146) (by decide +kernel)) rfl), (zw_mG (List.mem_of_getElem? (i := 96) (by decide +kernel)) rfl), by decide, by decide +kernel⟩, (zw_mG (List.mem_of_getElem? (i := 1145) (by decide +kernel)) rfl), (zw_mG (List.mem_of_getElem? (i := 48) (by decide +kernel)) rfl)⟩
def j_X10_measure_57 (v0 : Nat) (v2 : Int32) (v3 : Int32) (s0 : Int32) (I : zI) (R : zR) : Option (Int32) :=
  if s0 = 0 then zw_g (zw_gc v0 10) ((f_X10_drawing v0 v2 v3 R).bind fun q11 => (zw_g (zw_gc q11 0) (some (I q11 2)))) else zw_g (zw_gc v0 10) ((f_X10_drawing v0 v2 v3 R).bind fun q14 => (zw_g (zw_gc q14 0) (some (I q14 1))))
theorem j_X10_measure_57_ok (X : zw_X) (P : Option Value → aS → Prop) (v0 : Nat) (v2 : Int32) (v3 : Int32) (s0 : Int32) (I : zI) (R : zR) (J : zJ) (o : Int32) (hf : j_X10_measure_57 v0 v2 v3 s0 I R = some o) (hk : P (some (.int o)) (I, R, J)) : zy_V X M_X10_measure 2 P 57 [.ref v0, .null, .int v2, .int v3, .null] [.int s0] (I, R, J) := by
  unfold j_X10_measure_57 at hf
  refine zx_istore (pc := 57) (x2 := s0) (L2 := [.ref v0, .null, .int v2, .int v3, .int s0]) d_X10_measure_57 (by decide) rfl rfl ?_
  refine zv_iload (pc := 59) d_X10_measure_59 rfl ?_
  rcases zw_ifE hf with ⟨c9, hf⟩ | ⟨c9, hf⟩
  · refine zv_if_eq (pc := 61) (tg := 76) d_X10_measure_61 (by decide) (fun _ => ?_) (fun q => absurd c9 q)
    refine zv_aload_n (pc := 76) d_X10_measure_76 rfl ?_
    refine zv_iload_n (pc := 77) d_X10_measure_77 rfl ?_
    refine zv_iload_n (pc := 78) d_X10_measure_78 rfl ?_
    obtain ⟨g10, hf⟩ := zw_gcE hf (by decide)
    obtain ⟨q11, hq11, hf⟩ := zw_bdE hf
    refine zx_callV (pc := 79) (As := [.int v2, .int v3]) (o := v0) (st := []) (d2 := 0) (M2 := M_X10_drawing) (P2 := (fun r S => r = (some (.ref q11)) ∧ S = (I, R, J))) d_X10_measure_79 (zw_mG (List.mem_of_getElem? (i := 853) (by decide +kernel)) rfl) ce_X10_drawing (zw_RvK g10 rfl rfl) (Nat.le_of_ble_eq_true rfl) rfl (Nat.le_of_ble_eq_true rfl) (by decide) (c_X10_drawing X v0 v2 v3 I R J _ hq11 ⟨rfl, rfl⟩) ?_
    rintro _ _ ⟨rfl, rfl⟩
    show zy_V X M_X10_measure 2 P (79 + 3) [.ref v0, .null, .int v2, .int v3, .int s0] [.ref q11] (I, R, J)
    obtain ⟨g12, hf⟩ := zw_gcE hf (by decide)
    refine zx_getI (pc := 82) d_X10_measure_82 lk_CutStones_285 (by decide) g12 ?_
    cases hf
    exact zx_iret (pc := 85) d_X10_measure_85 rfl hk
  · refine zv_if_eq (pc := 61) (tg := 76) d_X10_measure_61 (by decide) (fun q => absurd q c9) (fun _ => ?_)
    refine zv_aload_n (pc := 64) d_X10_measure_64 rfl ?_
    refine zv_iload_n (pc := 65) d_X10_measure_65 rfl ?_
    refine zv_iload_n (pc := 66) d_X10_measure_66 rfl ?_
    obtain ⟨g13, hf⟩ := zw_gcE hf (by decide)
    obtain ⟨q14, hq14, hf⟩ := zw_bdE hf
    refine zx_callV (pc := 67) (As := [.int v2, .int v3]) (o := v0) (st := []) (d2 := 0) (M2 := M_X10_drawing) (P2 := (fun r S => r = (some (.ref q14)) ∧ S = (I, R, J))) d_X10_measure_67 (zw_mG (List.mem_of_getElem? (i := 853) (by decide +kernel)) rfl) ce_X10_drawing (zw_RvK g13 rfl rfl) (Nat.le_of_ble_eq_true rfl) rfl (Nat.le_of_ble_eq_true rfl) (by decide) (c_X10_drawing X v0 v2 v3 I R J _ hq14 ⟨rfl, rfl⟩) ?_
    rintro _ _ ⟨rfl, rfl⟩
    show zy_V X M_X10_measure 2 P (67 + 3) [.ref v0, .null, .int v2, .int v3, .int s0] [.ref q14] (I, R, J)
    obtain ⟨g15, hf⟩ := zw_gcE hf (by decide)
    refine zx_getI (pc := 70) d_X10_measure_70 lk_CutStones_224 (by decide) g15 ?_
    refine zv_goto (pc := 73) (tg := 85) d_X10_measure_73 (by decide) ?_
    cases hf
    exact zx_iret (pc := 85) d_X10_measure_85 rfl hk
def j_X10_measure_25 (v0 : Nat) (v1 : Int32) (s0 : Int32) (I : zI) (R : zR) : Option (Int32) :=
  zw_let ((v1 - v1 / 10 * 10) : Int32) fun x4 => (zw_g (zw_gc v0 10) ((f_X10_isDrawing v0 s0 x4 I R).bind fun q6 => (if ¬ q6 = 0 then if ¬ ((v1 / 10) - (v1 / 10) / 2 * 2) = 1 then j_X10_measure_57 v0 s0 x4 0 I R else j_X10_measure_57 v0 s0 x4 1 I R else some (-1))))
theorem j_X10_measure_25_ok (X : zw_X) (P : Option Value → aS → Prop) (v0 : Nat) (v1 : Int32) (s0 : Int32) (I : zI) (R : zR) (J : zJ) (o : Int32) (hf : j_X10_measure_25 v0 v1 s0 I R = some o) (hk : P (some (.int o)) (I, R, J)) : zy_V X M_X10_measure 2 P 25 [.ref v0, .int v1, .null, .null, .null] [.int s0] (I, R, J) := by
  unfold j_X10_measure_25 at hf
  refine zx_istore_n (pc := 25) (x2 := s0) (L2 := [.ref v0, .int v1, .int s0, .null, .null]) d_X10_measure_25 (by decide) rfl rfl ?_
  refine zv_iload_n (pc := 26) d_X10_measure_26 rfl ?_
  refine zv_bipush (pc := 27) d_X10_measure_27 zc_b_10 ?_
  refine zv_irem (pc := 29) d_X10_measure_29 (by decide +kernel) ?_
  obtain ⟨x4, ex4, hf⟩ := zw_letE hf
  refine zx_istore_n (pc := 30) (x2 := x4) (L2 := [.ref v0, .int v1, .int s0, .int x4, .null]) d_X10_measure_30 (by decide) ex4 rfl ?_
  refine zv_aload_n (pc := 31) d_X10_measure_31 rfl ?_
  refine zv_iload_n (pc := 32) d_X10_measure_32 rfl ?_
  refine zv_iload_n (pc := 33) d_X10_measure_33 rfl ?_
  obtain ⟨g5, hf⟩ := zw_gcE hf (by decide)
  obtain ⟨q6, hq6, hf⟩ := zw_bdE hf
  refine zx_callV (pc := 34) (As := [.int s0, .int x4]) (o := v0) (st := []) (d2 := 1) (M2 := M_X10_isDrawing) (P2 := (fun r S => r = (some (.int q6)) ∧ S = (I, R, J))) d_X10_measure_34 (zw_mG (List.mem_of_getElem? (i := 841) (by decide +kernel)) rfl) ce_X10_isDrawing (zw_RvK g5 rfl rfl) (Nat.le_of_ble_eq_true rfl) rfl (Nat.le_of_ble_eq_true rfl) (by decide) (c_X10_isDrawing X v0 s0 x4 I R J _ hq6 ⟨rfl, rfl⟩) ?_
  rintro _ _ ⟨rfl, rfl⟩
  show zy_V X M_X10_measure 2 P (34 + 3) [.ref v0, .int v1, .int s0, .int x4, .null] [.int q6] (I, R, J)
  rcases zw_ifE hf with ⟨c7, hf⟩ | ⟨c7, hf⟩
  · refine zv_if_ne (pc := 37) (tg := 42) d_X10_measure_37 (by decide) (fun _ => ?_) (fun q => absurd q c7)
    refine zv_iload_n (pc := 42) d_X10_measure_42 rfl ?_
    refine zv_bipush (pc := 43) d_X10_measure_43 zc_b_10 ?_
    refine zv_idiv (pc := 45) d_X10_measure_45 (by decide +kernel) ?_
    refine zv_iconst (pc := 46) d_X10_measure_46 zc_i_2 ?_
    refine zv_irem (pc := 47) d_X10_measure_47 (by decide +kernel) ?_
    refine zv_iconst (pc := 48) d_X10_measure_48 zc_i_1 ?_
    rcases zw_ifE hf with ⟨c8, hf⟩ | ⟨c8, hf⟩
    · refine zv_icmp_ne (pc := 49) (tg := 56) d_X10_measure_49 (by decide) (fun _ => ?_) (fun q => absurd q c8)
      refine zv_iconst (pc := 56) d_X10_measure_56 zc_i_0 ?_
      exact zx_weak (zw_leS (zw_leN (zw_leS (zw_leS (zw_leN zw_leZ))))) (j_X10_measure_57_ok X P v0 s0 x4 0 I R J _ hf hk)
    · refine zv_icmp_ne (pc := 49) (tg := 56) d_X10_measure_49 (by decide) (fun q => absurd q c8) (fun _ => ?_)
      refine zv_iconst (pc := 52) d_X10_measure_52 zc_i_1 ?_
      refine zv_goto (pc := 53) (tg := 57) d_X10_measure_53 (by decide) ?_
      exact zx_weak (zw_leS (zw_leN (zw_leS (zw_leS (zw_leN zw_leZ))))) (j_X10_measure_57_ok X P v0 s0 x4 1 I R J _ hf hk)
  · refine zv_if_ne (pc := 37) (tg := 42) d_X10_measure_37 (by decide) (fun q => absurd q c7) (fun _ => ?_)
    refine zv_iconst (pc := 40) d_X10_measure_40 zc_i_m1 ?_
    cases hf
    exact zx_iret (pc := 41) d_X10_measure_41 rfl hk
def f_X10_measure (v0 : Nat) (v1 : Int32) (I : zI) (R : zR) : Option (Int32) :=
  if v1 < 10 then some (-1) else if v1 < 50 then if v1 < 30 then j_X10_measure_25 v0 v1 0 I R else j_X10_measure_25 v0 v1 1 I R else some (-1)
theorem c_X10_measure (X : zw_X) (v0 : Nat) (v1 : Int32) (I : zI) (R : zR) (J : zJ) {P : Option Value → aS → Prop} (o : Int32) (hf : f_X10_measure v0 v1 I R = some o) (hk : P (some (.int o)) (I, R, J)) : zw_C X M_X10_measure 2 0 0 199 [.ref v0, .int v1] (I, R, J) P := by
  show zy_V X M_X10_measure 2 P 0 [.ref v0, .int v1, .null, .null, .null] [] (I, R, J)
  unfold f_X10_measure at hf
  refine zv_iload_n (pc := 0) d_X10_measure_0 rfl ?_
  refine zv_bipush (pc := 1) d_X10_measure_1 zc_b_10 ?_
  rcases zw_ifE hf with ⟨c1, hf⟩ | ⟨c1, hf⟩
  · refine zv_icmp_lt (pc := 3) (tg := 12) d_X10_measure_3 (by decide) (fun _ => ?_) (fun q => absurd c1 q)
    refine zv_iconst (pc := 12) d_X10_measure_12 zc_i_m1 ?_
    cases hf
    exact zx_iret (pc := 13) d_X10_measure_13 rfl hk
  · refine zv_icmp_lt (pc := 3) (tg := 12) d_X10_measure_3 (by decide) (fun q => absurd q c1) (fun _ => ?_)
    refine zv_iload_n (pc := 6) d_X10_measure_6 rfl ?_
    refine zv_bipush (pc := 7) d_X10_measure_7 zc_b_50 ?_
    rcases zw_ifE hf with ⟨c2, hf⟩ | ⟨c2, hf⟩
    · refine zv_icmp_lt (pc := 9) (tg := 14) d_X10_measure_9 (by decide) (fun _ => ?_) (fun q => absurd c2 q)
      refine zv_iload_n (pc := 14) d_X10_measure_14 rfl ?_
      refine zv_bipush (pc := 15) d_X10_measure_15 zc_b_30 ?_
      rcases zw_ifE hf with ⟨c3, hf⟩ | ⟨c3, hf⟩
      · refine zv_icmp_lt (pc := 17) (tg := 24) d_X10_measure_17 (by decide) (fun _ => ?_) (fun q => absurd c3 q)
        refine zv_iconst (pc := 24) d_X10_measure_24 zc_i_0 ?_
        exact zx_weak (zw_leS (zw_leS (zw_leN (zw_leN (zw_leN zw_leZ))))) (j_X10_measure_25_ok X P v0 v1 0 I R J _ hf hk)
      · refine zv_icmp_lt (pc := 17) (tg := 24) d_X10_measure_17 (by decide) (fun q => absurd q c3) (fun _ => ?_)
        refine zv_iconst (pc := 20) d_X10_measure_20 zc_i_1 ?_
        refine zv_goto (pc := 21) (tg := 25) d_X10_measure_21 (by decide) ?_
        exact zx_weak (zw_leS (zw_leS (zw_leN (zw_leN (zw_leN zw_leZ))))) (j_X10_measure_25_ok X P v0 v1 1 I R J _ hf hk)
    · refine zv_icmp_lt (pc := 9) (tg := 14) d_X10_measure_9 (by decide) (fun q => absurd q c2) (fun _ => ?_)
      refine zv_iconst (pc := 12) d_X10_measure_12 zc_i_m1 ?_
      cases hf
      exact zx_iret (pc := 13) d_X10_measure_13 rfl hk
abbrev M_X10_places : zw_M := (⟨"CutStones", "places", "(II)I"⟩, prog_1_method_18_code, 6, (Option.some Jvm.ClassFile.FieldType.int))
theorem d_X10_places_0 : decode M_X10_places.2.1 0 = .ok (.aload_n 0, 1) := by decide +kernel
theorem d_X10_places_1 : decode M_X10_places.2.1 1 = .ok (.iload_n 1, 1) := by decide +kernel
theorem d_X10_places_2 : decode M_X10_places.2.1 2 = .ok (.invokevirtual 137, 3) := by decide +kernel
theorem d_X10_places_5 : decode M_X10_places.2.1 5 = .ok (.ifCond .eq 11, 3) := by decide +kernel
theorem d_X10_places_8 : decode M_X10_places.2.1 8 = .ok (.aload_n 0, 1) := by decide +kernel
theorem d_X10_places_9 : decode M_X10_places.2.1 9 = .ok (.iload_n 2, 1) := by decide +kernel
theorem d_X10_places_10 : decode M_X10_places.2.1 10 = .ok (.invokevirtual 208, 3) := by decide +kernel
theorem d_X10_places_13 : decode M_X10_places.2.1 13 = .ok (.ifCond .ne 5, 3) := by decide +kernel
theorem d_X10_places_16 : decode M_X10_places.2.1 16 = .ok (.iconst (-1), 1) := by decide +kernel
theorem d_X10_places_17 : decode M_X10_places.2.1 17 = .ok (.ireturn, 1) := by decide +kernel
theorem d_X10_places_18 : decode M_X10_places.2.1 18 = .ok (.iconst 0, 1) := by decide +kernel
theorem d_X10_places_19 : decode M_X10_places.2.1 19 = .ok (.istore_n 3, 1) := by decide +kernel
theorem d_X10_places_20 : decode M_X10_places.2.1 20 = .ok (.iconst 0, 1) := by decide +kernel
theorem d_X10_places_21 : decode M_X10_places.2.1 21 = .ok (.istore 4, 2) := by decide +kernel
theorem d_X10_places_23 : decode M_X10_places.2.1 23 = .ok (.iload 4, 2) := by decide +kernel
theorem d_X10_places_25 : decode M_X10_places.2.1 25 = .ok (.bipush 12, 2) := by decide +kernel
theorem d_X10_places_27 : decode M_X10_places.2.1 27 = .ok (.if_icmp .ge 56, 3) := by decide +kernel
theorem d_X10_places_30 : decode M_X10_places.2.1 30 = .ok (.iconst 0, 1) := by decide +kernel
theorem d_X10_places_31 : decode M_X10_places.2.1 31 = .ok (.istore 5, 2) := by decide +kernel
theorem d_X10_places_33 : decode M_X10_places.2.1 33 = .ok (.iload 5, 2) := by decide +kernel
theorem d_X10_places_35 : decode M_X10_places.2.1 35 = .ok (.bipush 12, 2) := by decide +kernel
theorem d_X10_places_37 : decode M_X10_places.2.1 37 = .ok (.if_icmp .ge 40, 3) := by decide +kernel
theorem d_X10_places_40 : decode M_X10_places.2.1 40 = .ok (.aload_n 0, 1) := by decide +kernel
theorem d_X10_places_41 : decode M_X10_places.2.1 41 = .ok (.getfield 26, 3) := by decide +kernel
theorem d_X10_places_44 : decode M_X10_places.2.1 44 = .ok (.getfield 141, 3) := by decide +kernel
theorem d_X10_places_47 : decode M_X10_places.2.1 47 = .ok (.iload_n 1, 1) := by decide +kernel
theorem d_X10_places_48 : decode M_X10_places.2.1 48 = .ok (.aaload, 1) := by decide +kernel
theorem d_X10_places_49 : decode M_X10_places.2.1 49 = .ok (.aload_n 0, 1) := by decide +kernel
theorem d_X10_places_50 : decode M_X10_places.2.1 50 = .ok (.getfield 26, 3) := by decide +kernel
theorem d_X10_places_53 : decode M_X10_places.2.1 53 = .ok (.getfield 211, 3) := by decide +kernel
theorem d_X10_places_56 : decode M_X10_places.2.1 56 = .ok (.iload_n 2, 1) := by decide +kernel
theorem d_X10_places_57 : decode M_X10_places.2.1 57 = .ok (.aaload, 1) := by decide +kernel
theorem d_X10_places_58 : decode M_X10_places.2.1 58 = .ok (.iload 5, 2) := by decide +kernel
theorem d_X10_places_60 : decode M_X10_places.2.1 60 = .ok (.iload 4, 2) := by decide +kernel
theorem d_X10_places_62 : decode M_X10_places.2.1 62 = .ok (.invokevirtual 214, 3) := by decide +kernel
theorem d_X10_places_65 : decode M_X10_places.2.1 65 = .ok (.ifCond .eq 6, 3) := by decide +kernel
theorem d_X10_places_68 : decode M_X10_places.2.1 68 = .ok (.iinc 3 1, 3) := by decide +kernel
theorem d_X10_places_71 : decode M_X10_places.2.1 71 = .ok (.iinc 5 1, 3) := by decide +kernel
theorem d_X10_places_74 : decode M_X10_places.2.1 74 = .ok (.goto (-41), 3) := by decide +kernel
theorem d_X10_places_77 : decode M_X10_places.2.1 77 = .ok (.iinc 4 1, 3) := by decide +kernel
theorem d_X10_places_80 : decode M_X10_places.2.1 80 = .ok (.goto (-57), 3) := by decide +kernel
theorem d_X10_places_83 : decode M_X10_places.2.1 83 = .ok (.iload_n 3, 1) := by decide +kernel
theorem d_X10_places_84 : decode M_X10_places.2.1 84 = .ok (.ireturn, 1) := by decide +kernel
theorem ce_X10_places : zw_CeV M_X10_places 2 := ⟨⟨⟨by decide +kernel, by decide +kernel, by decide +kernel⟩, (zw_mG (List.mem_of_getElem? (i := 1041) (by decide +kernel)) rfl), (zw_mG (List.mem_of_getElem? (i := 96) (by decide +kernel)) rfl), by decide, by decide +kernel⟩, (zw_mG (List.mem_of_getElem? (i := 1039) (by decide +kernel)) rfl), (zw_mG (List.mem_of_getElem? (i := 1040) (by decide +kernel)) rfl)⟩
def j_X10_places_71_33 (v0 : Nat) (v1 : Int32) (v2 : Int32) (v3 : Int32) (v4 : Int32) (v5 : Int32) (I : zI) (R : zR) : Option ((Int32 × Int32) ⊕ (Int32)) :=
  zw_let (v5 + 1 : Int32) fun x18 => (some (.inl (v3, x18)))
theorem j_X10_places_71_33_ok (X : zw_X) (P : Option Value → aS → Prop) (v0 : Nat) (v1 : Int32) (v2 : Int32) (v3 : Int32) (v4 : Int32) (v5 : Int32) (I : zI) (R : zR) (J : zJ) (o : (Int32 × Int32) ⊕ (Int32)) (hf : j_X10_places_71_33 v0 v1 v2 v3 v4 v5 I R = some o) (hk : (zw_se (fun t => zy_V X M_X10_places 2 P 33 [.ref v0, .int v1, .int v2, .int t.1, .int v4, .int t.2] [] (I, R, J)) (fun r => zy_V X M_X10_places 2 P 77 [.ref v0, .int v1, .int v2, .int r, .int v4, .null] [] (I, R, J)) o)) : zy_V X M_X10_places 2 P 71 [.ref v0, .int v1, .int v2, .int v3, .int v4, .int v5] [] (I, R, J) := by
  unfold j_X10_places_71_33 at hf
  obtain ⟨x18, ex18, hf⟩ := zw_letE hf
  refine zx_iinc (pc := 71) (x2 := x18) (L2 := [.ref v0, .int v1, .int v2, .int v3, .int v4, .int x18]) d_X10_places_71 (by decide) rfl zc_i_1 ex18 rfl ?_
  refine zv_goto (pc := 74) (tg := 33) d_X10_places_74 (by decide) ?_
  cases hf
  exact zx_weak (zw_leS (zw_leS (zw_leS (zw_leS (zw_leS (zw_leS zw_leZ)))))) hk
def s_X10_places_33 (v0 : Nat) (v1 : Int32) (v2 : Int32) (v4 : Int32) (I : zI) (R : zR) (s : Int32 × Int32) : Option ((Int32 × Int32) ⊕ (Int32)) :=
  if 12 ≤ s.2 then some (.inr s.1) else zw_g (zw_gc v0 10) (zw_g (zw_gc (R v0 2) 1) (zw_g (zw_gc (R (R v0 2) 2) 16) (zw_g (zw_in v1 (zw_SH (R (R v0 2) 2)).2) (zw_g (zw_gc (R (R (R v0 2) 2) (Int32.toNatClampNeg v1)) 0) (zw_g (zw_gc (R (R v0 2) 4) 16) (zw_g (zw_in v2 (zw_SH (R (R v0 2) 4)).2) (zw_g (zw_gc (R (R (R v0 2) 4) (Int32.toNatClampNeg v2)) 0) ((f_X0_liesIn (R (R (R v0 2) 2) (Int32.toNatClampNeg v1)) (R (R (R v0 2) 4) (Int32.toNatClampNeg v2)) s.2 v4 I R).bind fun q16 => (if q16 = 0 then j_X10_places_71_33 v0 v1 v2 s.1 v4 s.2 I R else zw_let (s.1 + 1 : Int32) fun x19 => (j_X10_places_71_33 v0 v1 v2 x19 v4 s.2 I R))))))))))
theorem s_X10_places_33_ok (X : zw_X) (P : Option Value → aS → Prop) (v0 : Nat) (v1 : Int32) (v2 : Int32) (v4 : Int32) (I : zI) (R : zR) (J : zJ) (s : Int32 × Int32) (o : (Int32 × Int32) ⊕ (Int32)) (hf : s_X10_places_33 v0 v1 v2 v4 I R s = some o) (hk : (zw_se (fun t => zy_V X M_X10_places 2 P 33 [.ref v0, .int v1, .int v2, .int t.1, .int v4, .int t.2] [] (I, R, J)) (fun r => zy_V X M_X10_places 2 P 77 [.ref v0, .int v1, .int v2, .int r, .int v4, .null] [] (I, R, J)) o)) : zy_V X M_X10_places 2 P 33 [.ref v0, .int v1, .int v2, .int s.1, .int v4, .int s.2] [] (I, R, J) := by
  unfold s_X10_places_33 at hf
  refine zv_iload (pc := 33) d_X10_places_33 rfl ?_
  refine zv_bipush (pc := 35) d_X10_places_35 zc_b_12 ?_
  rcases zw_ifE hf with ⟨c7, hf⟩ | ⟨c7, hf⟩
  · refine zv_icmp_ge (pc := 37) (tg := 77) d_X10_places_37 (by decide) (fun _ => ?_) (fun q => absurd c7 q)
    cases hf
    exact zx_weak (zw_leS (zw_leS (zw_leS (zw_leS (zw_leS (zw_leN zw_leZ)))))) hk
  · refine zv_icmp_ge (pc := 37) (tg := 77) d_X10_places_37 (by decide) (fun q => absurd q c7) (fun _ => ?_)
    refine zv_aload_n (pc := 40) d_X10_places_40 rfl ?_
    obtain ⟨g8, hf⟩ := zw_gcE hf (by decide)
    obtain ⟨g9, hf⟩ := zw_gcE hf (by decide)
    refine zx_getR (pc := 41) d_X10_places_41 lk_CutStones_26 (by decide) g8 g9 ?_
    obtain ⟨g10, hf⟩ := zw_gcE hf (by decide)
    refine zx_getR (pc := 44) d_X10_places_44 lk_CutStones_141 (by decide) g9 g10 ?_
    refine zv_iload_n (pc := 47) d_X10_places_47 rfl ?_
    obtain ⟨i11, hf⟩ := zw_inE hf
    obtain ⟨g12, hf⟩ := zw_gcE hf (by decide)
    refine zx_aald (pc := 48) d_X10_places_48 g10 (by decide) i11 g12 ?_
    refine zv_aload_n (pc := 49) d_X10_places_49 rfl ?_
    refine zx_getR (pc := 50) d_X10_places_50 lk_CutStones_26 (by decide) g8 g9 ?_
    obtain ⟨g13, hf⟩ := zw_gcE hf (by decide)
    refine zx_getR (pc := 53) d_X10_places_53 lk_CutStones_211 (by decide) g9 g13 ?_
    refine zv_iload_n (pc := 56) d_X10_places_56 rfl ?_
    obtain ⟨i14, hf⟩ := zw_inE hf
    obtain ⟨g15, hf⟩ := zw_gcE hf (by decide)
    refine zx_aald (pc := 57) d_X10_places_57 g13 (by decide) i14 g15 ?_
    refine zv_iload (pc := 58) d_X10_places_58 rfl ?_
    refine zv_iload (pc := 60) d_X10_places_60 rfl ?_
    obtain ⟨q16, hq16, hf⟩ := zw_bdE hf
    refine zx_callV (pc := 62) (As := [.ref (R (R (R v0 2) 4) (Int32.toNatClampNeg v2)), .int s.2, .int v4]) (o := (R (R (R v0 2) 2) (Int32.toNatClampNeg v1))) (st := []) (d2 := 1) (M2 := M_X0_liesIn) (P2 := (fun r S => r = (some (.int q16)) ∧ S = (I, R, J))) d_X10_places_62 (zw_mG (List.mem_of_getElem? (i := 1034) (by decide +kernel)) rfl) ce_X0_liesIn (zw_RvK g12 rfl rfl) (Nat.le_of_ble_eq_true rfl) rfl (Nat.le_of_ble_eq_true rfl) (by decide) (c_X0_liesIn X (R (R (R v0 2) 2) (Int32.toNatClampNeg v1)) (R (R (R v0 2) 4) (Int32.toNatClampNeg v2)) s.2 v4 I R J _ hq16 ⟨rfl, rfl⟩) ?_
    rintro _ _ ⟨rfl, rfl⟩
    show zy_V X M_X10_places 2 P (62 + 3) [.ref v0, .int v1, .int v2, .int s.1, .int v4, .int s.2] [.int q16] (I, R, J)
    rcases zw_ifE hf with ⟨c17, hf⟩ | ⟨c17, hf⟩
    · refine zv_if_eq (pc := 65) (tg := 71) d_X10_places_65 (by decide) (fun _ => ?_) (fun q => absurd c17 q)
      exact zx_weak (zw_leS (zw_leS (zw_leS (zw_leS (zw_leS (zw_leS zw_leZ)))))) (j_X10_places_71_33_ok X P v0 v1 v2 s.1 v4 s.2 I R J _ hf hk)
    · refine zv_if_eq (pc := 65) (tg := 71) d_X10_places_65 (by decide) (fun q => absurd q c17) (fun _ => ?_)
      obtain ⟨x19, ex19, hf⟩ := zw_letE hf
      refine zx_iinc (pc := 68) (x2 := x19) (L2 := [.ref v0, .int v1, .int v2, .int x19, .int v4, .int s.2]) d_X10_places_68 (by decide) rfl zc_i_1 ex19 rfl ?_
      exact zx_weak (zw_leS (zw_leS (zw_leS (zw_leS (zw_leS (zw_leS zw_leZ)))))) (j_X10_places_71_33_ok X P v0 v1 v2 x19 v4 s.2 I R J _ hf hk)
theorem s_X10_places_33_lp (X : zw_X) (P : Option Value → aS → Prop) (v0 : Nat) (v1 : Int32) (v2 : Int32) (v4 : Int32) (I : zI) (R : zR) (J : zJ) (n : Nat) (s : Int32 × Int32) (r : Int32) (h : zw_it (s_X10_places_33 v0 v1 v2 v4 I R) n s = some r) (hq : zy_V X M_X10_places 2 P 77 [.ref v0, .int v1, .int v2, .int r, .int v4, .null] [] (I, R, J)) : zy_V X M_X10_places 2 P 33 [.ref v0, .int v1, .int v2, .int s.1, .int v4, .int s.2] [] (I, R, J) :=
  zw_itE (A := (fun t : Int32 × Int32 => zy_V X M_X10_places 2 P 33 [.ref v0, .int v1, .int v2, .int t.1, .int v4, .int t.2] [] (I, R, J))) (Q := (fun r : Int32 => zy_V X M_X10_places 2 P 77 [.ref v0, .int v1, .int v2, .int r, .int v4, .null] [] (I, R, J))) (fun s o h1 h2 => s_X10_places_33_ok X P v0 v1 v2 v4 I R J s o h1 h2) n s r h hq
def s_X10_places_23 (v0 : Nat) (v1 : Int32) (v2 : Int32) (I : zI) (R : zR) (s : Int32 × Int32) : Option ((Int32 × Int32) ⊕ (Int32)) :=
  if 12 ≤ s.2 then some (.inr s.1) else (zw_it (s_X10_places_33 v0 v1 v2 s.2 I R) 1000000 (s.1, 0)).bind fun q20 => (zw_let (s.2 + 1 : Int32) fun x21 => (some (.inl (q20, x21))))
theorem s_X10_places_23_ok (X : zw_X) (P : Option Value → aS → Prop) (v0 : Nat) (v1 : Int32) (v2 : Int32) (I : zI) (R : zR) (J : zJ) (s : Int32 × Int32) (o : (Int32 × Int32) ⊕ (Int32)) (hf : s_X10_places_23 v0 v1 v2 I R s = some o) (hk : (zw_se (fun t => zy_V X M_X10_places 2 P 23 [.ref v0, .int v1, .int v2, .int t.1, .int t.2, .null] [] (I, R, J)) (fun r => zy_V X M_X10_places 2 P 83 [.null, .null, .null, .int r, .null, .null] [] (I, R, J)) o)) : zy_V X M_X10_places 2 P 23 [.ref v0, .int v1, .int v2, .int s.1, .int s.2, .null] [] (I, R, J) := by
  unfold s_X10_places_23 at hf
  refine zv_iload (pc := 23) d_X10_places_23 rfl ?_
  refine zv_bipush (pc := 25) d_X10_places_25 zc_b_12 ?_
  rcases zw_ifE hf with ⟨c6, hf⟩ | ⟨c6, hf⟩
  · refine zv_icmp_ge (pc := 27) (tg := 83) d_X10_places_27 (by decide) (fun _ => ?_) (fun q => absurd c6 q)
    cases hf
    exact zx_weak (zw_leN (zw_leN (zw_leN (zw_leS (zw_leN (zw_leN zw_leZ)))))) hk
  · refine zv_icmp_ge (pc := 27) (tg := 83) d_X10_places_27 (by decide) (fun q => absurd q c6) (fun _ => ?_)
    refine zv_iconst (pc := 30) d_X10_places_30 zc_i_0 ?_
    refine zx_istore (pc := 31) (x2 := 0) (L2 := [.ref v0, .int v1, .int v2, .int s.1, .int s.2, .int 0]) d_X10_places_31 (by decide) rfl rfl ?_
    obtain ⟨q20, hq20, hf⟩ := zw_bdE hf
    refine zx_weak (L' := [.ref v0, .int v1, .int v2, .int s.1, .int s.2, .int 0]) (zw_leS (zw_leS (zw_leS (zw_leS (zw_leS (zw_leS zw_leZ)))))) (s_X10_places_33_lp X P v0 v1 v2 s.2 I R J _ _ _ hq20 ?_)
    show zy_V X M_X10_places 2 P 77 [.ref v0, .int v1, .int v2, .int q20, .int s.2, .null] [] (I, R, J)
    obtain ⟨x21, ex21, hf⟩ := zw_letE hf
    refine zx_iinc (pc := 77) (x2 := x21) (L2 := [.ref v0, .int v1, .int v2, .int q20, .int x21, .null]) d_X10_places_77 (by decide) rfl zc_i_1 ex21 rfl ?_
    refine zv_goto (pc := 80) (tg := 23) d_X10_places_80 (by decide) ?_
    cases hf
    exact zx_weak (zw_leS (zw_leS (zw_leS (zw_leS (zw_leS (zw_leN zw_leZ)))))) hk
theorem s_X10_places_23_lp (X : zw_X) (P : Option Value → aS → Prop) (v0 : Nat) (v1 : Int32) (v2 : Int32) (I : zI) (R : zR) (J : zJ) (n : Nat) (s : Int32 × Int32) (r : Int32) (h : zw_it (s_X10_places_23 v0 v1 v2 I R) n s = some r) (hq : zy_V X M_X10_places 2 P 83 [.null, .null, .null, .int r, .null, .null] [] (I, R, J)) : zy_V X M_X10_places 2 P 23 [.ref v0, .int v1, .int v2, .int s.1, .int s.2, .null] [] (I, R, J) :=
  zw_itE (A := (fun t : Int32 × Int32 => zy_V X M_X10_places 2 P 23 [.ref v0, .int v1, .int v2, .int t.1, .int t.2, .null] [] (I, R, J))) (Q := (fun r : Int32 => zy_V X M_X10_places 2 P 83 [.null, .null, .null, .int r, .null, .null] [] (I, R, J))) (fun s o h1 h2 => s_X10_places_23_ok X P v0 v1 v2 I R J s o h1 h2) n s r h hq
def f_X10_places (v0 : Nat) (v1 : Int32) (v2 : Int32) (I : zI) (R : zR) : Option (Int32) :=
  zw_g (zw_gc v0 10) ((f_X10_isCut v0 v1 I R).bind fun q2 => (if q2 = 0 then some (-1) else (f_X10_isRough v0 v2 I R).bind fun q4 => (if ¬ q4 = 0 then (zw_it (s_X10_places_23 v0 v1 v2 I R) 1000000 (0, 0)).bind fun q22 => (some q22) else some (-1))))
theorem c_X10_places (X : zw_X) (v0 : Nat) (v1 : Int32) (v2 : Int32) (I : zI) (R : zR) (J : zJ) {P : Option Value → aS → Prop} (o : Int32) (hf : f_X10_places v0 v1 v2 I R = some o) (hk : P (some (.int o)) (I, R, J)) : zw_C X M_X10_places 2 0 0 199 [.ref v0, .int v1, .int v2] (I, R, J) P := by
  show zy_V X M_X10_places 2 P 0 [.ref v0, .int v1, .int v2, .null, .null, .null] [] (I, R, J)
  unfold f_X10_places at hf
  refine zv_aload_n (pc := 0) d_X10_places_0 rfl ?_
  refine zv_iload_n (pc := 1) d_X10_places_1 rfl ?_
  obtain ⟨g1, hf⟩ := zw_gcE hf (by decide)
  obtain ⟨q2, hq2, hf⟩ := zw_bdE hf
  refine zx_callV (pc := 2) (As := [.int v1]) (o := v0) (st := []) (d2 := 0) (M2 := M_X10_isCut) (P2 := (fun r S => r = (some (.int q2)) ∧ S = (I, R, J))) d_X10_places_2 (zw_mG (List.mem_of_getElem? (i := 849) (by decide +kernel)) rfl) ce_X10_isCut (zw_RvK g1 rfl rfl) (Nat.le_of_ble_eq_true rfl) rfl (Nat.le_of_ble_eq_true rfl) (by decide) (c_X10_isCut X v0 v1 I R J _ hq2 ⟨rfl, rfl⟩) ?_
  rintro _ _ ⟨rfl, rfl⟩
  show zy_V X M_X10_places 2 P (2 + 3) [.ref v0, .int v1, .int v2, .null, .null, .null] [.int q2] (I, R, J)
  rcases zw_ifE hf with ⟨c3, hf⟩ | ⟨c3, hf⟩
  · refine zv_if_eq (pc := 5) (tg := 16) d_X10_places_5 (by decide) (fun _ => ?_) (fun q => absurd c3 q)
    refine zv_iconst (pc := 16) d_X10_places_16 zc_i_m1 ?_
    cases hf
    exact zx_iret (pc := 17) d_X10_places_17 rfl hk
  · refine zv_if_eq (pc := 5) (tg := 16) d_X10_places_5 (by decide) (fun q => absurd q c3) (fun _ => ?_)
    refine zv_aload_n (pc := 8) d_X10_places_8 rfl ?_
    refine zv_iload_n (pc := 9) d_X10_places_9 rfl ?_
    obtain ⟨q4, hq4, hf⟩ := zw_bdE hf
    refine zx_callV (pc := 10) (As := [.int v2]) (o := v0) (st := []) (d2 := 0) (M2 := M_X10_isRough) (P2 := (fun r S => r = (some (.int q4)) ∧ S = (I, R, J))) d_X10_places_10 (zw_mG (List.mem_of_getElem? (i := 845) (by decide +kernel)) rfl) ce_X10_isRough (zw_RvK g1 rfl rfl) (Nat.le_of_ble_eq_true rfl) rfl (Nat.le_of_ble_eq_true rfl) (by decide) (c_X10_isRough X v0 v2 I R J _ hq4 ⟨rfl, rfl⟩) ?_
    rintro _ _ ⟨rfl, rfl⟩
    show zy_V X M_X10_places 2 P (10 + 3) [.ref v0, .int v1, .int v2, .null, .null, .null] [.int q4] (I, R, J)
    rcases zw_ifE hf with ⟨c5, hf⟩ | ⟨c5, hf⟩
    · refine zv_if_ne (pc := 13) (tg := 18) d_X10_places_13 (by decide) (fun _ => ?_) (fun q => absurd q c5)
      refine zv_iconst (pc := 18) d_X10_places_18 zc_i_0 ?_
      refine zx_istore_n (pc := 19) (x2 := 0) (L2 := [.ref v0, .int v1, .int v2, .int 0, .null, .null]) d_X10_places_19 (by decide) rfl rfl ?_
      refine zv_iconst (pc := 20) d_X10_places_20 zc_i_0 ?_
      refine zx_istore (pc := 21) (x2 := 0) (L2 := [.ref v0, .int v1, .int v2, .int 0, .int 0, .null]) d_X10_places_21 (by decide) rfl rfl ?_
      obtain ⟨q22, hq22, hf⟩ := zw_bdE hf
      refine zx_weak (L' := [.ref v0, .int v1, .int v2, .int 0, .int 0, .null]) (zw_leS (zw_leS (zw_leS (zw_leS (zw_leS (zw_leN zw_leZ)))))) (s_X10_places_23_lp X P v0 v1 v2 I R J _ _ _ hq22 ?_)
      show zy_V X M_X10_places 2 P 83 [.null, .null, .null, .int q22, .null, .null] [] (I, R, J)
      refine zv_iload_n (pc := 83) d_X10_places_83 rfl ?_
      cases hf
      exact zx_iret (pc := 84) d_X10_places_84 rfl hk
    · refine zv_if_ne (pc := 13) (tg := 18) d_X10_places_13 (by decide) (fun q => absurd q c5) (fun _ => ?_)
      refine zv_iconst (pc := 16) d_X10_places_16 zc_i_m1 ?_
      cases hf
      exact zx_iret (pc := 17) d_X10_places_17 rfl hk
abbrev M_X10_weight : zw_M := (⟨"CutStones", "weight", "(ZI)I"⟩, prog_1_method_6_code, 3, (Option.some Jvm.ClassFile.FieldType.int))
theorem d_X10_weight_0 : decode M_X10_weight.2.1 0 = .ok (.aload_n 0, 1) := by decide +kernel
theorem d_X10_weight_1 : decode M_X10_weight.2.1 1 = .ok (.iload_n 1, 1) := by decide +kernel
theorem d_X10_weight_2 : decode M_X10_weight.2.1 2 = .ok (.iload_n 2, 1) := by decide +kernel
theorem d_X10_weight_3 : decode M_X10_weight.2.1 3 = .ok (.invokevirtual 116, 3) := by decide +kernel
theorem d_X10_weight_6 : decode M_X10_weight.2.1 6 = .ok (.ifCond .eq 15, 3) := by decide +kernel
theorem d_X10_weight_9 : decode M_X10_weight.2.1 9 = .ok (.aload_n 0, 1) := by decide +kernel
theorem d_X10_weight_10 : decode M_X10_weight.2.1 10 = .ok (.iload_n 1, 1) := by decide +kernel
theorem d_X10_weight_11 : decode M_X10_weight.2.1 11 = .ok (.iload_n 2, 1) := by decide +kernel
theorem d_X10_weight_12 : decode M_X10_weight.2.1 12 = .ok (.invokevirtual 120, 3) := by decide +kernel
theorem d_X10_weight_15 : decode M_X10_weight.2.1 15 = .ok (.getfield 124, 3) := by decide +kernel
theorem d_X10_weight_18 : decode M_X10_weight.2.1 18 = .ok (.goto 4, 3) := by decide +kernel
theorem d_X10_weight_21 : decode M_X10_weight.2.1 21 = .ok (.iconst (-1), 1) := by decide +kernel
theorem d_X10_weight_22 : decode M_X10_weight.2.1 22 = .ok (.ireturn, 1) := by decide +kernel
theorem ce_X10_weight : zw_CeV M_X10_weight 2 := ⟨⟨⟨by decide +kernel, by decide +kernel, by decide +kernel⟩, (zw_mG (List.mem_of_getElem? (i := 840) (by decide +kernel)) rfl), (zw_mG (List.mem_of_getElem? (i := 96) (by decide +kernel)) rfl), by decide, by decide +kernel⟩, (zw_mG (List.mem_of_getElem? (i := 838) (by decide +kernel)) rfl), (zw_mG (List.mem_of_getElem? (i := 839) (by decide +kernel)) rfl)⟩
def f_X10_weight (v0 : Nat) (v1 : Int32) (v2 : Int32) (I : zI) (R : zR) : Option (Int32) :=
  zw_g (zw_gc v0 10) ((f_X10_isDrawing v0 v1 v2 I R).bind fun q2 => (if q2 = 0 then some (-1) else (f_X10_drawing v0 v1 v2 R).bind fun q4 => (zw_g (zw_gc q4 0) (some (I q4 3)))))
theorem c_X10_weight (X : zw_X) (v0 : Nat) (v1 : Int32) (v2 : Int32) (I : zI) (R : zR) (J : zJ) {P : Option Value → aS → Prop} (o : Int32) (hf : f_X10_weight v0 v1 v2 I R = some o) (hk : P (some (.int o)) (I, R, J)) : zw_C X M_X10_weight 2 0 0 199 [.ref v0, .int v1, .int v2] (I, R, J) P := by
  show zy_V X M_X10_weight 2 P 0 [.ref v0, .int v1, .int v2] [] (I, R, J)
  unfold f_X10_weight at hf
  refine zv_aload_n (pc := 0) d_X10_weight_0 rfl ?_
  refine zv_iload_n (pc := 1) d_X10_weight_1 rfl ?_
  refine zv_iload_n (pc := 2) d_X10_weight_2 rfl ?_
  obtain ⟨g1, hf⟩ := zw_gcE hf (by decide)
  obtain ⟨q2, hq2, hf⟩ := zw_bdE hf
  refine zx_callV (pc := 3) (As := [.int v1, .int v2]) (o := v0) (st := []) (d2 := 1) (M2 := M_X10_isDrawing) (P2 := (fun r S => r = (some (.int q2)) ∧ S = (I, R, J))) d_X10_weight_3 (zw_mG (List.mem_of_getElem? (i := 841) (by decide +kernel)) rfl) ce_X10_isDrawing (zw_RvK g1 rfl rfl) (Nat.le_of_ble_eq_true rfl) rfl (Nat.le_of_ble_eq_true rfl) (by decide) (c_X10_isDrawing X v0 v1 v2 I R J _ hq2 ⟨rfl, rfl⟩) ?_
  rintro _ _ ⟨rfl, rfl⟩
  show zy_V X M_X10_weight 2 P (3 + 3) [.ref v0, .int v1, .int v2] [.int q2] (I, R, J)
  rcases zw_ifE hf with ⟨c3, hf⟩ | ⟨c3, hf⟩
  · refine zv_if_eq (pc := 6) (tg := 21) d_X10_weight_6 (by decide) (fun _ => ?_) (fun q => absurd c3 q)
    refine zv_iconst (pc := 21) d_X10_weight_21 zc_i_m1 ?_
    cases hf
    exact zx_iret (pc := 22) d_X10_weight_22 rfl hk
  · refine zv_if_eq (pc := 6) (tg := 21) d_X10_weight_6 (by decide) (fun q => absurd q c3) (fun _ => ?_)
    refine zv_aload_n (pc := 9) d_X10_weight_9 rfl ?_
    refine zv_iload_n (pc := 10) d_X10_weight_10 rfl ?_
    refine zv_iload_n (pc := 11) d_X10_weight_11 rfl ?_
    obtain ⟨q4, hq4, hf⟩ := zw_bdE hf
    refine zx_callV (pc := 12) (As := [.int v1, .int v2]) (o := v0) (st := []) (d2 := 0) (M2 := M_X10_drawing) (P2 := (fun r S => r = (some (.ref q4)) ∧ S = (I, R, J))) d_X10_weight_12 (zw_mG (List.mem_of_getElem? (i := 853) (by decide +kernel)) rfl) ce_X10_drawing (zw_RvK g1 rfl rfl) (Nat.le_of_ble_eq_true rfl) rfl (Nat.le_of_ble_eq_true rfl) (by decide) (c_X10_drawing X v0 v1 v2 I R J _ hq4 ⟨rfl, rfl⟩) ?_
    rintro _ _ ⟨rfl, rfl⟩
    show zy_V X M_X10_weight 2 P (12 + 3) [.ref v0, .int v1, .int v2] [.ref q4] (I, R, J)
    obtain ⟨g5, hf⟩ := zw_gcE hf (by decide)
    refine zx_getI (pc := 15) d_X10_weight_15 lk_CutStones_124 (by decide) g5 ?_
    refine zv_goto (pc := 18) (tg := 22) d_X10_weight_18 (by decide) ?_
    cases hf
    exact zx_iret (pc := 22) d_X10_weight_22 rfl hk
abbrev M_X11_count : zw_M := (⟨"CutStonesModel", "count", "(I)I"⟩, prog_13_method_88_code, 4, (Option.some Jvm.ClassFile.FieldType.int))
theorem d_X11_count_0 : decode M_X11_count.2.1 0 = .ok (.iload_n 1, 1) := by decide +kernel
theorem d_X11_count_1 : decode M_X11_count.2.1 1 = .ok (.tableswitch 103 0 6 #[43, 53, 63, 73, 83, 93, 98], 43) := by decide +kernel
theorem d_X11_count_44 : decode M_X11_count.2.1 44 = .ok (.aload_n 0, 1) := by decide +kernel
theorem d_X11_count_45 : decode M_X11_count.2.1 45 = .ok (.getfield 46, 3) := by decide +kernel
theorem d_X11_count_48 : decode M_X11_count.2.1 48 = .ok (.aload_n 0, 1) := by decide +kernel
theorem d_X11_count_49 : decode M_X11_count.2.1 49 = .ok (.getfield 248, 3) := by decide +kernel
theorem d_X11_count_52 : decode M_X11_count.2.1 52 = .ok (.iaload, 1) := by decide +kernel
theorem d_X11_count_53 : decode M_X11_count.2.1 53 = .ok (.ireturn, 1) := by decide +kernel
theorem d_X11_count_54 : decode M_X11_count.2.1 54 = .ok (.aload_n 0, 1) := by decide +kernel
theorem d_X11_count_55 : decode M_X11_count.2.1 55 = .ok (.getfield 58, 3) := by decide +kernel
theorem d_X11_count_58 : decode M_X11_count.2.1 58 = .ok (.aload_n 0, 1) := by decide +kernel
theorem d_X11_count_59 : decode M_X11_count.2.1 59 = .ok (.getfield 248, 3) := by decide +kernel
theorem d_X11_count_62 : decode M_X11_count.2.1 62 = .ok (.iaload, 1) := by decide +kernel
theorem d_X11_count_63 : decode M_X11_count.2.1 63 = .ok (.ireturn, 1) := by decide +kernel
theorem d_X11_count_64 : decode M_X11_count.2.1 64 = .ok (.aload_n 0, 1) := by decide +kernel
theorem d_X11_count_65 : decode M_X11_count.2.1 65 = .ok (.getfield 61, 3) := by decide +kernel
theorem d_X11_count_68 : decode M_X11_count.2.1 68 = .ok (.aload_n 0, 1) := by decide +kernel
theorem d_X11_count_69 : decode M_X11_count.2.1 69 = .ok (.getfield 248, 3) := by decide +kernel
theorem d_X11_count_72 : decode M_X11_count.2.1 72 = .ok (.iaload, 1) := by decide +kernel
theorem d_X11_count_73 : decode M_X11_count.2.1 73 = .ok (.ireturn, 1) := by decide +kernel
theorem d_X11_count_74 : decode M_X11_count.2.1 74 = .ok (.aload_n 0, 1) := by decide +kernel
theorem d_X11_count_75 : decode M_X11_count.2.1 75 = .ok (.getfield 73, 3) := by decide +kernel
theorem d_X11_count_78 : decode M_X11_count.2.1 78 = .ok (.aload_n 0, 1) := by decide +kernel
theorem d_X11_count_79 : decode M_X11_count.2.1 79 = .ok (.getfield 248, 3) := by decide +kernel
theorem d_X11_count_82 : decode M_X11_count.2.1 82 = .ok (.iaload, 1) := by decide +kernel
theorem d_X11_count_83 : decode M_X11_count.2.1 83 = .ok (.ireturn, 1) := by decide +kernel
theorem d_X11_count_84 : decode M_X11_count.2.1 84 = .ok (.aload_n 0, 1) := by decide +kernel
theorem d_X11_count_85 : decode M_X11_count.2.1 85 = .ok (.getfield 76, 3) := by decide +kernel
theorem d_X11_count_88 : decode M_X11_count.2.1 88 = .ok (.aload_n 0, 1) := by decide +kernel
theorem d_X11_count_89 : decode M_X11_count.2.1 89 = .ok (.getfield 248, 3) := by decide +kernel
theorem d_X11_count_92 : decode M_X11_count.2.1 92 = .ok (.iaload, 1) := by decide +kernel
theorem d_X11_count_93 : decode M_X11_count.2.1 93 = .ok (.ireturn, 1) := by decide +kernel
theorem d_X11_count_94 : decode M_X11_count.2.1 94 = .ok (.aload_n 0, 1) := by decide +kernel
theorem d_X11_count_95 : decode M_X11_count.2.1 95 = .ok (.getfield 273, 3) := by decide +kernel
theorem d_X11_count_98 : decode M_X11_count.2.1 98 = .ok (.ireturn, 1) := by decide +kernel
theorem d_X11_count_99 : decode M_X11_count.2.1 99 = .ok (.aload_n 0, 1) := by decide +kernel
theorem d_X11_count_100 : decode M_X11_count.2.1 100 = .ok (.getfield 177, 3) := by decide +kernel
theorem d_X11_count_103 : decode M_X11_count.2.1 103 = .ok (.ireturn, 1) := by decide +kernel
theorem d_X11_count_104 : decode M_X11_count.2.1 104 = .ok (.iload_n 1, 1) := by decide +kernel
theorem d_X11_count_105 : decode M_X11_count.2.1 105 = .ok (.bipush 10, 2) := by decide +kernel
theorem d_X11_count_107 : decode M_X11_count.2.1 107 = .ok (.idiv, 1) := by decide +kernel
theorem d_X11_count_108 : decode M_X11_count.2.1 108 = .ok (.istore_n 2, 1) := by decide +kernel
theorem d_X11_count_109 : decode M_X11_count.2.1 109 = .ok (.iload_n 1, 1) := by decide +kernel
theorem d_X11_count_110 : decode M_X11_count.2.1 110 = .ok (.bipush 10, 2) := by decide +kernel
theorem d_X11_count_112 : decode M_X11_count.2.1 112 = .ok (.if_icmp .lt 8, 3) := by decide +kernel
theorem d_X11_count_115 : decode M_X11_count.2.1 115 = .ok (.iload_n 2, 1) := by decide +kernel
theorem d_X11_count_116 : decode M_X11_count.2.1 116 = .ok (.iconst 4, 1) := by decide +kernel
theorem d_X11_count_117 : decode M_X11_count.2.1 117 = .ok (.if_icmp .le 5, 3) := by decide +kernel
theorem d_X11_count_120 : decode M_X11_count.2.1 120 = .ok (.iconst (-1), 1) := by decide +kernel
theorem d_X11_count_121 : decode M_X11_count.2.1 121 = .ok (.ireturn, 1) := by decide +kernel
theorem d_X11_count_122 : decode M_X11_count.2.1 122 = .ok (.iload_n 2, 1) := by decide +kernel
theorem d_X11_count_123 : decode M_X11_count.2.1 123 = .ok (.iconst 3, 1) := by decide +kernel
theorem d_X11_count_124 : decode M_X11_count.2.1 124 = .ok (.if_icmp .ge 14, 3) := by decide +kernel
theorem d_X11_count_127 : decode M_X11_count.2.1 127 = .ok (.aload_n 0, 1) := by decide +kernel
theorem d_X11_count_128 : decode M_X11_count.2.1 128 = .ok (.iload_n 1, 1) := by decide +kernel
theorem d_X11_count_129 : decode M_X11_count.2.1 129 = .ok (.bipush 10, 2) := by decide +kernel
theorem d_X11_count_131 : decode M_X11_count.2.1 131 = .ok (.irem, 1) := by decide +kernel
theorem d_X11_count_132 : decode M_X11_count.2.1 132 = .ok (.invokevirtual 380, 3) := by decide +kernel
theorem d_X11_count_135 : decode M_X11_count.2.1 135 = .ok (.goto 11, 3) := by decide +kernel
theorem d_X11_count_138 : decode M_X11_count.2.1 138 = .ok (.aload_n 0, 1) := by decide +kernel
theorem d_X11_count_139 : decode M_X11_count.2.1 139 = .ok (.iload_n 1, 1) := by decide +kernel
theorem d_X11_count_140 : decode M_X11_count.2.1 140 = .ok (.bipush 10, 2) := by decide +kernel
theorem d_X11_count_142 : decode M_X11_count.2.1 142 = .ok (.irem, 1) := by decide +kernel
theorem d_X11_count_143 : decode M_X11_count.2.1 143 = .ok (.invokevirtual 377, 3) := by decide +kernel
theorem d_X11_count_146 : decode M_X11_count.2.1 146 = .ok (.istore_n 3, 1) := by decide +kernel
theorem d_X11_count_147 : decode M_X11_count.2.1 147 = .ok (.iload_n 3, 1) := by decide +kernel
theorem d_X11_count_148 : decode M_X11_count.2.1 148 = .ok (.iconst (-1), 1) := by decide +kernel
theorem d_X11_count_149 : decode M_X11_count.2.1 149 = .ok (.if_icmp .ne 7, 3) := by decide +kernel
theorem d_X11_count_152 : decode M_X11_count.2.1 152 = .ok (.iconst (-1), 1) := by decide +kernel
theorem d_X11_count_153 : decode M_X11_count.2.1 153 = .ok (.goto 25, 3) := by decide +kernel
theorem d_X11_count_156 : decode M_X11_count.2.1 156 = .ok (.iload_n 2, 1) := by decide +kernel
theorem d_X11_count_157 : decode M_X11_count.2.1 157 = .ok (.iconst 2, 1) := by decide +kernel
theorem d_X11_count_158 : decode M_X11_count.2.1 158 = .ok (.irem, 1) := by decide +kernel
theorem d_X11_count_159 : decode M_X11_count.2.1 159 = .ok (.iconst 1, 1) := by decide +kernel
theorem d_X11_count_160 : decode M_X11_count.2.1 160 = .ok (.if_icmp .ne 12, 3) := by decide +kernel
theorem d_X11_count_163 : decode M_X11_count.2.1 163 = .ok (.aload_n 0, 1) := by decide +kernel
theorem d_X11_count_164 : decode M_X11_count.2.1 164 = .ok (.getfield 64, 3) := by decide +kernel
theorem d_X11_count_167 : decode M_X11_count.2.1 167 = .ok (.iload_n 3, 1) := by decide +kernel
theorem d_X11_count_168 : decode M_X11_count.2.1 168 = .ok (.iaload, 1) := by decide +kernel
theorem d_X11_count_169 : decode M_X11_count.2.1 169 = .ok (.goto 9, 3) := by decide +kernel
theorem d_X11_count_172 : decode M_X11_count.2.1 172 = .ok (.aload_n 0, 1) := by decide +kernel
theorem d_X11_count_173 : decode M_X11_count.2.1 173 = .ok (.getfield 67, 3) := by decide +kernel
theorem d_X11_count_176 : decode M_X11_count.2.1 176 = .ok (.iload_n 3, 1) := by decide +kernel
theorem d_X11_count_177 : decode M_X11_count.2.1 177 = .ok (.iaload, 1) := by decide +kernel
theorem d_X11_count_178 : decode M_X11_count.2.1 178 = .ok (.ireturn, 1) := by decide +kernel
theorem ce_X11_count : zw_CeV M_X11_count 1 := ⟨⟨⟨by decide +kernel, by decide +kernel, by decide +kernel⟩, (zw_mG (List.mem_of_getElem? (i := 1728) (by decide +kernel)) rfl), (zw_mG (List.mem_of_getElem? (i := 108) (by decide +kernel)) rfl), by decide, by decide +kernel⟩, (zw_mG (List.mem_of_getElem? (i := 1726) (by decide +kernel)) rfl), (zw_mG (List.mem_of_getElem? (i := 1727) (by decide +kernel)) rfl)⟩
def j_X11_count_146 (v0 : Nat) (v2 : Int32) (s0 : Int32) (I : zI) (R : zR) : Option (Int32) :=
  if ¬ s0 = (-1) then if ¬ (v2 - v2 / 2 * 2) = 1 then zw_g (zw_gc v0 11) (zw_g (zw_gc (R v0 29) 13) (zw_g (zw_in s0 (zw_SH (R v0 29)).2) (some (I (R v0 29) (Int32.toNatClampNeg s0))))) else zw_g (zw_gc v0 11) (zw_g (zw_gc (R v0 28) 13) (zw_g (zw_in s0 (zw_SH (R v0 28)).2) (some (I (R v0 28) (Int32.toNatClampNeg s0))))) else some (-1)
theorem j_X11_count_146_ok (X : zw_X) (P : Option Value → aS → Prop) (v0 : Nat) (v2 : Int32) (s0 : Int32) (I : zI) (R : zR) (J : zJ) (o : Int32) (hf : j_X11_count_146 v0 v2 s0 I R = some o) (hk : P (some (.int o)) (I, R, J)) : zy_V X M_X11_count 2 P 146 [.ref v0, .null, .int v2, .null] [.int s0] (I, R, J) := by
  unfold j_X11_count_146 at hf
  refine zx_istore_n (pc := 146) (x2 := s0) (L2 := [.ref v0, .null, .int v2, .int s0]) d_X11_count_146 (by decide) rfl rfl ?_
  refine zv_iload_n (pc := 147) d_X11_count_147 rfl ?_
  refine zv_iconst (pc := 148) d_X11_count_148 zc_i_m1 ?_
  rcases zw_ifE hf with ⟨c31, hf⟩ | ⟨c31, hf⟩
  · refine zv_icmp_ne (pc := 149) (tg := 156) d_X11_count_149 (by decide) (fun _ => ?_) (fun q => absurd q c31)
    refine zv_iload_n (pc := 156) d_X11_count_156 rfl ?_
    refine zv_iconst (pc := 157) d_X11_count_157 zc_i_2 ?_
    refine zv_irem (pc := 158) d_X11_count_158 (by decide +kernel) ?_
    refine zv_iconst (pc := 159) d_X11_count_159 zc_i_1 ?_
    rcases zw_ifE hf with ⟨c32, hf⟩ | ⟨c32, hf⟩
    · refine zv_icmp_ne (pc := 160) (tg := 172) d_X11_count_160 (by decide) (fun _ => ?_) (fun q => absurd q c32)
      refine zv_aload_n (pc := 172) d_X11_count_172 rfl ?_
      obtain ⟨g33, hf⟩ := zw_gcE hf (by decide)
      obtain ⟨g34, hf⟩ := zw_gcE hf (by decide)
      refine zx_getR (pc := 173) d_X11_count_173 lk_CutStonesModel_67 (by decide) g33 g34 ?_
      refine zv_iload_n (pc := 176) d_X11_count_176 rfl ?_
      obtain ⟨i35, hf⟩ := zw_inE hf
      refine zx_iald (pc := 177) d_X11_count_177 g34 i35 ?_
      cases hf
      exact zx_iret (pc := 178) d_X11_count_178 rfl hk
    · refine zv_icmp_ne (pc := 160) (tg := 172) d_X11_count_160 (by decide) (fun q => absurd q c32) (fun _ => ?_)
      refine zv_aload_n (pc := 163) d_X11_count_163 rfl ?_
      obtain ⟨g36, hf⟩ := zw_gcE hf (by decide)
      obtain ⟨g37, hf⟩ := zw_gcE hf (by decide)
      refine zx_getR (pc := 164) d_X11_count_164 lk_CutStonesModel_64 (by decide) g36 g37 ?_
      refine zv_iload_n (pc := 167) d_X11_count_167 rfl ?_
      obtain ⟨i38, hf⟩ := zw_inE hf
      refine zx_iald (pc := 168) d_X11_count_168 g37 i38 ?_
      refine zv_goto (pc := 169) (tg := 178) d_X11_count_169 (by decide) ?_
      cases hf
      exact zx_iret (pc := 178) d_X11_count_178 rfl hk
  · refine zv_icmp_ne (pc := 149) (tg := 156) d_X11_count_149 (by decide) (fun q => absurd q c31) (fun _ => ?_)
    refine zv_iconst (pc := 152) d_X11_count_152 zc_i_m1 ?_
    refine zv_goto (pc := 153) (tg := 178) d_X11_count_153 (by decide) ?_
    cases hf
    exact zx_iret (pc := 178) d_X11_count_178 rfl hk
def f_X11_count (v0 : Nat) (v1 : Int32) (I : zI) (R : zR) : Option (Int32) :=
  if v1 = 0 then zw_g (zw_gc v0 11) (zw_g (zw_gc (R v0 22) 13) (zw_g (zw_in (I v0 18) (zw_SH (R v0 22)).2) (some (I (R v0 22) (Int32.toNatClampNeg (I v0 18)))))) else (if v1 = 1 then zw_g (zw_gc v0 11) (zw_g (zw_gc (R v0 26) 13) (zw_g (zw_in (I v0 18) (zw_SH (R v0 26)).2) (some (I (R v0 26) (Int32.toNatClampNeg (I v0 18)))))) else (if v1 = 2 then zw_g (zw_gc v0 11) (zw_g (zw_gc (R v0 27) 13) (zw_g (zw_in (I v0 18) (zw_SH (R v0 27)).2) (some (I (R v0 27) (Int32.toNatClampNeg (I v0 18)))))) else (if v1 = 3 then zw_g (zw_gc v0 11) (zw_g (zw_gc (R v0 31) 13) (zw_g (zw_in (I v0 18) (zw_SH (R v0 31)).2) (some (I (R v0 31) (Int32.toNatClampNeg (I v0 18)))))) else (if v1 = 4 then zw_g (zw_gc v0 11) (zw_g (zw_gc (R v0 32) 13) (zw_g (zw_in (I v0 18) (zw_SH (R v0 32)).2) (some (I (R v0 32) (Int32.toNatClampNeg (I v0 18)))))) else (if v1 = 5 then zw_g (zw_gc v0 11) (some (I v0 75)) else (if v1 = 6 then zw_g (zw_gc v0 11) (some (I v0 2)) else (zw_let ((v1 / 10) : Int32) fun x25 => (if v1 < 10 then some (-1) else if x25 ≤ 4 then if 3 ≤ x25 then zw_g (zw_gc v0 11) ((f_X11_roughRow v0 (v1 - v1 / 10 * 10) I R).bind fun q30 => (j_X11_count_146 v0 x25 q30 I R)) else zw_g (zw_gc v0 11) ((f_X11_cutRow v0 (v1 - v1 / 10 * 10) I R).bind fun q40 => (j_X11_count_146 v0 x25 q40 I R)) else some (-1)))))))))
theorem c_X11_count (X : zw_X) (v0 : Nat) (v1 : Int32) (I : zI) (R : zR) (J : zJ) {P : Option Value → aS → Prop} (o : Int32) (hf : f_X11_count v0 v1 I R = some o) (hk : P (some (.int o)) (I, R, J)) : zw_C X M_X11_count 2 0 0 199 [.ref v0, .int v1] (I, R, J) P := by
  show zy_V X M_X11_count 2 P 0 [.ref v0, .int v1, .null, .null] [] (I, R, J)
  unfold f_X11_count at hf
  refine zv_iload_n (pc := 0) d_X11_count_0 rfl ?_
  rcases zw_ifE hf with ⟨c1, hf⟩ | ⟨c1, hf⟩
  · refine zx_tsIn (pc := 1) (tg := 44) (z := 43) d_X11_count_1 (by rw [c1]; decide +kernel) (by rw [c1]; decide +kernel) (by rw [c1]; decide +kernel) (by decide) ?_
    refine zv_aload_n (pc := 44) d_X11_count_44 rfl ?_
    obtain ⟨g2, hf⟩ := zw_gcE hf (by decide)
    obtain ⟨g3, hf⟩ := zw_gcE hf (by decide)
    refine zx_getR (pc := 45) d_X11_count_45 lk_CutStonesModel_46 (by decide) g2 g3 ?_
    refine zv_aload_n (pc := 48) d_X11_count_48 rfl ?_
    refine zx_getI (pc := 49) d_X11_count_49 lk_CutStonesModel_248 (by decide) g2 ?_
    obtain ⟨i4, hf⟩ := zw_inE hf
    refine zx_iald (pc := 52) d_X11_count_52 g3 i4 ?_
    cases hf
    exact zx_iret (pc := 53) d_X11_count_53 rfl hk
  ·
    rcases zw_ifE hf with ⟨c5, hf⟩ | ⟨c5, hf⟩
    · refine zx_tsIn (pc := 1) (tg := 54) (z := 53) d_X11_count_1 (by rw [c5]; decide +kernel) (by rw [c5]; decide +kernel) (by rw [c5]; decide +kernel) (by decide) ?_
      refine zv_aload_n (pc := 54) d_X11_count_54 rfl ?_
      obtain ⟨g6, hf⟩ := zw_gcE hf (by decide)
      obtain ⟨g7, hf⟩ := zw_gcE hf (by decide)
      refine zx_getR (pc := 55) d_X11_count_55 lk_CutStonesModel_58 (by decide) g6 g7 ?_
      refine zv_aload_n (pc := 58) d_X11_count_58 rfl ?_
      refine zx_getI (pc := 59) d_X11_count_59 lk_CutStonesModel_248 (by decide) g6 ?_
      obtain ⟨i8, hf⟩ := zw_inE hf
      refine zx_iald (pc := 62) d_X11_count_62 g7 i8 ?_
      cases hf
      exact zx_iret (pc := 63) d_X11_count_63 rfl hk
    ·
      rcases zw_ifE hf with ⟨c9, hf⟩ | ⟨c9, hf⟩
      · refine zx_tsIn (pc := 1) (tg := 64) (z := 63) d_X11_count_1 (by rw [c9]; decide +kernel) (by rw [c9]; decide +kernel) (by rw [c9]; decide +kernel) (by decide) ?_
        refine zv_aload_n (pc := 64) d_X11_count_64 rfl ?_
        obtain ⟨g10, hf⟩ := zw_gcE hf (by decide)
        obtain ⟨g11, hf⟩ := zw_gcE hf (by decide)
        refine zx_getR (pc := 65) d_X11_count_65 lk_CutStonesModel_61 (by decide) g10 g11 ?_
        refine zv_aload_n (pc := 68) d_X11_count_68 rfl ?_
        refine zx_getI (pc := 69) d_X11_count_69 lk_CutStonesModel_248 (by decide) g10 ?_
        obtain ⟨i12, hf⟩ := zw_inE hf
        refine zx_iald (pc := 72) d_X11_count_72 g11 i12 ?_
        cases hf
        exact zx_iret (pc := 73) d_X11_count_73 rfl hk
      ·
        rcases zw_ifE hf with ⟨c13, hf⟩ | ⟨c13, hf⟩
        · refine zx_tsIn (pc := 1) (tg := 74) (z := 73) d_X11_count_1 (by rw [c13]; decide +kernel) (by rw [c13]; decide +kernel) (by rw [c13]; decide +kernel) (by decide) ?_
          refine zv_aload_n (pc := 74) d_X11_count_74 rfl ?_
          obtain ⟨g14, hf⟩ := zw_gcE hf (by decide)
          obtain ⟨g15, hf⟩ := zw_gcE hf (by decide)
          refine zx_getR (pc := 75) d_X11_count_75 lk_CutStonesModel_73 (by decide) g14 g15 ?_
          refine zv_aload_n (pc := 78) d_X11_count_78 rfl ?_
          refine zx_getI (pc := 79) d_X11_count_79 lk_CutStonesModel_248 (by decide) g14 ?_
          obtain ⟨i16, hf⟩ := zw_inE hf
          refine zx_iald (pc := 82) d_X11_count_82 g15 i16 ?_
          cases hf
          exact zx_iret (pc := 83) d_X11_count_83 rfl hk
        ·
          rcases zw_ifE hf with ⟨c17, hf⟩ | ⟨c17, hf⟩
          · refine zx_tsIn (pc := 1) (tg := 84) (z := 83) d_X11_count_1 (by rw [c17]; decide +kernel) (by rw [c17]; decide +kernel) (by rw [c17]; decide +kernel) (by decide) ?_
            refine zv_aload_n (pc := 84) d_X11_count_84 rfl ?_
            obtain ⟨g18, hf⟩ := zw_gcE hf (by decide)
            obtain ⟨g19, hf⟩ := zw_gcE hf (by decide)
            refine zx_getR (pc := 85) d_X11_count_85 lk_CutStonesModel_76 (by decide) g18 g19 ?_
            refine zv_aload_n (pc := 88) d_X11_count_88 rfl ?_
            refine zx_getI (pc := 89) d_X11_count_89 lk_CutStonesModel_248 (by decide) g18 ?_
            obtain ⟨i20, hf⟩ := zw_inE hf
            refine zx_iald (pc := 92) d_X11_count_92 g19 i20 ?_
            cases hf
            exact zx_iret (pc := 93) d_X11_count_93 rfl hk
          ·
            rcases zw_ifE hf with ⟨c21, hf⟩ | ⟨c21, hf⟩
            · refine zx_tsIn (pc := 1) (tg := 94) (z := 93) d_X11_count_1 (by rw [c21]; decide +kernel) (by rw [c21]; decide +kernel) (by rw [c21]; decide +kernel) (by decide) ?_
              refine zv_aload_n (pc := 94) d_X11_count_94 rfl ?_
              obtain ⟨g22, hf⟩ := zw_gcE hf (by decide)
              refine zx_getI (pc := 95) d_X11_count_95 lk_CutStonesModel_273 (by decide) g22 ?_
              cases hf
              exact zx_iret (pc := 98) d_X11_count_98 rfl hk
            ·
              rcases zw_ifE hf with ⟨c23, hf⟩ | ⟨c23, hf⟩
              · refine zx_tsIn (pc := 1) (tg := 99) (z := 98) d_X11_count_1 (by rw [c23]; decide +kernel) (by rw [c23]; decide +kernel) (by rw [c23]; decide +kernel) (by decide) ?_
                refine zv_aload_n (pc := 99) d_X11_count_99 rfl ?_
                obtain ⟨g24, hf⟩ := zw_gcE hf (by decide)
                refine zx_getI (pc := 100) d_X11_count_100 lk_CutStonesModel_177 (by decide) g24 ?_
                cases hf
                exact zx_iret (pc := 103) d_X11_count_103 rfl hk
              ·
                refine zx_tsOut (pc := 1) (tg := 104) d_X11_count_1 (by have c1 := zw_neI c1 (z := 0) (by decide +kernel); have c5 := zw_neI c5 (z := 1) (by decide +kernel); have c9 := zw_neI c9 (z := 2) (by decide +kernel); have c13 := zw_neI c13 (z := 3) (by decide +kernel); have c17 := zw_neI c17 (z := 4) (by decide +kernel); have c21 := zw_neI c21 (z := 5) (by decide +kernel); have c23 := zw_neI c23 (z := 6) (by decide +kernel); omega) (by decide) ?_
                refine zv_iload_n (pc := 104) d_X11_count_104 rfl ?_
                refine zv_bipush (pc := 105) d_X11_count_105 zc_b_10 ?_
                refine zv_idiv (pc := 107) d_X11_count_107 (by decide +kernel) ?_
                obtain ⟨x25, ex25, hf⟩ := zw_letE hf
                refine zx_istore_n (pc := 108) (x2 := x25) (L2 := [.ref v0, .int v1, .int x25, .null]) d_X11_count_108 (by decide) ex25 rfl ?_
                refine zv_iload_n (pc := 109) d_X11_count_109 rfl ?_
                refine zv_bipush (pc := 110) d_X11_count_110 zc_b_10 ?_
                rcases zw_ifE hf with ⟨c26, hf⟩ | ⟨c26, hf⟩
                · refine zv_icmp_lt (pc := 112) (tg := 120) d_X11_count_112 (by decide) (fun _ => ?_) (fun q => absurd c26 q)
                  refine zv_iconst (pc := 120) d_X11_count_120 zc_i_m1 ?_
                  cases hf
                  exact zx_iret (pc := 121) d_X11_count_121 rfl hk
                · refine zv_icmp_lt (pc := 112) (tg := 120) d_X11_count_112 (by decide) (fun q => absurd q c26) (fun _ => ?_)
                  refine zv_iload_n (pc := 115) d_X11_count_115 rfl ?_
                  refine zv_iconst (pc := 116) d_X11_count_116 zc_i_4 ?_
                  rcases zw_ifE hf with ⟨c27, hf⟩ | ⟨c27, hf⟩
                  · refine zv_icmp_le (pc := 117) (tg := 122) d_X11_count_117 (by decide) (fun _ => ?_) (fun q => absurd c27 q)
                    refine zv_iload_n (pc := 122) d_X11_count_122 rfl ?_
                    refine zv_iconst (pc := 123) d_X11_count_123 zc_i_3 ?_
                    rcases zw_ifE hf with ⟨c28, hf⟩ | ⟨c28, hf⟩
                    · refine zv_icmp_ge (pc := 124) (tg := 138) d_X11_count_124 (by decide) (fun _ => ?_) (fun q => absurd c28 q)
                      refine zv_aload_n (pc := 138) d_X11_count_138 rfl ?_
                      refine zv_iload_n (pc := 139) d_X11_count_139 rfl ?_
                      refine zv_bipush (pc := 140) d_X11_count_140 zc_b_10 ?_
                      refine zv_irem (pc := 142) d_X11_count_142 (by decide +kernel) ?_
                      obtain ⟨g29, hf⟩ := zw_gcE hf (by decide)
                      obtain ⟨q30, hq30, hf⟩ := zw_bdE hf
                      refine zx_callV (pc := 143) (As := [.int (v1 - v1 / 10 * 10)]) (o := v0) (st := []) (d2 := 1) (M2 := M_X11_roughRow) (P2 := (fun r S => r = (some (.int q30)) ∧ S = (I, R, J))) d_X11_count_143 (zw_mG (List.mem_of_getElem? (i := 1518) (by decide +kernel)) rfl) ce_X11_roughRow (zw_RvK g29 rfl rfl) (Nat.le_of_ble_eq_true rfl) rfl (Nat.le_of_ble_eq_true rfl) (by decide) (c_X11_roughRow X v0 (v1 - v1 / 10 * 10) I R J _ hq30 ⟨rfl, rfl⟩) ?_
                      rintro _ _ ⟨rfl, rfl⟩
                      show zy_V X M_X11_count 2 P (143 + 3) [.ref v0, .int v1, .int x25, .null] [.int q30] (I, R, J)
                      exact zx_weak (zw_leS (zw_leN (zw_leS (zw_leN zw_leZ)))) (j_X11_count_146_ok X P v0 x25 q30 I R J _ hf hk)
                    · refine zv_icmp_ge (pc := 124) (tg := 138) d_X11_count_124 (by decide) (fun q => absurd q c28) (fun _ => ?_)
                      refine zv_aload_n (pc := 127) d_X11_count_127 rfl ?_
                      refine zv_iload_n (pc := 128) d_X11_count_128 rfl ?_
                      refine zv_bipush (pc := 129) d_X11_count_129 zc_b_10 ?_
                      refine zv_irem (pc := 131) d_X11_count_131 (by decide +kernel) ?_
                      obtain ⟨g39, hf⟩ := zw_gcE hf (by decide)
                      obtain ⟨q40, hq40, hf⟩ := zw_bdE hf
                      refine zx_callV (pc := 132) (As := [.int (v1 - v1 / 10 * 10)]) (o := v0) (st := []) (d2 := 1) (M2 := M_X11_cutRow) (P2 := (fun r S => r = (some (.int q40)) ∧ S = (I, R, J))) d_X11_count_132 (zw_mG (List.mem_of_getElem? (i := 1525) (by decide +kernel)) rfl) ce_X11_cutRow (zw_RvK g39 rfl rfl) (Nat.le_of_ble_eq_true rfl) rfl (Nat.le_of_ble_eq_true rfl) (by decide) (c_X11_cutRow X v0 (v1 - v1 / 10 * 10) I R J _ hq40 ⟨rfl, rfl⟩) ?_
                      rintro _ _ ⟨rfl, rfl⟩
                      show zy_V X M_X11_count 2 P (132 + 3) [.ref v0, .int v1, .int x25, .null] [.int q40] (I, R, J)
                      refine zv_goto (pc := 135) (tg := 146) d_X11_count_135 (by decide) ?_
                      exact zx_weak (zw_leS (zw_leN (zw_leS (zw_leN zw_leZ)))) (j_X11_count_146_ok X P v0 x25 q40 I R J _ hf hk)
                  · refine zv_icmp_le (pc := 117) (tg := 122) d_X11_count_117 (by decide) (fun q => absurd q c27) (fun _ => ?_)
                    refine zv_iconst (pc := 120) d_X11_count_120 zc_i_m1 ?_
                    cases hf
                    exact zx_iret (pc := 121) d_X11_count_121 rfl hk
abbrev M_X11_cut : zw_M := (⟨"CutStonesModel", "cut", "()V"⟩, prog_13_method_12_code, 8, (Option.none : Option Jvm.ClassFile.FieldType))
theorem d_X11_cut_0 : decode M_X11_cut.2.1 0 = .ok (.aload_n 0, 1) := by decide +kernel
theorem d_X11_cut_1 : decode M_X11_cut.2.1 1 = .ok (.iconst 0, 1) := by decide +kernel
theorem d_X11_cut_2 : decode M_X11_cut.2.1 2 = .ok (.putfield 193, 3) := by decide +kernel
theorem d_X11_cut_5 : decode M_X11_cut.2.1 5 = .ok (.iconst 0, 1) := by decide +kernel
theorem d_X11_cut_6 : decode M_X11_cut.2.1 6 = .ok (.istore_n 1, 1) := by decide +kernel
theorem d_X11_cut_7 : decode M_X11_cut.2.1 7 = .ok (.aload_n 0, 1) := by decide +kernel
theorem d_X11_cut_8 : decode M_X11_cut.2.1 8 = .ok (.getfield 193, 3) := by decide +kernel
theorem d_X11_cut_11 : decode M_X11_cut.2.1 11 = .ok (.sipush 500, 3) := by decide +kernel
theorem d_X11_cut_14 : decode M_X11_cut.2.1 14 = .ok (.if_icmp .gt 341, 3) := by decide +kernel
theorem d_X11_cut_17 : decode M_X11_cut.2.1 17 = .ok (.aload_n 0, 1) := by decide +kernel
theorem d_X11_cut_18 : decode M_X11_cut.2.1 18 = .ok (.iload_n 1, 1) := by decide +kernel
theorem d_X11_cut_19 : decode M_X11_cut.2.1 19 = .ok (.invokevirtual 196, 3) := by decide +kernel
theorem d_X11_cut_22 : decode M_X11_cut.2.1 22 = .ok (.istore_n 2, 1) := by decide +kernel
theorem d_X11_cut_23 : decode M_X11_cut.2.1 23 = .ok (.iload_n 1, 1) := by decide +kernel
theorem d_X11_cut_24 : decode M_X11_cut.2.1 24 = .ok (.aload_n 0, 1) := by decide +kernel
theorem d_X11_cut_25 : decode M_X11_cut.2.1 25 = .ok (.getfield 184, 3) := by decide +kernel
theorem d_X11_cut_28 : decode M_X11_cut.2.1 28 = .ok (.if_icmp .lt 15, 3) := by decide +kernel
theorem d_X11_cut_31 : decode M_X11_cut.2.1 31 = .ok (.aload_n 0, 1) := by decide +kernel
theorem d_X11_cut_32 : decode M_X11_cut.2.1 32 = .ok (.iconst 0, 1) := by decide +kernel
theorem d_X11_cut_33 : decode M_X11_cut.2.1 33 = .ok (.aload_n 0, 1) := by decide +kernel
theorem d_X11_cut_34 : decode M_X11_cut.2.1 34 = .ok (.getfield 184, 3) := by decide +kernel
theorem d_X11_cut_37 : decode M_X11_cut.2.1 37 = .ok (.iconst 0, 1) := by decide +kernel
theorem d_X11_cut_38 : decode M_X11_cut.2.1 38 = .ok (.lconst 0, 1) := by decide +kernel
theorem d_X11_cut_39 : decode M_X11_cut.2.1 39 = .ok (.invokevirtual 200, 3) := by decide +kernel
theorem d_X11_cut_42 : decode M_X11_cut.2.1 42 = .ok (.return_, 1) := by decide +kernel
theorem d_X11_cut_43 : decode M_X11_cut.2.1 43 = .ok (.iload_n 2, 1) := by decide +kernel
theorem d_X11_cut_44 : decode M_X11_cut.2.1 44 = .ok (.bipush 9, 2) := by decide +kernel
theorem d_X11_cut_46 : decode M_X11_cut.2.1 46 = .ok (.if_icmp .eq 21, 3) := by decide +kernel
theorem d_X11_cut_49 : decode M_X11_cut.2.1 49 = .ok (.iload_n 2, 1) := by decide +kernel
theorem d_X11_cut_50 : decode M_X11_cut.2.1 50 = .ok (.bipush 10, 2) := by decide +kernel
theorem d_X11_cut_52 : decode M_X11_cut.2.1 52 = .ok (.if_icmp .eq 15, 3) := by decide +kernel
theorem d_X11_cut_55 : decode M_X11_cut.2.1 55 = .ok (.iload_n 2, 1) := by decide +kernel
theorem d_X11_cut_56 : decode M_X11_cut.2.1 56 = .ok (.bipush 13, 2) := by decide +kernel
theorem d_X11_cut_58 : decode M_X11_cut.2.1 58 = .ok (.if_icmp .eq 9, 3) := by decide +kernel
theorem d_X11_cut_61 : decode M_X11_cut.2.1 61 = .ok (.iload_n 2, 1) := by decide +kernel
theorem d_X11_cut_62 : decode M_X11_cut.2.1 62 = .ok (.bipush 32, 2) := by decide +kernel
theorem d_X11_cut_64 : decode M_X11_cut.2.1 64 = .ok (.if_icmp .ne 9, 3) := by decide +kernel
theorem d_X11_cut_67 : decode M_X11_cut.2.1 67 = .ok (.iinc 1 1, 3) := by decide +kernel
theorem d_X11_cut_70 : decode M_X11_cut.2.1 70 = .ok (.goto 282, 3) := by decide +kernel
theorem d_X11_cut_73 : decode M_X11_cut.2.1 73 = .ok (.iload_n 2, 1) := by decide +kernel
theorem d_X11_cut_74 : decode M_X11_cut.2.1 74 = .ok (.invokestatic 204, 3) := by decide +kernel
theorem d_X11_cut_77 : decode M_X11_cut.2.1 77 = .ok (.ifCond .eq 119, 3) := by decide +kernel
theorem d_X11_cut_80 : decode M_X11_cut.2.1 80 = .ok (.iconst 0, 1) := by decide +kernel
theorem d_X11_cut_81 : decode M_X11_cut.2.1 81 = .ok (.istore_n 3, 1) := by decide +kernel
theorem d_X11_cut_82 : decode M_X11_cut.2.1 82 = .ok (.lconst 0, 1) := by decide +kernel
theorem d_X11_cut_83 : decode M_X11_cut.2.1 83 = .ok (.lstore 4, 2) := by decide +kernel
theorem d_X11_cut_85 : decode M_X11_cut.2.1 85 = .ok (.aload_n 0, 1) := by decide +kernel
theorem d_X11_cut_86 : decode M_X11_cut.2.1 86 = .ok (.iload_n 1, 1) := by decide +kernel
theorem d_X11_cut_87 : decode M_X11_cut.2.1 87 = .ok (.iload_n 3, 1) := by decide +kernel
theorem d_X11_cut_88 : decode M_X11_cut.2.1 88 = .ok (.iadd, 1) := by decide +kernel
theorem d_X11_cut_89 : decode M_X11_cut.2.1 89 = .ok (.invokevirtual 196, 3) := by decide +kernel
theorem d_X11_cut_92 : decode M_X11_cut.2.1 92 = .ok (.invokestatic 204, 3) := by decide +kernel
theorem d_X11_cut_95 : decode M_X11_cut.2.1 95 = .ok (.ifCond .eq 29, 3) := by decide +kernel
theorem d_X11_cut_98 : decode M_X11_cut.2.1 98 = .ok (.iload_n 3, 1) := by decide +kernel
theorem d_X11_cut_99 : decode M_X11_cut.2.1 99 = .ok (.bipush 8, 2) := by decide +kernel
theorem d_X11_cut_101 : decode M_X11_cut.2.1 101 = .ok (.if_icmp .ge 17, 3) := by decide +kernel
theorem d_X11_cut_104 : decode M_X11_cut.2.1 104 = .ok (.lload 4, 2) := by decide +kernel
theorem d_X11_cut_106 : decode M_X11_cut.2.1 106 = .ok (.aload_n 0, 1) := by decide +kernel
theorem d_X11_cut_107 : decode M_X11_cut.2.1 107 = .ok (.iload_n 1, 1) := by decide +kernel
theorem d_X11_cut_108 : decode M_X11_cut.2.1 108 = .ok (.iload_n 3, 1) := by decide +kernel
theorem d_X11_cut_109 : decode M_X11_cut.2.1 109 = .ok (.iadd, 1) := by decide +kernel
theorem d_X11_cut_110 : decode M_X11_cut.2.1 110 = .ok (.invokevirtual 196, 3) := by decide +kernel
theorem d_X11_cut_113 : decode M_X11_cut.2.1 113 = .ok (.invokestatic 189, 3) := by decide +kernel
theorem d_X11_cut_116 : decode M_X11_cut.2.1 116 = .ok (.lstore 4, 2) := by decide +kernel
theorem d_X11_cut_118 : decode M_X11_cut.2.1 118 = .ok (.iinc 3 1, 3) := by decide +kernel
theorem d_X11_cut_121 : decode M_X11_cut.2.1 121 = .ok (.goto (-36), 3) := by decide +kernel
theorem d_X11_cut_124 : decode M_X11_cut.2.1 124 = .ok (.iload_n 3, 1) := by decide +kernel
theorem d_X11_cut_125 : decode M_X11_cut.2.1 125 = .ok (.bipush 8, 2) := by decide +kernel
theorem d_X11_cut_127 : decode M_X11_cut.2.1 127 = .ok (.if_icmp .le 7, 3) := by decide +kernel
theorem d_X11_cut_130 : decode M_X11_cut.2.1 130 = .ok (.iconst 3, 1) := by decide +kernel
theorem d_X11_cut_131 : decode M_X11_cut.2.1 131 = .ok (.goto 4, 3) := by decide +kernel
theorem d_X11_cut_134 : decode M_X11_cut.2.1 134 = .ok (.iconst 1, 1) := by decide +kernel
theorem d_X11_cut_135 : decode M_X11_cut.2.1 135 = .ok (.istore 6, 2) := by decide +kernel
theorem d_X11_cut_137 : decode M_X11_cut.2.1 137 = .ok (.iload_n 3, 1) := by decide +kernel
theorem d_X11_cut_138 : decode M_X11_cut.2.1 138 = .ok (.bipush 7, 2) := by decide +kernel
theorem d_X11_cut_140 : decode M_X11_cut.2.1 140 = .ok (.if_icmp .gt 39, 3) := by decide +kernel
theorem d_X11_cut_143 : decode M_X11_cut.2.1 143 = .ok (.iconst 0, 1) := by decide +kernel
theorem d_X11_cut_144 : decode M_X11_cut.2.1 144 = .ok (.istore 7, 2) := by decide +kernel
theorem d_X11_cut_146 : decode M_X11_cut.2.1 146 = .ok (.iload 7, 2) := by decide +kernel
theorem d_X11_cut_148 : decode M_X11_cut.2.1 148 = .ok (.bipush 18, 2) := by decide +kernel
theorem d_X11_cut_150 : decode M_X11_cut.2.1 150 = .ok (.if_icmp .ge 29, 3) := by decide +kernel
theorem d_X11_cut_153 : decode M_X11_cut.2.1 153 = .ok (.aload_n 0, 1) := by decide +kernel
theorem d_X11_cut_154 : decode M_X11_cut.2.1 154 = .ok (.getfield 34, 3) := by decide +kernel
theorem d_X11_cut_157 : decode M_X11_cut.2.1 157 = .ok (.iload 7, 2) := by decide +kernel
theorem d_X11_cut_159 : decode M_X11_cut.2.1 159 = .ok (.laload, 1) := by decide +kernel
theorem d_X11_cut_160 : decode M_X11_cut.2.1 160 = .ok (.lload 4, 2) := by decide +kernel
theorem d_X11_cut_162 : decode M_X11_cut.2.1 162 = .ok (.lcmp, 1) := by decide +kernel
theorem d_X11_cut_163 : decode M_X11_cut.2.1 163 = .ok (.ifCond .ne 10, 3) := by decide +kernel
theorem d_X11_cut_166 : decode M_X11_cut.2.1 166 = .ok (.bipush 20, 2) := by decide +kernel
theorem d_X11_cut_168 : decode M_X11_cut.2.1 168 = .ok (.iload 7, 2) := by decide +kernel
theorem d_X11_cut_170 : decode M_X11_cut.2.1 170 = .ok (.iadd, 1) := by decide +kernel
theorem d_X11_cut_171 : decode M_X11_cut.2.1 171 = .ok (.istore 6, 2) := by decide +kernel
theorem d_X11_cut_173 : decode M_X11_cut.2.1 173 = .ok (.iinc 7 1, 3) := by decide +kernel
theorem d_X11_cut_176 : decode M_X11_cut.2.1 176 = .ok (.goto (-30), 3) := by decide +kernel
theorem d_X11_cut_179 : decode M_X11_cut.2.1 179 = .ok (.aload_n 0, 1) := by decide +kernel
theorem d_X11_cut_180 : decode M_X11_cut.2.1 180 = .ok (.iload 6, 2) := by decide +kernel
theorem d_X11_cut_182 : decode M_X11_cut.2.1 182 = .ok (.iload_n 1, 1) := by decide +kernel
theorem d_X11_cut_183 : decode M_X11_cut.2.1 183 = .ok (.iconst 0, 1) := by decide +kernel
theorem d_X11_cut_184 : decode M_X11_cut.2.1 184 = .ok (.lload 4, 2) := by decide +kernel
theorem d_X11_cut_186 : decode M_X11_cut.2.1 186 = .ok (.invokevirtual 200, 3) := by decide +kernel
theorem d_X11_cut_189 : decode M_X11_cut.2.1 189 = .ok (.iload_n 1, 1) := by decide +kernel
theorem d_X11_cut_190 : decode M_X11_cut.2.1 190 = .ok (.iload_n 3, 1) := by decide +kernel
theorem d_X11_cut_191 : decode M_X11_cut.2.1 191 = .ok (.iadd, 1) := by decide +kernel
theorem d_X11_cut_192 : decode M_X11_cut.2.1 192 = .ok (.istore_n 1, 1) := by decide +kernel
theorem d_X11_cut_193 : decode M_X11_cut.2.1 193 = .ok (.goto 159, 3) := by decide +kernel
theorem d_X11_cut_196 : decode M_X11_cut.2.1 196 = .ok (.iload_n 2, 1) := by decide +kernel
theorem d_X11_cut_197 : decode M_X11_cut.2.1 197 = .ok (.bipush 39, 2) := by decide +kernel
theorem d_X11_cut_199 : decode M_X11_cut.2.1 199 = .ok (.if_icmp .ne 58, 3) := by decide +kernel
theorem d_X11_cut_202 : decode M_X11_cut.2.1 202 = .ok (.iconst 0, 1) := by decide +kernel
theorem d_X11_cut_203 : decode M_X11_cut.2.1 203 = .ok (.istore_n 3, 1) := by decide +kernel
theorem d_X11_cut_204 : decode M_X11_cut.2.1 204 = .ok (.aload_n 0, 1) := by decide +kernel
theorem d_X11_cut_205 : decode M_X11_cut.2.1 205 = .ok (.iload_n 1, 1) := by decide +kernel
theorem d_X11_cut_206 : decode M_X11_cut.2.1 206 = .ok (.iconst 1, 1) := by decide +kernel
theorem d_X11_cut_207 : decode M_X11_cut.2.1 207 = .ok (.iadd, 1) := by decide +kernel
theorem d_X11_cut_208 : decode M_X11_cut.2.1 208 = .ok (.iload_n 3, 1) := by decide +kernel
theorem d_X11_cut_209 : decode M_X11_cut.2.1 209 = .ok (.iadd, 1) := by decide +kernel
theorem d_X11_cut_210 : decode M_X11_cut.2.1 210 = .ok (.invokevirtual 196, 3) := by decide +kernel
theorem d_X11_cut_213 : decode M_X11_cut.2.1 213 = .ok (.invokestatic 208, 3) := by decide +kernel
theorem d_X11_cut_216 : decode M_X11_cut.2.1 216 = .ok (.ifCond .lt 9, 3) := by decide +kernel
theorem d_X11_cut_219 : decode M_X11_cut.2.1 219 = .ok (.iinc 3 1, 3) := by decide +kernel
theorem d_X11_cut_222 : decode M_X11_cut.2.1 222 = .ok (.goto (-18), 3) := by decide +kernel
theorem d_X11_cut_225 : decode M_X11_cut.2.1 225 = .ok (.aload_n 0, 1) := by decide +kernel
theorem d_X11_cut_226 : decode M_X11_cut.2.1 226 = .ok (.iload_n 3, 1) := by decide +kernel
theorem d_X11_cut_227 : decode M_X11_cut.2.1 227 = .ok (.bipush 12, 2) := by decide +kernel
theorem d_X11_cut_229 : decode M_X11_cut.2.1 229 = .ok (.if_icmp .gt 7, 3) := by decide +kernel
theorem d_X11_cut_232 : decode M_X11_cut.2.1 232 = .ok (.iload_n 3, 1) := by decide +kernel
theorem d_X11_cut_233 : decode M_X11_cut.2.1 233 = .ok (.ifCond .ne 7, 3) := by decide +kernel
theorem d_X11_cut_236 : decode M_X11_cut.2.1 236 = .ok (.iconst 3, 1) := by decide +kernel
theorem d_X11_cut_237 : decode M_X11_cut.2.1 237 = .ok (.goto 5, 3) := by decide +kernel
theorem d_X11_cut_240 : decode M_X11_cut.2.1 240 = .ok (.bipush 17, 2) := by decide +kernel
theorem d_X11_cut_242 : decode M_X11_cut.2.1 242 = .ok (.iload_n 1, 1) := by decide +kernel
theorem d_X11_cut_243 : decode M_X11_cut.2.1 243 = .ok (.iload_n 3, 1) := by decide +kernel
theorem d_X11_cut_244 : decode M_X11_cut.2.1 244 = .ok (.lconst 0, 1) := by decide +kernel
theorem d_X11_cut_245 : decode M_X11_cut.2.1 245 = .ok (.invokevirtual 200, 3) := by decide +kernel
theorem d_X11_cut_248 : decode M_X11_cut.2.1 248 = .ok (.iload_n 1, 1) := by decide +kernel
theorem d_X11_cut_249 : decode M_X11_cut.2.1 249 = .ok (.iconst 1, 1) := by decide +kernel
theorem d_X11_cut_250 : decode M_X11_cut.2.1 250 = .ok (.iload_n 3, 1) := by decide +kernel
theorem d_X11_cut_251 : decode M_X11_cut.2.1 251 = .ok (.iadd, 1) := by decide +kernel
theorem d_X11_cut_252 : decode M_X11_cut.2.1 252 = .ok (.iadd, 1) := by decide +kernel
theorem d_X11_cut_253 : decode M_X11_cut.2.1 253 = .ok (.istore_n 1, 1) := by decide +kernel
theorem d_X11_cut_254 : decode M_X11_cut.2.1 254 = .ok (.goto 98, 3) := by decide +kernel
theorem d_X11_cut_257 : decode M_X11_cut.2.1 257 = .ok (.iload_n 2, 1) := by decide +kernel
theorem d_X11_cut_258 : decode M_X11_cut.2.1 258 = .ok (.invokestatic 211, 3) := by decide +kernel
theorem d_X11_cut_261 : decode M_X11_cut.2.1 261 = .ok (.ifCond .eq 75, 3) := by decide +kernel
theorem d_X11_cut_264 : decode M_X11_cut.2.1 264 = .ok (.iconst 0, 1) := by decide +kernel
theorem d_X11_cut_265 : decode M_X11_cut.2.1 265 = .ok (.istore_n 3, 1) := by decide +kernel
theorem d_X11_cut_266 : decode M_X11_cut.2.1 266 = .ok (.iconst 0, 1) := by decide +kernel
theorem d_X11_cut_267 : decode M_X11_cut.2.1 267 = .ok (.istore 4, 2) := by decide +kernel
theorem d_X11_cut_269 : decode M_X11_cut.2.1 269 = .ok (.aload_n 0, 1) := by decide +kernel
theorem d_X11_cut_270 : decode M_X11_cut.2.1 270 = .ok (.iload_n 1, 1) := by decide +kernel
theorem d_X11_cut_271 : decode M_X11_cut.2.1 271 = .ok (.iload_n 3, 1) := by decide +kernel
theorem d_X11_cut_272 : decode M_X11_cut.2.1 272 = .ok (.iadd, 1) := by decide +kernel
theorem d_X11_cut_273 : decode M_X11_cut.2.1 273 = .ok (.invokevirtual 196, 3) := by decide +kernel
theorem d_X11_cut_276 : decode M_X11_cut.2.1 276 = .ok (.invokestatic 211, 3) := by decide +kernel
theorem d_X11_cut_279 : decode M_X11_cut.2.1 279 = .ok (.ifCond .eq 32, 3) := by decide +kernel
theorem d_X11_cut_282 : decode M_X11_cut.2.1 282 = .ok (.iload_n 3, 1) := by decide +kernel
theorem d_X11_cut_283 : decode M_X11_cut.2.1 283 = .ok (.iconst 4, 1) := by decide +kernel
theorem d_X11_cut_284 : decode M_X11_cut.2.1 284 = .ok (.if_icmp .ge 21, 3) := by decide +kernel
theorem d_X11_cut_287 : decode M_X11_cut.2.1 287 = .ok (.bipush 10, 2) := by decide +kernel
theorem d_X11_cut_289 : decode M_X11_cut.2.1 289 = .ok (.iload 4, 2) := by decide +kernel
theorem d_X11_cut_291 : decode M_X11_cut.2.1 291 = .ok (.imul, 1) := by decide +kernel
theorem d_X11_cut_292 : decode M_X11_cut.2.1 292 = .ok (.aload_n 0, 1) := by decide +kernel
theorem d_X11_cut_293 : decode M_X11_cut.2.1 293 = .ok (.iload_n 1, 1) := by decide +kernel
theorem d_X11_cut_294 : decode M_X11_cut.2.1 294 = .ok (.iload_n 3, 1) := by decide +kernel
theorem d_X11_cut_295 : decode M_X11_cut.2.1 295 = .ok (.iadd, 1) := by decide +kernel
theorem d_X11_cut_296 : decode M_X11_cut.2.1 296 = .ok (.invokevirtual 196, 3) := by decide +kernel
theorem d_X11_cut_299 : decode M_X11_cut.2.1 299 = .ok (.iadd, 1) := by decide +kernel
theorem d_X11_cut_300 : decode M_X11_cut.2.1 300 = .ok (.bipush 48, 2) := by decide +kernel
theorem d_X11_cut_302 : decode M_X11_cut.2.1 302 = .ok (.isub, 1) := by decide +kernel
theorem d_X11_cut_303 : decode M_X11_cut.2.1 303 = .ok (.istore 4, 2) := by decide +kernel
theorem d_X11_cut_305 : decode M_X11_cut.2.1 305 = .ok (.iinc 3 1, 3) := by decide +kernel
theorem d_X11_cut_308 : decode M_X11_cut.2.1 308 = .ok (.goto (-39), 3) := by decide +kernel
theorem d_X11_cut_311 : decode M_X11_cut.2.1 311 = .ok (.aload_n 0, 1) := by decide +kernel
theorem d_X11_cut_312 : decode M_X11_cut.2.1 312 = .ok (.iload_n 3, 1) := by decide +kernel
theorem d_X11_cut_313 : decode M_X11_cut.2.1 313 = .ok (.iconst 4, 1) := by decide +kernel
theorem d_X11_cut_314 : decode M_X11_cut.2.1 314 = .ok (.if_icmp .le 7, 3) := by decide +kernel
theorem d_X11_cut_317 : decode M_X11_cut.2.1 317 = .ok (.iconst 3, 1) := by decide +kernel
theorem d_X11_cut_318 : decode M_X11_cut.2.1 318 = .ok (.goto 4, 3) := by decide +kernel
theorem d_X11_cut_321 : decode M_X11_cut.2.1 321 = .ok (.iconst 2, 1) := by decide +kernel
theorem d_X11_cut_322 : decode M_X11_cut.2.1 322 = .ok (.iload_n 1, 1) := by decide +kernel
theorem d_X11_cut_323 : decode M_X11_cut.2.1 323 = .ok (.iload 4, 2) := by decide +kernel
theorem d_X11_cut_325 : decode M_X11_cut.2.1 325 = .ok (.lconst 0, 1) := by decide +kernel
theorem d_X11_cut_326 : decode M_X11_cut.2.1 326 = .ok (.invokevirtual 200, 3) := by decide +kernel
theorem d_X11_cut_329 : decode M_X11_cut.2.1 329 = .ok (.iload_n 1, 1) := by decide +kernel
theorem d_X11_cut_330 : decode M_X11_cut.2.1 330 = .ok (.iload_n 3, 1) := by decide +kernel
theorem d_X11_cut_331 : decode M_X11_cut.2.1 331 = .ok (.iadd, 1) := by decide +kernel
theorem d_X11_cut_332 : decode M_X11_cut.2.1 332 = .ok (.istore_n 1, 1) := by decide +kernel
theorem d_X11_cut_333 : decode M_X11_cut.2.1 333 = .ok (.goto 19, 3) := by decide +kernel
theorem d_X11_cut_336 : decode M_X11_cut.2.1 336 = .ok (.iload_n 1, 1) := by decide +kernel
theorem d_X11_cut_337 : decode M_X11_cut.2.1 337 = .ok (.aload_n 0, 1) := by decide +kernel
theorem d_X11_cut_338 : decode M_X11_cut.2.1 338 = .ok (.iload_n 1, 1) := by decide +kernel
theorem d_X11_cut_339 : decode M_X11_cut.2.1 339 = .ok (.iload_n 2, 1) := by decide +kernel
theorem d_X11_cut_340 : decode M_X11_cut.2.1 340 = .ok (.aload_n 0, 1) := by decide +kernel
theorem d_X11_cut_341 : decode M_X11_cut.2.1 341 = .ok (.iload_n 1, 1) := by decide +kernel
theorem d_X11_cut_342 : decode M_X11_cut.2.1 342 = .ok (.iconst 1, 1) := by decide +kernel
theorem d_X11_cut_343 : decode M_X11_cut.2.1 343 = .ok (.iadd, 1) := by decide +kernel
theorem d_X11_cut_344 : decode M_X11_cut.2.1 344 = .ok (.invokevirtual 196, 3) := by decide +kernel
theorem d_X11_cut_347 : decode M_X11_cut.2.1 347 = .ok (.invokevirtual 214, 3) := by decide +kernel
theorem d_X11_cut_350 : decode M_X11_cut.2.1 350 = .ok (.iadd, 1) := by decide +kernel
theorem d_X11_cut_351 : decode M_X11_cut.2.1 351 = .ok (.istore_n 1, 1) := by decide +kernel
theorem d_X11_cut_352 : decode M_X11_cut.2.1 352 = .ok (.goto (-345), 3) := by decide +kernel
theorem d_X11_cut_355 : decode M_X11_cut.2.1 355 = .ok (.return_, 1) := by decide +kernel
theorem ce_X11_cut : zw_CeV M_X11_cut 0 := ⟨⟨⟨by decide +kernel, by decide +kernel, by decide +kernel⟩, (zw_mG (List.mem_of_getElem? (i := 1420) (by decide +kernel)) rfl), (zw_mG (List.mem_of_getElem? (i := 108) (by decide +kernel)) rfl), by decide, by decide +kernel⟩, (zw_mG (List.mem_of_getElem? (i := 1419) (by decide +kernel)) rfl), (zw_mG (List.mem_of_getElem? (i := 50) (by decide +kernel)) rfl)⟩
def j_X11_cut_352_7 (v0 : Nat) (v1 : Int32) (I : zI) (R : zR) (J : zJ) : Option ((Int32 × zI × zJ) ⊕ ((zI × zJ) ⊕ (zI × zJ))) :=
  some (.inl (v1, I, J))
theorem j_X11_cut_352_7_ok (X : zw_X) (P : Option Value → aS → Prop) (v0 : Nat) (v1 : Int32) (I : zI) (R : zR) (J : zJ) (o : (Int32 × zI × zJ) ⊕ ((zI × zJ) ⊕ (zI × zJ))) (hf : j_X11_cut_352_7 v0 v1 I R J = some o) (hk : (zw_se (fun t => zy_V X M_X11_cut 2 P 7 [.ref v0, .int t.1, .null, .null, .null, .null, .null, .null] [] (t.2.1, R, t.2.2)) (fun r => (zw_se (fun r0 => zy_V X M_X11_cut 2 P 355 [.null, .null, .null, .null, .null, .null, .null, .null] [] (r0.1, R, r0.2)) (fun t0 => zy_V X M_X11_cut 2 P 31 [.ref v0, .null, .null, .null, .null, .null, .null, .null] [] (t0.1, R, t0.2)) r)) o)) : zy_V X M_X11_cut 2 P 352 [.ref v0, .int v1, .null, .null, .null, .null, .null, .null] [] (I, R, J) := by
  unfold j_X11_cut_352_7 at hf
  refine zv_goto (pc := 352) (tg := 7) d_X11_cut_352 (by decide) ?_
  cases hf
  exact zx_weak (zw_leS (zw_leS (zw_leN (zw_leN (zw_leN (zw_leN (zw_leN (zw_leN zw_leZ)))))))) hk
def j_X11_cut_67_7 (v0 : Nat) (v1 : Int32) (I : zI) (R : zR) (J : zJ) : Option ((Int32 × zI × zJ) ⊕ ((zI × zJ) ⊕ (zI × zJ))) :=
  zw_let (v1 + 1 : Int32) fun x8 => (j_X11_cut_352_7 v0 x8 I R J)
theorem j_X11_cut_67_7_ok (X : zw_X) (P : Option Value → aS → Prop) (v0 : Nat) (v1 : Int32) (I : zI) (R : zR) (J : zJ) (o : (Int32 × zI × zJ) ⊕ ((zI × zJ) ⊕ (zI × zJ))) (hf : j_X11_cut_67_7 v0 v1 I R J = some o) (hk : (zw_se (fun t => zy_V X M_X11_cut 2 P 7 [.ref v0, .int t.1, .null, .null, .null, .null, .null, .null] [] (t.2.1, R, t.2.2)) (fun r => (zw_se (fun r0 => zy_V X M_X11_cut 2 P 355 [.null, .null, .null, .null, .null, .null, .null, .null] [] (r0.1, R, r0.2)) (fun t0 => zy_V X M_X11_cut 2 P 31 [.ref v0, .null, .null, .null, .null, .null, .null, .null] [] (t0.1, R, t0.2)) r)) o)) : zy_V X M_X11_cut 2 P 67 [.ref v0, .int v1, .null, .null, .null, .null, .null, .null] [] (I, R, J) := by
  unfold j_X11_cut_67_7 at hf
  obtain ⟨x8, ex8, hf⟩ := zw_letE hf
  refine zx_iinc (pc := 67) (x2 := x8) (L2 := [.ref v0, .int x8, .null, .null, .null, .null, .null, .null]) d_X11_cut_67 (by decide) rfl zc_i_1 ex8 rfl ?_
  refine zv_goto (pc := 70) (tg := 352) d_X11_cut_70 (by decide) ?_
  exact zx_weak (zw_leS (zw_leS (zw_leN (zw_leN (zw_leN (zw_leN (zw_leN (zw_leN zw_leZ)))))))) (j_X11_cut_352_7_ok X P v0 x8 I R J _ hf hk)
def j_X11_cut_305_269 (v0 : Nat) (v1 : Int32) (v3 : Int32) (v4 : Int32) (I : zI) (R : zR) (J : zJ) : Option ((Int32 × Int32) ⊕ (Int32 × Int32)) :=
  zw_let (v3 + 1 : Int32) fun x25 => (some (.inl (x25, v4)))
theorem j_X11_cut_305_269_ok (X : zw_X) (P : Option Value → aS → Prop) (v0 : Nat) (v1 : Int32) (v3 : Int32) (v4 : Int32) (I : zI) (R : zR) (J : zJ) (o : (Int32 × Int32) ⊕ (Int32 × Int32)) (hf : j_X11_cut_305_269 v0 v1 v3 v4 I R J = some o) (hk : (zw_se (fun t => zy_V X M_X11_cut 2 P 269 [.ref v0, .int v1, .null, .int t.1, .int t.2, .null, .null, .null] [] (I, R, J)) (fun r => zy_V X M_X11_cut 2 P 311 [.ref v0, .int v1, .null, .int r.1, .int r.2, .null, .null, .null] [] (I, R, J)) o)) : zy_V X M_X11_cut 2 P 305 [.ref v0, .int v1, .null, .int v3, .int v4, .null, .null, .null] [] (I, R, J) := by
  unfold j_X11_cut_305_269 at hf
  obtain ⟨x25, ex25, hf⟩ := zw_letE hf
  refine zx_iinc (pc := 305) (x2 := x25) (L2 := [.ref v0, .int v1, .null, .int x25, .int v4, .null, .null, .null]) d_X11_cut_305 (by decide) rfl zc_i_1 ex25 rfl ?_
  refine zv_goto (pc := 308) (tg := 269) d_X11_cut_308 (by decide) ?_
  cases hf
  exact zx_weak (zw_leS (zw_leS (zw_leN (zw_leS (zw_leS (zw_leN (zw_leN (zw_leN zw_leZ)))))))) hk
def s_X11_cut_269 (v0 : Nat) (v1 : Int32) (I : zI) (R : zR) (J : zJ) (s : Int32 × Int32) : Option ((Int32 × Int32) ⊕ (Int32 × Int32)) :=
  zw_g (zw_gc v0 11) ((f_X11_byteAt v0 (v1 + s.1) I R).bind fun q21 => ((f_X11_isDigit q21).bind fun q22 => (if q22 = 0 then some (.inr (s.1, s.2)) else if 4 ≤ s.1 then j_X11_cut_305_269 v0 v1 s.1 s.2 I R J else (f_X11_byteAt v0 (v1 + s.1) I R).bind fun q26 => (zw_let ((((10 * s.2) + q26) - 48) : Int32) fun x27 => (j_X11_cut_305_269 v0 v1 s.1 x27 I R J)))))
theorem s_X11_cut_269_ok (X : zw_X) (P : Option Value → aS → Prop) (v0 : Nat) (v1 : Int32) (I : zI) (R : zR) (J : zJ) (s : Int32 × Int32) (o : (Int32 × Int32) ⊕ (Int32 × Int32)) (hf : s_X11_cut_269 v0 v1 I R J s = some o) (hk : (zw_se (fun t => zy_V X M_X11_cut 2 P 269 [.ref v0, .int v1, .null, .int t.1, .int t.2, .null, .null, .null] [] (I, R, J)) (fun r => zy_V X M_X11_cut 2 P 311 [.ref v0, .int v1, .null, .int r.1, .int r.2, .null, .null, .null] [] (I, R, J)) o)) : zy_V X M_X11_cut 2 P 269 [.ref v0, .int v1, .null, .int s.1, .int s.2, .null, .null, .null] [] (I, R, J) := by
  unfold s_X11_cut_269 at hf
  refine zv_aload_n (pc := 269) d_X11_cut_269 rfl ?_
  refine zv_iload_n (pc := 270) d_X11_cut_270 rfl ?_
  refine zv_iload_n (pc := 271) d_X11_cut_271 rfl ?_
  refine zv_iadd (pc := 272) d_X11_cut_272 ?_
  obtain ⟨g20, hf⟩ := zw_gcE hf (by decide)
  obtain ⟨q21, hq21, hf⟩ := zw_bdE hf
  refine zx_callV (pc := 273) (As := [.int (v1 + s.1)]) (o := v0) (st := []) (d2 := 0) (M2 := M_X11_byteAt) (P2 := (fun r S => r = (some (.int q21)) ∧ S = (I, R, J))) d_X11_cut_273 (zw_mG (List.mem_of_getElem? (i := 1421) (by decide +kernel)) rfl) ce_X11_byteAt (zw_RvK g20 rfl rfl) (Nat.le_of_ble_eq_true rfl) rfl (Nat.le_of_ble_eq_true rfl) (by decide) (c_X11_byteAt X v0 (v1 + s.1) I R J _ hq21 ⟨rfl, rfl⟩) ?_
  rintro _ _ ⟨rfl, rfl⟩
  show zy_V X M_X11_cut 2 P (273 + 3) [.ref v0, .int v1, .null, .int s.1, .int s.2, .null, .null, .null] [.int q21] (I, R, J)
  obtain ⟨q22, hq22, hf⟩ := zw_bdE hf
  refine zx_callS (pc := 276) (As := [.int q21]) (st := []) (d2 := 0) (M2 := M_X11_isDigit) (P2 := (fun r S => r = (some (.int q22)) ∧ S = (I, R, J))) d_X11_cut_276 (zw_mG (List.mem_of_getElem? (i := 1435) (by decide +kernel)) rfl) ce_X11_isDigit (Nat.le_of_ble_eq_true rfl) rfl (Nat.le_of_ble_eq_true rfl) (by decide) (c_X11_isDigit X q21 I R J _ hq22 ⟨rfl, rfl⟩) ?_
  rintro _ _ ⟨rfl, rfl⟩
  show zy_V X M_X11_cut 2 P (276 + 3) [.ref v0, .int v1, .null, .int s.1, .int s.2, .null, .null, .null] [.int q22] (I, R, J)
  rcases zw_ifE hf with ⟨c23, hf⟩ | ⟨c23, hf⟩
  · refine zv_if_eq (pc := 279) (tg := 311) d_X11_cut_279 (by decide) (fun _ => ?_) (fun q => absurd c23 q)
    cases hf
    exact zx_weak (zw_leS (zw_leS (zw_leN (zw_leS (zw_leS (zw_leN (zw_leN (zw_leN zw_leZ)))))))) hk
  · refine zv_if_eq (pc := 279) (tg := 311) d_X11_cut_279 (by decide) (fun q => absurd q c23) (fun _ => ?_)
    refine zv_iload_n (pc := 282) d_X11_cut_282 rfl ?_
    refine zv_iconst (pc := 283) d_X11_cut_283 zc_i_4 ?_
    rcases zw_ifE hf with ⟨c24, hf⟩ | ⟨c24, hf⟩
    · refine zv_icmp_ge (pc := 284) (tg := 305) d_X11_cut_284 (by decide) (fun _ => ?_) (fun q => absurd c24 q)
      exact zx_weak (zw_leS (zw_leS (zw_leN (zw_leS (zw_leS (zw_leN (zw_leN (zw_leN zw_leZ)))))))) (j_X11_cut_305_269_ok X P v0 v1 s.1 s.2 I R J _ hf hk)
    · refine zv_icmp_ge (pc := 284) (tg := 305) d_X11_cut_284 (by decide) (fun q => absurd q c24) (fun _ => ?_)
      refine zv_bipush (pc := 287) d_X11_cut_287 zc_b_10 ?_
      refine zv_iload (pc := 289) d_X11_cut_289 rfl ?_
      refine zv_imul (pc := 291) d_X11_cut_291 ?_
      refine zv_aload_n (pc := 292) d_X11_cut_292 rfl ?_
      refine zv_iload_n (pc := 293) d_X11_cut_293 rfl ?_
      refine zv_iload_n (pc := 294) d_X11_cut_294 rfl ?_
      refine zv_iadd (pc := 295) d_X11_cut_295 ?_
      obtain ⟨q26, hq26, hf⟩ := zw_bdE hf
      refine zx_callV (pc := 296) (As := [.int (v1 + s.1)]) (o := v0) (st := [.int (10 * s.2)]) (d2 := 0) (M2 := M_X11_byteAt) (P2 := (fun r S => r = (some (.int q26)) ∧ S = (I, R, J))) d_X11_cut_296 (zw_mG (List.mem_of_getElem? (i := 1421) (by decide +kernel)) rfl) ce_X11_byteAt (zw_RvK g20 rfl rfl) (Nat.le_of_ble_eq_true rfl) rfl (Nat.le_of_ble_eq_true rfl) (by decide) (c_X11_byteAt X v0 (v1 + s.1) I R J _ hq26 ⟨rfl, rfl⟩) ?_
      rintro _ _ ⟨rfl, rfl⟩
      show zy_V X M_X11_cut 2 P (296 + 3) [.ref v0, .int v1, .null, .int s.1, .int s.2, .null, .null, .null] [.int q26, .int (10 * s.2)] (I, R, J)
      refine zv_iadd (pc := 299) d_X11_cut_299 ?_
      refine zv_bipush (pc := 300) d_X11_cut_300 zc_b_48 ?_
      refine zv_isub (pc := 302) d_X11_cut_302 ?_
      obtain ⟨x27, ex27, hf⟩ := zw_letE hf
      refine zx_istore (pc := 303) (x2 := x27) (L2 := [.ref v0, .int v1, .null, .int s.1, .int x27, .null, .null, .null]) d_X11_cut_303 (by decide) ex27 rfl ?_
      exact zx_weak (zw_leS (zw_leS (zw_leN (zw_leS (zw_leS (zw_leN (zw_leN (zw_leN zw_leZ)))))))) (j_X11_cut_305_269_ok X P v0 v1 s.1 x27 I R J _ hf hk)
theorem s_X11_cut_269_lp (X : zw_X) (P : Option Value → aS → Prop) (v0 : Nat) (v1 : Int32) (I : zI) (R : zR) (J : zJ) (n : Nat) (s : Int32 × Int32) (r : Int32 × Int32) (h : zw_it (s_X11_cut_269 v0 v1 I R J) n s = some r) (hq : zy_V X M_X11_cut 2 P 311 [.ref v0, .int v1, .null, .int r.1, .int r.2, .null, .null, .null] [] (I, R, J)) : zy_V X M_X11_cut 2 P 269 [.ref v0, .int v1, .null, .int s.1, .int s.2, .null, .null, .null] [] (I, R, J) :=
  zw_itE (A := (fun t : Int32 × Int32 => zy_V X M_X11_cut 2 P 269 [.ref v0, .int v1, .null, .int t.1, .int t.2, .null, .null, .null] [] (I, R, J))) (Q := (fun r : Int32 × Int32 => zy_V X M_X11_cut 2 P 311 [.ref v0, .int v1, .null, .int r.1, .int r.2, .null, .null, .null] [] (I, R, J))) (fun s o h1 h2 => s_X11_cut_269_ok X P v0 v1 I R J s o h1 h2) n s r h hq
def j_X11_cut_322_7 (v0 : Nat) (v1 : Int32) (v3 : Int32) (v4 : Int32) (s0 : Nat) (s1 : Int32) (I : zI) (R : zR) (J : zJ) : Option ((Int32 × zI × zJ) ⊕ ((zI × zJ) ⊕ (zI × zJ))) :=
  zw_g (zw_gc s0 11) ((f_X11_token s0 s1 v1 v4 0 I R J).bind fun q31 => (zw_let ((v1 + v3) : Int32) fun x32 => (j_X11_cut_352_7 v0 x32 q31.1 R q31.2)))
theorem j_X11_cut_322_7_ok (X : zw_X) (P : Option Value → aS → Prop) (v0 : Nat) (v1 : Int32) (v3 : Int32) (v4 : Int32) (s0 : Nat) (s1 : Int32) (I : zI) (R : zR) (J : zJ) (o : (Int32 × zI × zJ) ⊕ ((zI × zJ) ⊕ (zI × zJ))) (hf : j_X11_cut_322_7 v0 v1 v3 v4 s0 s1 I R J = some o) (hk : (zw_se (fun t => zy_V X M_X11_cut 2 P 7 [.ref v0, .int t.1, .null, .null, .null, .null, .null, .null] [] (t.2.1, R, t.2.2)) (fun r => (zw_se (fun r0 => zy_V X M_X11_cut 2 P 355 [.null, .null, .null, .null, .null, .null, .null, .null] [] (r0.1, R, r0.2)) (fun t0 => zy_V X M_X11_cut 2 P 31 [.ref v0, .null, .null, .null, .null, .null, .null, .null] [] (t0.1, R, t0.2)) r)) o)) : zy_V X M_X11_cut 2 P 322 [.ref v0, .int v1, .null, .int v3, .int v4, .null, .null, .null] [.int s1, .ref s0] (I, R, J) := by
  unfold j_X11_cut_322_7 at hf
  refine zv_iload_n (pc := 322) d_X11_cut_322 rfl ?_
  refine zv_iload (pc := 323) d_X11_cut_323 rfl ?_
  refine zv_lconst (pc := 325) d_X11_cut_325 zc_l_0 ?_
  obtain ⟨g30, hf⟩ := zw_gcE hf (by decide)
  obtain ⟨q31, hq31, hf⟩ := zw_bdE hf
  refine zx_callV (pc := 326) (As := [.int s1, .int v1, .int v4, .long 0]) (o := s0) (st := []) (d2 := 0) (M2 := M_X11_token) (P2 := (fun r S => r = none ∧ S = (q31.1, R, q31.2))) d_X11_cut_326 (zw_mG (List.mem_of_getElem? (i := 1425) (by decide +kernel)) rfl) ce_X11_token (zw_RvK g30 rfl rfl) (Nat.le_of_ble_eq_true rfl) rfl (Nat.le_of_ble_eq_true rfl) (by decide) (c_X11_token X s0 s1 v1 v4 0 I R J _ hq31 ⟨rfl, rfl⟩) ?_
  rintro _ _ ⟨rfl, rfl⟩
  show zy_V X M_X11_cut 2 P (326 + 3) [.ref v0, .int v1, .null, .int v3, .int v4, .null, .null, .null] [] (q31.1, R, q31.2)
  refine zv_iload_n (pc := 329) d_X11_cut_329 rfl ?_
  refine zv_iload_n (pc := 330) d_X11_cut_330 rfl ?_
  refine zv_iadd (pc := 331) d_X11_cut_331 ?_
  obtain ⟨x32, ex32, hf⟩ := zw_letE hf
  refine zx_istore_n (pc := 332) (x2 := x32) (L2 := [.ref v0, .int x32, .null, .int v3, .int v4, .null, .null, .null]) d_X11_cut_332 (by decide) ex32 rfl ?_
  refine zv_goto (pc := 333) (tg := 352) d_X11_cut_333 (by decide) ?_
  exact zx_weak (zw_leS (zw_leS (zw_leN (zw_leN (zw_leN (zw_leN (zw_leN (zw_leN zw_leZ)))))))) (j_X11_cut_352_7_ok X P v0 x32 q31.1 R q31.2 _ hf hk)
def s_X11_cut_204 (v0 : Nat) (v1 : Int32) (I : zI) (R : zR) (J : zJ) (s : Int32) : Option ((Int32) ⊕ (Int32)) :=
  zw_g (zw_gc v0 11) ((f_X11_byteAt v0 ((v1 + 1) + s) I R).bind fun q34 => ((f_X11_cellOf q34).bind fun q35 => (if q35 < 0 then some (.inr s) else zw_let (s + 1 : Int32) fun x37 => (some (.inl x37)))))
theorem s_X11_cut_204_ok (X : zw_X) (P : Option Value → aS → Prop) (v0 : Nat) (v1 : Int32) (I : zI) (R : zR) (J : zJ) (s : Int32) (o : (Int32) ⊕ (Int32)) (hf : s_X11_cut_204 v0 v1 I R J s = some o) (hk : (zw_se (fun t => zy_V X M_X11_cut 2 P 204 [.ref v0, .int v1, .null, .int t, .null, .null, .null, .null] [] (I, R, J)) (fun r => zy_V X M_X11_cut 2 P 225 [.ref v0, .int v1, .null, .int r, .null, .null, .null, .null] [] (I, R, J)) o)) : zy_V X M_X11_cut 2 P 204 [.ref v0, .int v1, .null, .int s, .null, .null, .null, .null] [] (I, R, J) := by
  unfold s_X11_cut_204 at hf
  refine zv_aload_n (pc := 204) d_X11_cut_204 rfl ?_
  refine zv_iload_n (pc := 205) d_X11_cut_205 rfl ?_
  refine zv_iconst (pc := 206) d_X11_cut_206 zc_i_1 ?_
  refine zv_iadd (pc := 207) d_X11_cut_207 ?_
  refine zv_iload_n (pc := 208) d_X11_cut_208 rfl ?_
  refine zv_iadd (pc := 209) d_X11_cut_209 ?_
  obtain ⟨g33, hf⟩ := zw_gcE hf (by decide)
  obtain ⟨q34, hq34, hf⟩ := zw_bdE hf
  refine zx_callV (pc := 210) (As := [.int ((v1 + 1) + s)]) (o := v0) (st := []) (d2 := 0) (M2 := M_X11_byteAt) (P2 := (fun r S => r = (some (.int q34)) ∧ S = (I, R, J))) d_X11_cut_210 (zw_mG (List.mem_of_getElem? (i := 1421) (by decide +kernel)) rfl) ce_X11_byteAt (zw_RvK g33 rfl rfl) (Nat.le_of_ble_eq_true rfl) rfl (Nat.le_of_ble_eq_true rfl) (by decide) (c_X11_byteAt X v0 ((v1 + 1) + s) I R J _ hq34 ⟨rfl, rfl⟩) ?_
  rintro _ _ ⟨rfl, rfl⟩
  show zy_V X M_X11_cut 2 P (210 + 3) [.ref v0, .int v1, .null, .int s, .null, .null, .null, .null] [.int q34] (I, R, J)
  obtain ⟨q35, hq35, hf⟩ := zw_bdE hf
  refine zx_callS (pc := 213) (As := [.int q34]) (st := []) (d2 := 0) (M2 := M_X11_cellOf) (P2 := (fun r S => r = (some (.int q35)) ∧ S = (I, R, J))) d_X11_cut_213 (zw_mG (List.mem_of_getElem? (i := 1432) (by decide +kernel)) rfl) ce_X11_cellOf (Nat.le_of_ble_eq_true rfl) rfl (Nat.le_of_ble_eq_true rfl) (by decide) (c_X11_cellOf X q34 I R J _ hq35 ⟨rfl, rfl⟩) ?_
  rintro _ _ ⟨rfl, rfl⟩
  show zy_V X M_X11_cut 2 P (213 + 3) [.ref v0, .int v1, .null, .int s, .null, .null, .null, .null] [.int q35] (I, R, J)
  rcases zw_ifE hf with ⟨c36, hf⟩ | ⟨c36, hf⟩
  · refine zv_if_lt (pc := 216) (tg := 225) d_X11_cut_216 (by decide) (fun _ => ?_) (fun q => absurd c36 q)
    cases hf
    exact zx_weak (zw_leS (zw_leS (zw_leN (zw_leS (zw_leN (zw_leN (zw_leN (zw_leN zw_leZ)))))))) hk
  · refine zv_if_lt (pc := 216) (tg := 225) d_X11_cut_216 (by decide) (fun q => absurd q c36) (fun _ => ?_)
    obtain ⟨x37, ex37, hf⟩ := zw_letE hf
    refine zx_iinc (pc := 219) (x2 := x37) (L2 := [.ref v0, .int v1, .null, .int x37, .null, .null, .null, .null]) d_X11_cut_219 (by decide) rfl zc_i_1 ex37 rfl ?_
    refine zv_goto (pc := 222) (tg := 204) d_X11_cut_222 (by decide) ?_
    cases hf
    exact zx_weak (zw_leS (zw_leS (zw_leN (zw_leS (zw_leN (zw_leN (zw_leN (zw_leN zw_leZ)))))))) hk
theorem s_X11_cut_204_lp (X : zw_X) (P : Option Value → aS → Prop) (v0 : Nat) (v1 : Int32) (I : zI) (R : zR) (J : zJ) (n : Nat) (s : Int32) (r : Int32) (h : zw_it (s_X11_cut_204 v0 v1 I R J) n s = some r) (hq : zy_V X M_X11_cut 2 P 225 [.ref v0, .int v1, .null, .int r, .null, .null, .null, .null] [] (I, R, J)) : zy_V X M_X11_cut 2 P 204 [.ref v0, .int v1, .null, .int s, .null, .null, .null, .null] [] (I, R, J) :=
  zw_itE (A := (fun t : Int32 => zy_V X M_X11_cut 2 P 204 [.ref v0, .int v1, .null, .int t, .null, .null, .null, .null] [] (I, R, J))) (Q := (fun r : Int32 => zy_V X M_X11_cut 2 P 225 [.ref v0, .int v1, .null, .int r, .null, .null, .null, .null] [] (I, R, J))) (fun s o h1 h2 => s_X11_cut_204_ok X P v0 v1 I R J s o h1 h2) n s r h hq
def j_X11_cut_242_7 (v0 : Nat) (v1 : Int32) (v3 : Int32) (s0 : Nat) (s1 : Int32) (I : zI) (R : zR) (J : zJ) : Option ((Int32 × zI × zJ) ⊕ ((zI × zJ) ⊕ (zI × zJ))) :=
  zw_g (zw_gc s0 11) ((f_X11_token s0 s1 v1 v3 0 I R J).bind fun q41 => (zw_let ((v1 + (1 + v3)) : Int32) fun x42 => (j_X11_cut_352_7 v0 x42 q41.1 R q41.2)))
theorem j_X11_cut_242_7_ok (X : zw_X) (P : Option Value → aS → Prop) (v0 : Nat) (v1 : Int32) (v3 : Int32) (s0 : Nat) (s1 : Int32) (I : zI) (R : zR) (J : zJ) (o : (Int32 × zI × zJ) ⊕ ((zI × zJ) ⊕ (zI × zJ))) (hf : j_X11_cut_242_7 v0 v1 v3 s0 s1 I R J = some o) (hk : (zw_se (fun t => zy_V X M_X11_cut 2 P 7 [.ref v0, .int t.1, .null, .null, .null, .null, .null, .null] [] (t.2.1, R, t.2.2)) (fun r => (zw_se (fun r0 => zy_V X M_X11_cut 2 P 355 [.null, .null, .null, .null, .null, .null, .null, .null] [] (r0.1, R, r0.2)) (fun t0 => zy_V X M_X11_cut 2 P 31 [.ref v0, .null, .null, .null, .null, .null, .null, .null] [] (t0.1, R, t0.2)) r)) o)) : zy_V X M_X11_cut 2 P 242 [.ref v0, .int v1, .null, .int v3, .null, .null, .null, .null] [.int s1, .ref s0] (I, R, J) := by
  unfold j_X11_cut_242_7 at hf
  refine zv_iload_n (pc := 242) d_X11_cut_242 rfl ?_
  refine zv_iload_n (pc := 243) d_X11_cut_243 rfl ?_
  refine zv_lconst (pc := 244) d_X11_cut_244 zc_l_0 ?_
  obtain ⟨g40, hf⟩ := zw_gcE hf (by decide)
  obtain ⟨q41, hq41, hf⟩ := zw_bdE hf
  refine zx_callV (pc := 245) (As := [.int s1, .int v1, .int v3, .long 0]) (o := s0) (st := []) (d2 := 0) (M2 := M_X11_token) (P2 := (fun r S => r = none ∧ S = (q41.1, R, q41.2))) d_X11_cut_245 (zw_mG (List.mem_of_getElem? (i := 1425) (by decide +kernel)) rfl) ce_X11_token (zw_RvK g40 rfl rfl) (Nat.le_of_ble_eq_true rfl) rfl (Nat.le_of_ble_eq_true rfl) (by decide) (c_X11_token X s0 s1 v1 v3 0 I R J _ hq41 ⟨rfl, rfl⟩) ?_
  rintro _ _ ⟨rfl, rfl⟩
  show zy_V X M_X11_cut 2 P (245 + 3) [.ref v0, .int v1, .null, .int v3, .null, .null, .null, .null] [] (q41.1, R, q41.2)
  refine zv_iload_n (pc := 248) d_X11_cut_248 rfl ?_
  refine zv_iconst (pc := 249) d_X11_cut_249 zc_i_1 ?_
  refine zv_iload_n (pc := 250) d_X11_cut_250 rfl ?_
  refine zv_iadd (pc := 251) d_X11_cut_251 ?_
  refine zv_iadd (pc := 252) d_X11_cut_252 ?_
  obtain ⟨x42, ex42, hf⟩ := zw_letE hf
  refine zx_istore_n (pc := 253) (x2 := x42) (L2 := [.ref v0, .int x42, .null, .int v3, .null, .null, .null, .null]) d_X11_cut_253 (by decide) ex42 rfl ?_
  refine zv_goto (pc := 254) (tg := 352) d_X11_cut_254 (by decide) ?_
  exact zx_weak (zw_leS (zw_leS (zw_leN (zw_leN (zw_leN (zw_leN (zw_leN (zw_leN zw_leZ)))))))) (j_X11_cut_352_7_ok X P v0 x42 q41.1 R q41.2 _ hf hk)
def j_X11_cut_236_7 (v0 : Nat) (v1 : Int32) (v3 : Int32) (s0 : Nat) (I : zI) (R : zR) (J : zJ) : Option ((Int32 × zI × zJ) ⊕ ((zI × zJ) ⊕ (zI × zJ))) :=
  j_X11_cut_242_7 v0 v1 v3 s0 3 I R J
theorem j_X11_cut_236_7_ok (X : zw_X) (P : Option Value → aS → Prop) (v0 : Nat) (v1 : Int32) (v3 : Int32) (s0 : Nat) (I : zI) (R : zR) (J : zJ) (o : (Int32 × zI × zJ) ⊕ ((zI × zJ) ⊕ (zI × zJ))) (hf : j_X11_cut_236_7 v0 v1 v3 s0 I R J = some o) (hk : (zw_se (fun t => zy_V X M_X11_cut 2 P 7 [.ref v0, .int t.1, .null, .null, .null, .null, .null, .null] [] (t.2.1, R, t.2.2)) (fun r => (zw_se (fun r0 => zy_V X M_X11_cut 2 P 355 [.null, .null, .null, .null, .null, .null, .null, .null] [] (r0.1, R, r0.2)) (fun t0 => zy_V X M_X11_cut 2 P 31 [.ref v0, .null, .null, .null, .null, .null, .null, .null] [] (t0.1, R, t0.2)) r)) o)) : zy_V X M_X11_cut 2 P 236 [.ref v0, .int v1, .null, .int v3, .null, .null, .null, .null] [.ref s0] (I, R, J) := by
  unfold j_X11_cut_236_7 at hf
  refine zv_iconst (pc := 236) d_X11_cut_236 zc_i_3 ?_
  refine zv_goto (pc := 237) (tg := 242) d_X11_cut_237 (by decide) ?_
  exact zx_weak (zw_leS (zw_leS (zw_leN (zw_leS (zw_leN (zw_leN (zw_leN (zw_leN zw_leZ)))))))) (j_X11_cut_242_7_ok X P v0 v1 v3 s0 3 I R J _ hf hk)
def j_X11_cut_118_85 (v0 : Nat) (v1 : Int32) (v3 : Int32) (v4 : Int64) (I : zI) (R : zR) (J : zJ) : Option ((Int32 × Int64) ⊕ (Int32 × Int64)) :=
  zw_let (v3 + 1 : Int32) fun x49 => (some (.inl (x49, v4)))
theorem j_X11_cut_118_85_ok (X : zw_X) (P : Option Value → aS → Prop) (v0 : Nat) (v1 : Int32) (v3 : Int32) (v4 : Int64) (I : zI) (R : zR) (J : zJ) (o : (Int32 × Int64) ⊕ (Int32 × Int64)) (hf : j_X11_cut_118_85 v0 v1 v3 v4 I R J = some o) (hk : (zw_se (fun t => zy_V X M_X11_cut 2 P 85 [.ref v0, .int v1, .null, .int t.1, .long t.2, .null, .null, .null] [] (I, R, J)) (fun r => zy_V X M_X11_cut 2 P 124 [.ref v0, .int v1, .null, .int r.1, .long r.2, .null, .null, .null] [] (I, R, J)) o)) : zy_V X M_X11_cut 2 P 118 [.ref v0, .int v1, .null, .int v3, .long v4, .null, .null, .null] [] (I, R, J) := by
  unfold j_X11_cut_118_85 at hf
  obtain ⟨x49, ex49, hf⟩ := zw_letE hf
  refine zx_iinc (pc := 118) (x2 := x49) (L2 := [.ref v0, .int v1, .null, .int x49, .long v4, .null, .null, .null]) d_X11_cut_118 (by decide) rfl zc_i_1 ex49 rfl ?_
  refine zv_goto (pc := 121) (tg := 85) d_X11_cut_121 (by decide) ?_
  cases hf
  exact zx_weak (zw_leS (zw_leS (zw_leN (zw_leS (zw_leS (zw_leN (zw_leN (zw_leN zw_leZ)))))))) hk
def s_X11_cut_85 (v0 : Nat) (v1 : Int32) (I : zI) (R : zR) (J : zJ) (s : Int32 × Int64) : Option ((Int32 × Int64) ⊕ (Int32 × Int64)) :=
  zw_g (zw_gc v0 11) ((f_X11_byteAt v0 (v1 + s.1) I R).bind fun q45 => ((f_X11_isLetter q45).bind fun q46 => (if q46 = 0 then some (.inr (s.1, s.2)) else if 8 ≤ s.1 then j_X11_cut_118_85 v0 v1 s.1 s.2 I R J else (f_X11_byteAt v0 (v1 + s.1) I R).bind fun q50 => ((f_X11_more s.2 q50).bind fun q51 => (j_X11_cut_118_85 v0 v1 s.1 q51 I R J)))))
theorem s_X11_cut_85_ok (X : zw_X) (P : Option Value → aS → Prop) (v0 : Nat) (v1 : Int32) (I : zI) (R : zR) (J : zJ) (s : Int32 × Int64) (o : (Int32 × Int64) ⊕ (Int32 × Int64)) (hf : s_X11_cut_85 v0 v1 I R J s = some o) (hk : (zw_se (fun t => zy_V X M_X11_cut 2 P 85 [.ref v0, .int v1, .null, .int t.1, .long t.2, .null, .null, .null] [] (I, R, J)) (fun r => zy_V X M_X11_cut 2 P 124 [.ref v0, .int v1, .null, .int r.1, .long r.2, .null, .null, .null] [] (I, R, J)) o)) : zy_V X M_X11_cut 2 P 85 [.ref v0, .int v1, .null, .int s.1, .long s.2, .null, .null, .null] [] (I, R, J) := by
  unfold s_X11_cut_85 at hf
  refine zv_aload_n (pc := 85) d_X11_cut_85 rfl ?_
  refine zv_iload_n (pc := 86) d_X11_cut_86 rfl ?_
  refine zv_iload_n (pc := 87) d_X11_cut_87 rfl ?_
  refine zv_iadd (pc := 88) d_X11_cut_88 ?_
  obtain ⟨g44, hf⟩ := zw_gcE hf (by decide)
  obtain ⟨q45, hq45, hf⟩ := zw_bdE hf
  refine zx_callV (pc := 89) (As := [.int (v1 + s.1)]) (o := v0) (st := []) (d2 := 0) (M2 := M_X11_byteAt) (P2 := (fun r S => r = (some (.int q45)) ∧ S = (I, R, J))) d_X11_cut_89 (zw_mG (List.mem_of_getElem? (i := 1421) (by decide +kernel)) rfl) ce_X11_byteAt (zw_RvK g44 rfl rfl) (Nat.le_of_ble_eq_true rfl) rfl (Nat.le_of_ble_eq_true rfl) (by decide) (c_X11_byteAt X v0 (v1 + s.1) I R J _ hq45 ⟨rfl, rfl⟩) ?_
  rintro _ _ ⟨rfl, rfl⟩
  show zy_V X M_X11_cut 2 P (89 + 3) [.ref v0, .int v1, .null, .int s.1, .long s.2, .null, .null, .null] [.int q45] (I, R, J)
  obtain ⟨q46, hq46, hf⟩ := zw_bdE hf
  refine zx_callS (pc := 92) (As := [.int q45]) (st := []) (d2 := 0) (M2 := M_X11_isLetter) (P2 := (fun r S => r = (some (.int q46)) ∧ S = (I, R, J))) d_X11_cut_92 (zw_mG (List.mem_of_getElem? (i := 1429) (by decide +kernel)) rfl) ce_X11_isLetter (Nat.le_of_ble_eq_true rfl) rfl (Nat.le_of_ble_eq_true rfl) (by decide) (c_X11_isLetter X q45 I R J _ hq46 ⟨rfl, rfl⟩) ?_
  rintro _ _ ⟨rfl, rfl⟩
  show zy_V X M_X11_cut 2 P (92 + 3) [.ref v0, .int v1, .null, .int s.1, .long s.2, .null, .null, .null] [.int q46] (I, R, J)
  rcases zw_ifE hf with ⟨c47, hf⟩ | ⟨c47, hf⟩
  · refine zv_if_eq (pc := 95) (tg := 124) d_X11_cut_95 (by decide) (fun _ => ?_) (fun q => absurd c47 q)
    cases hf
    exact zx_weak (zw_leS (zw_leS (zw_leN (zw_leS (zw_leS (zw_leN (zw_leN (zw_leN zw_leZ)))))))) hk
  · refine zv_if_eq (pc := 95) (tg := 124) d_X11_cut_95 (by decide) (fun q => absurd q c47) (fun _ => ?_)
    refine zv_iload_n (pc := 98) d_X11_cut_98 rfl ?_
    refine zv_bipush (pc := 99) d_X11_cut_99 zc_b_8 ?_
    rcases zw_ifE hf with ⟨c48, hf⟩ | ⟨c48, hf⟩
    · refine zv_icmp_ge (pc := 101) (tg := 118) d_X11_cut_101 (by decide) (fun _ => ?_) (fun q => absurd c48 q)
      exact zx_weak (zw_leS (zw_leS (zw_leN (zw_leS (zw_leS (zw_leN (zw_leN (zw_leN zw_leZ)))))))) (j_X11_cut_118_85_ok X P v0 v1 s.1 s.2 I R J _ hf hk)
    · refine zv_icmp_ge (pc := 101) (tg := 118) d_X11_cut_101 (by decide) (fun q => absurd q c48) (fun _ => ?_)
      refine zv_lload (pc := 104) d_X11_cut_104 rfl ?_
      refine zv_aload_n (pc := 106) d_X11_cut_106 rfl ?_
      refine zv_iload_n (pc := 107) d_X11_cut_107 rfl ?_
      refine zv_iload_n (pc := 108) d_X11_cut_108 rfl ?_
      refine zv_iadd (pc := 109) d_X11_cut_109 ?_
      obtain ⟨q50, hq50, hf⟩ := zw_bdE hf
      refine zx_callV (pc := 110) (As := [.int (v1 + s.1)]) (o := v0) (st := [.long s.2]) (d2 := 0) (M2 := M_X11_byteAt) (P2 := (fun r S => r = (some (.int q50)) ∧ S = (I, R, J))) d_X11_cut_110 (zw_mG (List.mem_of_getElem? (i := 1421) (by decide +kernel)) rfl) ce_X11_byteAt (zw_RvK g44 rfl rfl) (Nat.le_of_ble_eq_true rfl) rfl (Nat.le_of_ble_eq_true rfl) (by decide) (c_X11_byteAt X v0 (v1 + s.1) I R J _ hq50 ⟨rfl, rfl⟩) ?_
      rintro _ _ ⟨rfl, rfl⟩
      show zy_V X M_X11_cut 2 P (110 + 3) [.ref v0, .int v1, .null, .int s.1, .long s.2, .null, .null, .null] [.int q50, .long s.2] (I, R, J)
      obtain ⟨q51, hq51, hf⟩ := zw_bdE hf
      refine zx_callS (pc := 113) (As := [.long s.2, .int q50]) (st := []) (d2 := 0) (M2 := M_X11_more) (P2 := (fun r S => r = (some (.long q51)) ∧ S = (I, R, J))) d_X11_cut_113 (zw_mG (List.mem_of_getElem? (i := 1156) (by decide +kernel)) rfl) ce_X11_more (Nat.le_of_ble_eq_true rfl) rfl (Nat.le_of_ble_eq_true rfl) (by decide) (c_X11_more X s.2 q50 I R J _ hq51 ⟨rfl, rfl⟩) ?_
      rintro _ _ ⟨rfl, rfl⟩
      show zy_V X M_X11_cut 2 P (113 + 3) [.ref v0, .int v1, .null, .int s.1, .long s.2, .null, .null, .null] [.long q51] (I, R, J)
      refine zx_lstore (pc := 116) (x2 := q51) (L2 := [.ref v0, .int v1, .null, .int s.1, .long q51, .null, .null, .null]) d_X11_cut_116 (by decide) rfl rfl ?_
      exact zx_weak (zw_leS (zw_leS (zw_leN (zw_leS (zw_leS (zw_leN (zw_leN (zw_leN zw_leZ)))))))) (j_X11_cut_118_85_ok X P v0 v1 s.1 q51 I R J _ hf hk)
theorem s_X11_cut_85_lp (X : zw_X) (P : Option Value → aS → Prop) (v0 : Nat) (v1 : Int32) (I : zI) (R : zR) (J : zJ) (n : Nat) (s : Int32 × Int64) (r : Int32 × Int64) (h : zw_it (s_X11_cut_85 v0 v1 I R J) n s = some r) (hq : zy_V X M_X11_cut 2 P 124 [.ref v0, .int v1, .null, .int r.1, .long r.2, .null, .null, .null] [] (I, R, J)) : zy_V X M_X11_cut 2 P 85 [.ref v0, .int v1, .null, .int s.1, .long s.2, .null, .null, .null] [] (I, R, J) :=
  zw_itE (A := (fun t : Int32 × Int64 => zy_V X M_X11_cut 2 P 85 [.ref v0, .int v1, .null, .int t.1, .long t.2, .null, .null, .null] [] (I, R, J))) (Q := (fun r : Int32 × Int64 => zy_V X M_X11_cut 2 P 124 [.ref v0, .int v1, .null, .int r.1, .long r.2, .null, .null, .null] [] (I, R, J))) (fun s o h1 h2 => s_X11_cut_85_ok X P v0 v1 I R J s o h1 h2) n s r h hq
def j_X11_cut_179_7 (v0 : Nat) (v1 : Int32) (v3 : Int32) (v4 : Int64) (v6 : Int32) (I : zI) (R : zR) (J : zJ) : Option ((Int32 × zI × zJ) ⊕ ((zI × zJ) ⊕ (zI × zJ))) :=
  zw_g (zw_gc v0 11) ((f_X11_token v0 v6 v1 0 v4 I R J).bind fun q56 => (zw_let ((v1 + v3) : Int32) fun x57 => (j_X11_cut_352_7 v0 x57 q56.1 R q56.2)))
theorem j_X11_cut_179_7_ok (X : zw_X) (P : Option Value → aS → Prop) (v0 : Nat) (v1 : Int32) (v3 : Int32) (v4 : Int64) (v6 : Int32) (I : zI) (R : zR) (J : zJ) (o : (Int32 × zI × zJ) ⊕ ((zI × zJ) ⊕ (zI × zJ))) (hf : j_X11_cut_179_7 v0 v1 v3 v4 v6 I R J = some o) (hk : (zw_se (fun t => zy_V X M_X11_cut 2 P 7 [.ref v0, .int t.1, .null, .null, .null, .null, .null, .null] [] (t.2.1, R, t.2.2)) (fun r => (zw_se (fun r0 => zy_V X M_X11_cut 2 P 355 [.null, .null, .null, .null, .null, .null, .null, .null] [] (r0.1, R, r0.2)) (fun t0 => zy_V X M_X11_cut 2 P 31 [.ref v0, .null, .null, .null, .null, .null, .null, .null] [] (t0.1, R, t0.2)) r)) o)) : zy_V X M_X11_cut 2 P 179 [.ref v0, .int v1, .null, .int v3, .long v4, .null, .int v6, .null] [] (I, R, J) := by
  unfold j_X11_cut_179_7 at hf
  refine zv_aload_n (pc := 179) d_X11_cut_179 rfl ?_
  refine zv_iload (pc := 180) d_X11_cut_180 rfl ?_
  refine zv_iload_n (pc := 182) d_X11_cut_182 rfl ?_
  refine zv_iconst (pc := 183) d_X11_cut_183 zc_i_0 ?_
  refine zv_lload (pc := 184) d_X11_cut_184 rfl ?_
  obtain ⟨g55, hf⟩ := zw_gcE hf (by decide)
  obtain ⟨q56, hq56, hf⟩ := zw_bdE hf
  refine zx_callV (pc := 186) (As := [.int v6, .int v1, .int 0, .long v4]) (o := v0) (st := []) (d2 := 0) (M2 := M_X11_token) (P2 := (fun r S => r = none ∧ S = (q56.1, R, q56.2))) d_X11_cut_186 (zw_mG (List.mem_of_getElem? (i := 1425) (by decide +kernel)) rfl) ce_X11_token (zw_RvK g55 rfl rfl) (Nat.le_of_ble_eq_true rfl) rfl (Nat.le_of_ble_eq_true rfl) (by decide) (c_X11_token X v0 v6 v1 0 v4 I R J _ hq56 ⟨rfl, rfl⟩) ?_
  rintro _ _ ⟨rfl, rfl⟩
  show zy_V X M_X11_cut 2 P (186 + 3) [.ref v0, .int v1, .null, .int v3, .long v4, .null, .int v6, .null] [] (q56.1, R, q56.2)
  refine zv_iload_n (pc := 189) d_X11_cut_189 rfl ?_
  refine zv_iload_n (pc := 190) d_X11_cut_190 rfl ?_
  refine zv_iadd (pc := 191) d_X11_cut_191 ?_
  obtain ⟨x57, ex57, hf⟩ := zw_letE hf
  refine zx_istore_n (pc := 192) (x2 := x57) (L2 := [.ref v0, .int x57, .null, .int v3, .long v4, .null, .int v6, .null]) d_X11_cut_192 (by decide) ex57 rfl ?_
  refine zv_goto (pc := 193) (tg := 352) d_X11_cut_193 (by decide) ?_
  exact zx_weak (zw_leS (zw_leS (zw_leN (zw_leN (zw_leN (zw_leN (zw_leN (zw_leN zw_leZ)))))))) (j_X11_cut_352_7_ok X P v0 x57 q56.1 R q56.2 _ hf hk)
def j_X11_cut_173_146 (v0 : Nat) (v1 : Int32) (v3 : Int32) (v4 : Int64) (v6 : Int32) (v7 : Int32) (I : zI) (R : zR) (J : zJ) : Option ((Int32 × Int32) ⊕ (Int32)) :=
  zw_let (v7 + 1 : Int32) fun x63 => (some (.inl (v6, x63)))
theorem j_X11_cut_173_146_ok (X : zw_X) (P : Option Value → aS → Prop) (v0 : Nat) (v1 : Int32) (v3 : Int32) (v4 : Int64) (v6 : Int32) (v7 : Int32) (I : zI) (R : zR) (J : zJ) (o : (Int32 × Int32) ⊕ (Int32)) (hf : j_X11_cut_173_146 v0 v1 v3 v4 v6 v7 I R J = some o) (hk : (zw_se (fun t => zy_V X M_X11_cut 2 P 146 [.ref v0, .int v1, .null, .int v3, .long v4, .null, .int t.1, .int t.2] [] (I, R, J)) (fun r => zy_V X M_X11_cut 2 P 179 [.ref v0, .int v1, .null, .int v3, .long v4, .null, .int r, .null] [] (I, R, J)) o)) : zy_V X M_X11_cut 2 P 173 [.ref v0, .int v1, .null, .int v3, .long v4, .null, .int v6, .int v7] [] (I, R, J) := by
  unfold j_X11_cut_173_146 at hf
  obtain ⟨x63, ex63, hf⟩ := zw_letE hf
  refine zx_iinc (pc := 173) (x2 := x63) (L2 := [.ref v0, .int v1, .null, .int v3, .long v4, .null, .int v6, .int x63]) d_X11_cut_173 (by decide) rfl zc_i_1 ex63 rfl ?_
  refine zv_goto (pc := 176) (tg := 146) d_X11_cut_176 (by decide) ?_
  cases hf
  exact zx_weak (zw_leS (zw_leS (zw_leN (zw_leS (zw_leS (zw_leN (zw_leS (zw_leS zw_leZ)))))))) hk
def s_X11_cut_146 (v0 : Nat) (v1 : Int32) (v3 : Int32) (v4 : Int64) (I : zI) (R : zR) (J : zJ) (s : Int32 × Int32) : Option ((Int32 × Int32) ⊕ (Int32)) :=
  if 18 ≤ s.2 then some (.inr s.1) else zw_g (zw_gc v0 11) (zw_g (zw_gc (R v0 9) 14) (zw_g (zw_in s.2 (zw_SH (R v0 9)).2) (if ¬ (lg_cmp (J (R v0 9) (Int32.toNatClampNeg s.2)) v4) = 0 then j_X11_cut_173_146 v0 v1 v3 v4 s.1 s.2 I R J else zw_let ((20 + s.2) : Int32) fun x64 => (j_X11_cut_173_146 v0 v1 v3 v4 x64 s.2 I R J))))
theorem s_X11_cut_146_ok (X : zw_X) (P : Option Value → aS → Prop) (v0 : Nat) (v1 : Int32) (v3 : Int32) (v4 : Int64) (I : zI) (R : zR) (J : zJ) (s : Int32 × Int32) (o : (Int32 × Int32) ⊕ (Int32)) (hf : s_X11_cut_146 v0 v1 v3 v4 I R J s = some o) (hk : (zw_se (fun t => zy_V X M_X11_cut 2 P 146 [.ref v0, .int v1, .null, .int v3, .long v4, .null, .int t.1, .int t.2] [] (I, R, J)) (fun r => zy_V X M_X11_cut 2 P 179 [.ref v0, .int v1, .null, .int v3, .long v4, .null, .int r, .null] [] (I, R, J)) o)) : zy_V X M_X11_cut 2 P 146 [.ref v0, .int v1, .null, .int v3, .long v4, .null, .int s.1, .int s.2] [] (I, R, J) := by
  unfold s_X11_cut_146 at hf
  refine zv_iload (pc := 146) d_X11_cut_146 rfl ?_
  refine zv_bipush (pc := 148) d_X11_cut_148 zc_b_18 ?_
  rcases zw_ifE hf with ⟨c58, hf⟩ | ⟨c58, hf⟩
  · refine zv_icmp_ge (pc := 150) (tg := 179) d_X11_cut_150 (by decide) (fun _ => ?_) (fun q => absurd c58 q)
    cases hf
    exact zx_weak (zw_leS (zw_leS (zw_leN (zw_leS (zw_leS (zw_leN (zw_leS (zw_leN zw_leZ)))))))) hk
  · refine zv_icmp_ge (pc := 150) (tg := 179) d_X11_cut_150 (by decide) (fun q => absurd q c58) (fun _ => ?_)
    refine zv_aload_n (pc := 153) d_X11_cut_153 rfl ?_
    obtain ⟨g59, hf⟩ := zw_gcE hf (by decide)
    obtain ⟨g60, hf⟩ := zw_gcE hf (by decide)
    refine zx_getR (pc := 154) d_X11_cut_154 lk_CutStonesModel_34 (by decide) g59 g60 ?_
    refine zv_iload (pc := 157) d_X11_cut_157 rfl ?_
    obtain ⟨i61, hf⟩ := zw_inE hf
    refine zx_lald (pc := 159) d_X11_cut_159 g60 i61 ?_
    refine zv_lload (pc := 160) d_X11_cut_160 rfl ?_
    refine zv_lcmp (pc := 162) d_X11_cut_162 ?_
    rcases zw_ifE hf with ⟨c62, hf⟩ | ⟨c62, hf⟩
    · refine zv_if_ne (pc := 163) (tg := 173) d_X11_cut_163 (by decide) (fun _ => ?_) (fun q => absurd q c62)
      exact zx_weak (zw_leS (zw_leS (zw_leN (zw_leS (zw_leS (zw_leN (zw_leS (zw_leS zw_leZ)))))))) (j_X11_cut_173_146_ok X P v0 v1 v3 v4 s.1 s.2 I R J _ hf hk)
    · refine zv_if_ne (pc := 163) (tg := 173) d_X11_cut_163 (by decide) (fun q => absurd q c62) (fun _ => ?_)
      refine zv_bipush (pc := 166) d_X11_cut_166 zc_b_20 ?_
      refine zv_iload (pc := 168) d_X11_cut_168 rfl ?_
      refine zv_iadd (pc := 170) d_X11_cut_170 ?_
      obtain ⟨x64, ex64, hf⟩ := zw_letE hf
      refine zx_istore (pc := 171) (x2 := x64) (L2 := [.ref v0, .int v1, .null, .int v3, .long v4, .null, .int x64, .int s.2]) d_X11_cut_171 (by decide) ex64 rfl ?_
      exact zx_weak (zw_leS (zw_leS (zw_leN (zw_leS (zw_leS (zw_leN (zw_leS (zw_leS zw_leZ)))))))) (j_X11_cut_173_146_ok X P v0 v1 v3 v4 x64 s.2 I R J _ hf hk)
theorem s_X11_cut_146_lp (X : zw_X) (P : Option Value → aS → Prop) (v0 : Nat) (v1 : Int32) (v3 : Int32) (v4 : Int64) (I : zI) (R : zR) (J : zJ) (n : Nat) (s : Int32 × Int32) (r : Int32) (h : zw_it (s_X11_cut_146 v0 v1 v3 v4 I R J) n s = some r) (hq : zy_V X M_X11_cut 2 P 179 [.ref v0, .int v1, .null, .int v3, .long v4, .null, .int r, .null] [] (I, R, J)) : zy_V X M_X11_cut 2 P 146 [.ref v0, .int v1, .null, .int v3, .long v4, .null, .int s.1, .int s.2] [] (I, R, J) :=
  zw_itE (A := (fun t : Int32 × Int32 => zy_V X M_X11_cut 2 P 146 [.ref v0, .int v1, .null, .int v3, .long v4, .null, .int t.1, .int t.2] [] (I, R, J))) (Q := (fun r : Int32 => zy_V X M_X11_cut 2 P 179 [.ref v0, .int v1, .null, .int v3, .long v4, .null, .int r, .null] [] (I, R, J))) (fun s o h1 h2 => s_X11_cut_146_ok X P v0 v1 v3 v4 I R J s o h1 h2) n s r h hq
def j_X11_cut_135_7 (v0 : Nat) (v1 : Int32) (v3 : Int32) (v4 : Int64) (s0 : Int32) (I : zI) (R : zR) (J : zJ) : Option ((Int32 × zI × zJ) ⊕ ((zI × zJ) ⊕ (zI × zJ))) :=
  if 7 < v3 then j_X11_cut_179_7 v0 v1 v3 v4 s0 I R J else (zw_it (s_X11_cut_146 v0 v1 v3 v4 I R J) 1000000 (s0, 0)).bind fun q65 => (j_X11_cut_179_7 v0 v1 v3 v4 q65 I R J)
theorem j_X11_cut_135_7_ok (X : zw_X) (P : Option Value → aS → Prop) (v0 : Nat) (v1 : Int32) (v3 : Int32) (v4 : Int64) (s0 : Int32) (I : zI) (R : zR) (J : zJ) (o : (Int32 × zI × zJ) ⊕ ((zI × zJ) ⊕ (zI × zJ))) (hf : j_X11_cut_135_7 v0 v1 v3 v4 s0 I R J = some o) (hk : (zw_se (fun t => zy_V X M_X11_cut 2 P 7 [.ref v0, .int t.1, .null, .null, .null, .null, .null, .null] [] (t.2.1, R, t.2.2)) (fun r => (zw_se (fun r0 => zy_V X M_X11_cut 2 P 355 [.null, .null, .null, .null, .null, .null, .null, .null] [] (r0.1, R, r0.2)) (fun t0 => zy_V X M_X11_cut 2 P 31 [.ref v0, .null, .null, .null, .null, .null, .null, .null] [] (t0.1, R, t0.2)) r)) o)) : zy_V X M_X11_cut 2 P 135 [.ref v0, .int v1, .null, .int v3, .long v4, .null, .null, .null] [.int s0] (I, R, J) := by
  unfold j_X11_cut_135_7 at hf
  refine zx_istore (pc := 135) (x2 := s0) (L2 := [.ref v0, .int v1, .null, .int v3, .long v4, .null, .int s0, .null]) d_X11_cut_135 (by decide) rfl rfl ?_
  refine zv_iload_n (pc := 137) d_X11_cut_137 rfl ?_
  refine zv_bipush (pc := 138) d_X11_cut_138 zc_b_7 ?_
  rcases zw_ifE hf with ⟨c54, hf⟩ | ⟨c54, hf⟩
  · refine zv_icmp_gt (pc := 140) (tg := 179) d_X11_cut_140 (by decide) (fun _ => ?_) (fun q => absurd c54 q)
    exact zx_weak (zw_leS (zw_leS (zw_leN (zw_leS (zw_leS (zw_leN (zw_leS (zw_leN zw_leZ)))))))) (j_X11_cut_179_7_ok X P v0 v1 v3 v4 s0 I R J _ hf hk)
  · refine zv_icmp_gt (pc := 140) (tg := 179) d_X11_cut_140 (by decide) (fun q => absurd q c54) (fun _ => ?_)
    refine zv_iconst (pc := 143) d_X11_cut_143 zc_i_0 ?_
    refine zx_istore (pc := 144) (x2 := 0) (L2 := [.ref v0, .int v1, .null, .int v3, .long v4, .null, .int s0, .int 0]) d_X11_cut_144 (by decide) rfl rfl ?_
    obtain ⟨q65, hq65, hf⟩ := zw_bdE hf
    refine zx_weak (L' := [.ref v0, .int v1, .null, .int v3, .long v4, .null, .int s0, .int 0]) (zw_leS (zw_leS (zw_leN (zw_leS (zw_leS (zw_leN (zw_leS (zw_leS zw_leZ)))))))) (s_X11_cut_146_lp X P v0 v1 v3 v4 I R J _ _ _ hq65 ?_)
    show zy_V X M_X11_cut 2 P 179 [.ref v0, .int v1, .null, .int v3, .long v4, .null, .int q65, .null] [] (I, R, J)
    exact zx_weak (zw_leS (zw_leS (zw_leN (zw_leS (zw_leS (zw_leN (zw_leS (zw_leN zw_leZ)))))))) (j_X11_cut_179_7_ok X P v0 v1 v3 v4 q65 I R J _ hf hk)
def s_X11_cut_7 (v0 : Nat) (R : zR) (s : Int32 × zI × zJ) : Option ((Int32 × zI × zJ) ⊕ ((zI × zJ) ⊕ (zI × zJ))) :=
  zw_g (zw_gc v0 11) (if 500 < (s.2.1 v0 10) then some (.inr (.inl (s.2.1, s.2.2))) else (f_X11_byteAt v0 s.1 s.2.1 R).bind fun q5 => (if s.1 < (s.2.1 v0 4) then if q5 = 9 then j_X11_cut_67_7 v0 s.1 s.2.1 R s.2.2 else if q5 = 10 then j_X11_cut_67_7 v0 s.1 s.2.1 R s.2.2 else if q5 = 13 then j_X11_cut_67_7 v0 s.1 s.2.1 R s.2.2 else if ¬ q5 = 32 then (f_X11_isLetter q5).bind fun q12 => (if q12 = 0 then if ¬ q5 = 39 then (f_X11_isDigit q5).bind fun q15 => (if q15 = 0 then (f_X11_byteAt v0 (s.1 + 1) s.2.1 R).bind fun q17 => ((f_X11_sign v0 s.1 q5 q17 s.2.1 R s.2.2).bind fun q18 => (zw_let ((s.1 + q18.1) : Int32) fun x19 => (j_X11_cut_352_7 v0 x19 q18.2.1 R q18.2.2))) else (zw_it (s_X11_cut_269 v0 s.1 s.2.1 R s.2.2) 1000000 (0, 0)).bind fun q28 => (if q28.1 ≤ 4 then j_X11_cut_322_7 v0 s.1 q28.1 q28.2 v0 2 s.2.1 R s.2.2 else j_X11_cut_322_7 v0 s.1 q28.1 q28.2 v0 3 s.2.1 R s.2.2)) else (zw_it (s_X11_cut_204 v0 s.1 s.2.1 R s.2.2) 1000000 0).bind fun q38 => (if 12 < q38 then j_X11_cut_236_7 v0 s.1 q38 v0 s.2.1 R s.2.2 else if ¬ q38 = 0 then j_X11_cut_242_7 v0 s.1 q38 v0 17 s.2.1 R s.2.2 else j_X11_cut_236_7 v0 s.1 q38 v0 s.2.1 R s.2.2) else (zw_it (s_X11_cut_85 v0 s.1 s.2.1 R s.2.2) 1000000 (0, 0)).bind fun q52 => (if q52.1 ≤ 8 then j_X11_cut_135_7 v0 s.1 q52.1 q52.2 1 s.2.1 R s.2.2 else j_X11_cut_135_7 v0 s.1 q52.1 q52.2 3 s.2.1 R s.2.2)) else j_X11_cut_67_7 v0 s.1 s.2.1 R s.2.2 else some (.inr (.inr (s.2.1, s.2.2)))))
theorem s_X11_cut_7_ok (X : zw_X) (P : Option Value → aS → Prop) (v0 : Nat) (R : zR) (s : Int32 × zI × zJ) (o : (Int32 × zI × zJ) ⊕ ((zI × zJ) ⊕ (zI × zJ))) (hf : s_X11_cut_7 v0 R s = some o) (hk : (zw_se (fun t => zy_V X M_X11_cut 2 P 7 [.ref v0, .int t.1, .null, .null, .null, .null, .null, .null] [] (t.2.1, R, t.2.2)) (fun r => (zw_se (fun r0 => zy_V X M_X11_cut 2 P 355 [.null, .null, .null, .null, .null, .null, .null, .null] [] (r0.1, R, r0.2)) (fun t0 => zy_V X M_X11_cut 2 P 31 [.ref v0, .null, .null, .null, .null, .null, .null, .null] [] (t0.1, R, t0.2)) r)) o)) : zy_V X M_X11_cut 2 P 7 [.ref v0, .int s.1, .null, .null, .null, .null, .null, .null] [] (s.2.1, R, s.2.2) := by
  unfold s_X11_cut_7 at hf
  refine zv_aload_n (pc := 7) d_X11_cut_7 rfl ?_
  obtain ⟨g3, hf⟩ := zw_gcE hf (by decide)
  refine zx_getI (pc := 8) d_X11_cut_8 lk_CutStonesModel_193 (by decide) g3 ?_
  refine zv_sipush (pc := 11) d_X11_cut_11 zc_s_500 ?_
  rcases zw_ifE hf with ⟨c4, hf⟩ | ⟨c4, hf⟩
  · refine zv_icmp_gt (pc := 14) (tg := 355) d_X11_cut_14 (by decide) (fun _ => ?_) (fun q => absurd c4 q)
    cases hf
    exact zx_weak (zw_leN (zw_leN (zw_leN (zw_leN (zw_leN (zw_leN (zw_leN (zw_leN zw_leZ)))))))) hk
  · refine zv_icmp_gt (pc := 14) (tg := 355) d_X11_cut_14 (by decide) (fun q => absurd q c4) (fun _ => ?_)
    refine zv_aload_n (pc := 17) d_X11_cut_17 rfl ?_
    refine zv_iload_n (pc := 18) d_X11_cut_18 rfl ?_
    obtain ⟨q5, hq5, hf⟩ := zw_bdE hf
    refine zx_callV (pc := 19) (As := [.int s.1]) (o := v0) (st := []) (d2 := 0) (M2 := M_X11_byteAt) (P2 := (fun r S => r = (some (.int q5)) ∧ S = (s.2.1, R, s.2.2))) d_X11_cut_19 (zw_mG (List.mem_of_getElem? (i := 1421) (by decide +kernel)) rfl) ce_X11_byteAt (zw_RvK g3 rfl rfl) (Nat.le_of_ble_eq_true rfl) rfl (Nat.le_of_ble_eq_true rfl) (by decide) (c_X11_byteAt X v0 s.1 s.2.1 R s.2.2 _ hq5 ⟨rfl, rfl⟩) ?_
    rintro _ _ ⟨rfl, rfl⟩
    show zy_V X M_X11_cut 2 P (19 + 3) [.ref v0, .int s.1, .null, .null, .null, .null, .null, .null] [.int q5] (s.2.1, R, s.2.2)
    refine zx_istore_n (pc := 22) (x2 := q5) (L2 := [.ref v0, .int s.1, .int q5, .null, .null, .null, .null, .null]) d_X11_cut_22 (by decide) rfl rfl ?_
    refine zv_iload_n (pc := 23) d_X11_cut_23 rfl ?_
    refine zv_aload_n (pc := 24) d_X11_cut_24 rfl ?_
    refine zx_getI (pc := 25) d_X11_cut_25 lk_CutStonesModel_184 (by decide) g3 ?_
    rcases zw_ifE hf with ⟨c6, hf⟩ | ⟨c6, hf⟩
    · refine zv_icmp_lt (pc := 28) (tg := 43) d_X11_cut_28 (by decide) (fun _ => ?_) (fun q => absurd c6 q)
      refine zv_iload_n (pc := 43) d_X11_cut_43 rfl ?_
      refine zv_bipush (pc := 44) d_X11_cut_44 zc_b_9 ?_
      rcases zw_ifE hf with ⟨c7, hf⟩ | ⟨c7, hf⟩
      · refine zv_icmp_eq (pc := 46) (tg := 67) d_X11_cut_46 (by decide) (fun _ => ?_) (fun q => absurd c7 q)
        exact zx_weak (zw_leS (zw_leS (zw_leN (zw_leN (zw_leN (zw_leN (zw_leN (zw_leN zw_leZ)))))))) (j_X11_cut_67_7_ok X P v0 s.1 s.2.1 R s.2.2 _ hf hk)
      · refine zv_icmp_eq (pc := 46) (tg := 67) d_X11_cut_46 (by decide) (fun q => absurd q c7) (fun _ => ?_)
        refine zv_iload_n (pc := 49) d_X11_cut_49 rfl ?_
        refine zv_bipush (pc := 50) d_X11_cut_50 zc_b_10 ?_
        rcases zw_ifE hf with ⟨c9, hf⟩ | ⟨c9, hf⟩
        · refine zv_icmp_eq (pc := 52) (tg := 67) d_X11_cut_52 (by decide) (fun _ => ?_) (fun q => absurd c9 q)
          exact zx_weak (zw_leS (zw_leS (zw_leN (zw_leN (zw_leN (zw_leN (zw_leN (zw_leN zw_leZ)))))))) (j_X11_cut_67_7_ok X P v0 s.1 s.2.1 R s.2.2 _ hf hk)
        · refine zv_icmp_eq (pc := 52) (tg := 67) d_X11_cut_52 (by decide) (fun q => absurd q c9) (fun _ => ?_)
          refine zv_iload_n (pc := 55) d_X11_cut_55 rfl ?_
          refine zv_bipush (pc := 56) d_X11_cut_56 zc_b_13 ?_
          rcases zw_ifE hf with ⟨c10, hf⟩ | ⟨c10, hf⟩
          · refine zv_icmp_eq (pc := 58) (tg := 67) d_X11_cut_58 (by decide) (fun _ => ?_) (fun q => absurd c10 q)
            exact zx_weak (zw_leS (zw_leS (zw_leN (zw_leN (zw_leN (zw_leN (zw_leN (zw_leN zw_leZ)))))))) (j_X11_cut_67_7_ok X P v0 s.1 s.2.1 R s.2.2 _ hf hk)
          · refine zv_icmp_eq (pc := 58) (tg := 67) d_X11_cut_58 (by decide) (fun q => absurd q c10) (fun _ => ?_)
            refine zv_iload_n (pc := 61) d_X11_cut_61 rfl ?_
            refine zv_bipush (pc := 62) d_X11_cut_62 zc_b_32 ?_
            rcases zw_ifE hf with ⟨c11, hf⟩ | ⟨c11, hf⟩
            · refine zv_icmp_ne (pc := 64) (tg := 73) d_X11_cut_64 (by decide) (fun _ => ?_) (fun q => absurd q c11)
              refine zv_iload_n (pc := 73) d_X11_cut_73 rfl ?_
              obtain ⟨q12, hq12, hf⟩ := zw_bdE hf
              refine zx_callS (pc := 74) (As := [.int q5]) (st := []) (d2 := 0) (M2 := M_X11_isLetter) (P2 := (fun r S => r = (some (.int q12)) ∧ S = (s.2.1, R, s.2.2))) d_X11_cut_74 (zw_mG (List.mem_of_getElem? (i := 1429) (by decide +kernel)) rfl) ce_X11_isLetter (Nat.le_of_ble_eq_true rfl) rfl (Nat.le_of_ble_eq_true rfl) (by decide) (c_X11_isLetter X q5 s.2.1 R s.2.2 _ hq12 ⟨rfl, rfl⟩) ?_
              rintro _ _ ⟨rfl, rfl⟩
              show zy_V X M_X11_cut 2 P (74 + 3) [.ref v0, .int s.1, .int q5, .null, .null, .null, .null, .null] [.int q12] (s.2.1, R, s.2.2)
              rcases zw_ifE hf with ⟨c13, hf⟩ | ⟨c13, hf⟩
              · refine zv_if_eq (pc := 77) (tg := 196) d_X11_cut_77 (by decide) (fun _ => ?_) (fun q => absurd c13 q)
                refine zv_iload_n (pc := 196) d_X11_cut_196 rfl ?_
                refine zv_bipush (pc := 197) d_X11_cut_197 zc_b_39 ?_
                rcases zw_ifE hf with ⟨c14, hf⟩ | ⟨c14, hf⟩
                · refine zv_icmp_ne (pc := 199) (tg := 257) d_X11_cut_199 (by decide) (fun _ => ?_) (fun q => absurd q c14)
                  refine zv_iload_n (pc := 257) d_X11_cut_257 rfl ?_
                  obtain ⟨q15, hq15, hf⟩ := zw_bdE hf
                  refine zx_callS (pc := 258) (As := [.int q5]) (st := []) (d2 := 0) (M2 := M_X11_isDigit) (P2 := (fun r S => r = (some (.int q15)) ∧ S = (s.2.1, R, s.2.2))) d_X11_cut_258 (zw_mG (List.mem_of_getElem? (i := 1435) (by decide +kernel)) rfl) ce_X11_isDigit (Nat.le_of_ble_eq_true rfl) rfl (Nat.le_of_ble_eq_true rfl) (by decide) (c_X11_isDigit X q5 s.2.1 R s.2.2 _ hq15 ⟨rfl, rfl⟩) ?_
                  rintro _ _ ⟨rfl, rfl⟩
                  show zy_V X M_X11_cut 2 P (258 + 3) [.ref v0, .int s.1, .int q5, .null, .null, .null, .null, .null] [.int q15] (s.2.1, R, s.2.2)
                  rcases zw_ifE hf with ⟨c16, hf⟩ | ⟨c16, hf⟩
                  · refine zv_if_eq (pc := 261) (tg := 336) d_X11_cut_261 (by decide) (fun _ => ?_) (fun q => absurd c16 q)
                    refine zv_iload_n (pc := 336) d_X11_cut_336 rfl ?_
                    refine zv_aload_n (pc := 337) d_X11_cut_337 rfl ?_
                    refine zv_iload_n (pc := 338) d_X11_cut_338 rfl ?_
                    refine zv_iload_n (pc := 339) d_X11_cut_339 rfl ?_
                    refine zv_aload_n (pc := 340) d_X11_cut_340 rfl ?_
                    refine zv_iload_n (pc := 341) d_X11_cut_341 rfl ?_
                    refine zv_iconst (pc := 342) d_X11_cut_342 zc_i_1 ?_
                    refine zv_iadd (pc := 343) d_X11_cut_343 ?_
                    obtain ⟨q17, hq17, hf⟩ := zw_bdE hf
                    refine zx_callV (pc := 344) (As := [.int (s.1 + 1)]) (o := v0) (st := [.int q5, .int s.1, .ref v0, .int s.1]) (d2 := 0) (M2 := M_X11_byteAt) (P2 := (fun r S => r = (some (.int q17)) ∧ S = (s.2.1, R, s.2.2))) d_X11_cut_344 (zw_mG (List.mem_of_getElem? (i := 1421) (by decide +kernel)) rfl) ce_X11_byteAt (zw_RvK g3 rfl rfl) (Nat.le_of_ble_eq_true rfl) rfl (Nat.le_of_ble_eq_true rfl) (by decide) (c_X11_byteAt X v0 (s.1 + 1) s.2.1 R s.2.2 _ hq17 ⟨rfl, rfl⟩) ?_
                    rintro _ _ ⟨rfl, rfl⟩
                    show zy_V X M_X11_cut 2 P (344 + 3) [.ref v0, .int s.1, .int q5, .null, .null, .null, .null, .null] [.int q17, .int q5, .int s.1, .ref v0, .int s.1] (s.2.1, R, s.2.2)
                    obtain ⟨q18, hq18, hf⟩ := zw_bdE hf
                    refine zx_callV (pc := 347) (As := [.int s.1, .int q5, .int q17]) (o := v0) (st := [.int s.1]) (d2 := 1) (M2 := M_X11_sign) (P2 := (fun r S => r = (some (.int q18.1)) ∧ S = (q18.2.1, R, q18.2.2))) d_X11_cut_347 (zw_mG (List.mem_of_getElem? (i := 1438) (by decide +kernel)) rfl) ce_X11_sign (zw_RvK g3 rfl rfl) (Nat.le_of_ble_eq_true rfl) rfl (Nat.le_of_ble_eq_true rfl) (by decide) (c_X11_sign X v0 s.1 q5 q17 s.2.1 R s.2.2 _ hq18 ⟨rfl, rfl⟩) ?_
                    rintro _ _ ⟨rfl, rfl⟩
                    show zy_V X M_X11_cut 2 P (347 + 3) [.ref v0, .int s.1, .int q5, .null, .null, .null, .null, .null] [.int q18.1, .int s.1] (q18.2.1, R, q18.2.2)
                    refine zv_iadd (pc := 350) d_X11_cut_350 ?_
                    obtain ⟨x19, ex19, hf⟩ := zw_letE hf
                    refine zx_istore_n (pc := 351) (x2 := x19) (L2 := [.ref v0, .int x19, .int q5, .null, .null, .null, .null, .null]) d_X11_cut_351 (by decide) ex19 rfl ?_
                    exact zx_weak (zw_leS (zw_leS (zw_leN (zw_leN (zw_leN (zw_leN (zw_leN (zw_leN zw_leZ)))))))) (j_X11_cut_352_7_ok X P v0 x19 q18.2.1 R q18.2.2 _ hf hk)
                  · refine zv_if_eq (pc := 261) (tg := 336) d_X11_cut_261 (by decide) (fun q => absurd q c16) (fun _ => ?_)
                    refine zv_iconst (pc := 264) d_X11_cut_264 zc_i_0 ?_
                    refine zx_istore_n (pc := 265) (x2 := 0) (L2 := [.ref v0, .int s.1, .int q5, .int 0, .null, .null, .null, .null]) d_X11_cut_265 (by decide) rfl rfl ?_
                    refine zv_iconst (pc := 266) d_X11_cut_266 zc_i_0 ?_
                    refine zx_istore (pc := 267) (x2 := 0) (L2 := [.ref v0, .int s.1, .int q5, .int 0, .int 0, .null, .null, .null]) d_X11_cut_267 (by decide) rfl rfl ?_
                    obtain ⟨q28, hq28, hf⟩ := zw_bdE hf
                    refine zx_weak (L' := [.ref v0, .int s.1, .null, .int 0, .int 0, .null, .null, .null]) (zw_leS (zw_leS (zw_leN (zw_leS (zw_leS (zw_leN (zw_leN (zw_leN zw_leZ)))))))) (s_X11_cut_269_lp X P v0 s.1 s.2.1 R s.2.2 _ _ _ hq28 ?_)
                    show zy_V X M_X11_cut 2 P 311 [.ref v0, .int s.1, .null, .int q28.1, .int q28.2, .null, .null, .null] [] (s.2.1, R, s.2.2)
                    refine zv_aload_n (pc := 311) d_X11_cut_311 rfl ?_
                    refine zv_iload_n (pc := 312) d_X11_cut_312 rfl ?_
                    refine zv_iconst (pc := 313) d_X11_cut_313 zc_i_4 ?_
                    rcases zw_ifE hf with ⟨c29, hf⟩ | ⟨c29, hf⟩
                    · refine zv_icmp_le (pc := 314) (tg := 321) d_X11_cut_314 (by decide) (fun _ => ?_) (fun q => absurd c29 q)
                      refine zv_iconst (pc := 321) d_X11_cut_321 zc_i_2 ?_
                      exact zx_weak (zw_leS (zw_leS (zw_leN (zw_leS (zw_leS (zw_leN (zw_leN (zw_leN zw_leZ)))))))) (j_X11_cut_322_7_ok X P v0 s.1 q28.1 q28.2 v0 2 s.2.1 R s.2.2 _ hf hk)
                    · refine zv_icmp_le (pc := 314) (tg := 321) d_X11_cut_314 (by decide) (fun q => absurd q c29) (fun _ => ?_)
                      refine zv_iconst (pc := 317) d_X11_cut_317 zc_i_3 ?_
                      refine zv_goto (pc := 318) (tg := 322) d_X11_cut_318 (by decide) ?_
                      exact zx_weak (zw_leS (zw_leS (zw_leN (zw_leS (zw_leS (zw_leN (zw_leN (zw_leN zw_leZ)))))))) (j_X11_cut_322_7_ok X P v0 s.1 q28.1 q28.2 v0 3 s.2.1 R s.2.2 _ hf hk)
                · refine zv_icmp_ne (pc := 199) (tg := 257) d_X11_cut_199 (by decide) (fun q => absurd q c14) (fun _ => ?_)
                  refine zv_iconst (pc := 202) d_X11_cut_202 zc_i_0 ?_
                  refine zx_istore_n (pc := 203) (x2 := 0) (L2 := [.ref v0, .int s.1, .int q5, .int 0, .null, .null, .null, .null]) d_X11_cut_203 (by decide) rfl rfl ?_
                  obtain ⟨q38, hq38, hf⟩ := zw_bdE hf
                  refine zx_weak (L' := [.ref v0, .int s.1, .null, .int 0, .null, .null, .null, .null]) (zw_leS (zw_leS (zw_leN (zw_leS (zw_leN (zw_leN (zw_leN (zw_leN zw_leZ)))))))) (s_X11_cut_204_lp X P v0 s.1 s.2.1 R s.2.2 _ _ _ hq38 ?_)
                  show zy_V X M_X11_cut 2 P 225 [.ref v0, .int s.1, .null, .int q38, .null, .null, .null, .null] [] (s.2.1, R, s.2.2)
                  refine zv_aload_n (pc := 225) d_X11_cut_225 rfl ?_
                  refine zv_iload_n (pc := 226) d_X11_cut_226 rfl ?_
                  refine zv_bipush (pc := 227) d_X11_cut_227 zc_b_12 ?_
                  rcases zw_ifE hf with ⟨c39, hf⟩ | ⟨c39, hf⟩
                  · refine zv_icmp_gt (pc := 229) (tg := 236) d_X11_cut_229 (by decide) (fun _ => ?_) (fun q => absurd c39 q)
                    exact zx_weak (zw_leS (zw_leS (zw_leN (zw_leS (zw_leN (zw_leN (zw_leN (zw_leN zw_leZ)))))))) (j_X11_cut_236_7_ok X P v0 s.1 q38 v0 s.2.1 R s.2.2 _ hf hk)
                  · refine zv_icmp_gt (pc := 229) (tg := 236) d_X11_cut_229 (by decide) (fun q => absurd q c39) (fun _ => ?_)
                    refine zv_iload_n (pc := 232) d_X11_cut_232 rfl ?_
                    rcases zw_ifE hf with ⟨c43, hf⟩ | ⟨c43, hf⟩
                    · refine zv_if_ne (pc := 233) (tg := 240) d_X11_cut_233 (by decide) (fun _ => ?_) (fun q => absurd q c43)
                      refine zv_bipush (pc := 240) d_X11_cut_240 zc_b_17 ?_
                      exact zx_weak (zw_leS (zw_leS (zw_leN (zw_leS (zw_leN (zw_leN (zw_leN (zw_leN zw_leZ)))))))) (j_X11_cut_242_7_ok X P v0 s.1 q38 v0 17 s.2.1 R s.2.2 _ hf hk)
                    · refine zv_if_ne (pc := 233) (tg := 240) d_X11_cut_233 (by decide) (fun q => absurd q c43) (fun _ => ?_)
                      exact zx_weak (zw_leS (zw_leS (zw_leN (zw_leS (zw_leN (zw_leN (zw_leN (zw_leN zw_leZ)))))))) (j_X11_cut_236_7_ok X P v0 s.1 q38 v0 s.2.1 R s.2.2 _ hf hk)
              · refine zv_if_eq (pc := 77) (tg := 196) d_X11_cut_77 (by decide) (fun q => absurd q c13) (fun _ => ?_)
                refine zv_iconst (pc := 80) d_X11_cut_80 zc_i_0 ?_
                refine zx_istore_n (pc := 81) (x2 := 0) (L2 := [.ref v0, .int s.1, .int q5, .int 0, .null, .null, .null, .null]) d_X11_cut_81 (by decide) rfl rfl ?_
                refine zv_lconst (pc := 82) d_X11_cut_82 zc_l_0 ?_
                refine zx_lstore (pc := 83) (x2 := 0) (L2 := [.ref v0, .int s.1, .int q5, .int 0, .long 0, .null, .null, .null]) d_X11_cut_83 (by decide) rfl rfl ?_
                obtain ⟨q52, hq52, hf⟩ := zw_bdE hf
                refine zx_weak (L' := [.ref v0, .int s.1, .null, .int 0, .long 0, .null, .null, .null]) (zw_leS (zw_leS (zw_leN (zw_leS (zw_leS (zw_leN (zw_leN (zw_leN zw_leZ)))))))) (s_X11_cut_85_lp X P v0 s.1 s.2.1 R s.2.2 _ _ _ hq52 ?_)
                show zy_V X M_X11_cut 2 P 124 [.ref v0, .int s.1, .null, .int q52.1, .long q52.2, .null, .null, .null] [] (s.2.1, R, s.2.2)
                refine zv_iload_n (pc := 124) d_X11_cut_124 rfl ?_
                refine zv_bipush (pc := 125) d_X11_cut_125 zc_b_8 ?_
                rcases zw_ifE hf with ⟨c53, hf⟩ | ⟨c53, hf⟩
                · refine zv_icmp_le (pc := 127) (tg := 134) d_X11_cut_127 (by decide) (fun _ => ?_) (fun q => absurd c53 q)
                  refine zv_iconst (pc := 134) d_X11_cut_134 zc_i_1 ?_
                  exact zx_weak (zw_leS (zw_leS (zw_leN (zw_leS (zw_leS (zw_leN (zw_leN (zw_leN zw_leZ)))))))) (j_X11_cut_135_7_ok X P v0 s.1 q52.1 q52.2 1 s.2.1 R s.2.2 _ hf hk)
                · refine zv_icmp_le (pc := 127) (tg := 134) d_X11_cut_127 (by decide) (fun q => absurd q c53) (fun _ => ?_)
                  refine zv_iconst (pc := 130) d_X11_cut_130 zc_i_3 ?_
                  refine zv_goto (pc := 131) (tg := 135) d_X11_cut_131 (by decide) ?_
                  exact zx_weak (zw_leS (zw_leS (zw_leN (zw_leS (zw_leS (zw_leN (zw_leN (zw_leN zw_leZ)))))))) (j_X11_cut_135_7_ok X P v0 s.1 q52.1 q52.2 3 s.2.1 R s.2.2 _ hf hk)
            · refine zv_icmp_ne (pc := 64) (tg := 73) d_X11_cut_64 (by decide) (fun q => absurd q c11) (fun _ => ?_)
              exact zx_weak (zw_leS (zw_leS (zw_leN (zw_leN (zw_leN (zw_leN (zw_leN (zw_leN zw_leZ)))))))) (j_X11_cut_67_7_ok X P v0 s.1 s.2.1 R s.2.2 _ hf hk)
    · refine zv_icmp_lt (pc := 28) (tg := 43) d_X11_cut_28 (by decide) (fun q => absurd q c6) (fun _ => ?_)
      cases hf
      exact zx_weak (zw_leS (zw_leN (zw_leN (zw_leN (zw_leN (zw_leN (zw_leN (zw_leN zw_leZ)))))))) hk
theorem s_X11_cut_7_lp (X : zw_X) (P : Option Value → aS → Prop) (v0 : Nat) (R : zR) (n : Nat) (s : Int32 × zI × zJ) (r : (zI × zJ) ⊕ (zI × zJ)) (h : zw_it (s_X11_cut_7 v0 R) n s = some r) (hq : (zw_se (fun r0 => zy_V X M_X11_cut 2 P 355 [.null, .null, .null, .null, .null, .null, .null, .null] [] (r0.1, R, r0.2)) (fun t0 => zy_V X M_X11_cut 2 P 31 [.ref v0, .null, .null, .null, .null, .null, .null, .null] [] (t0.1, R, t0.2)) r)) : zy_V X M_X11_cut 2 P 7 [.ref v0, .int s.1, .null, .null, .null, .null, .null, .null] [] (s.2.1, R, s.2.2) :=
  zw_itE (A := (fun t : Int32 × zI × zJ => zy_V X M_X11_cut 2 P 7 [.ref v0, .int t.1, .null, .null, .null, .null, .null, .null] [] (t.2.1, R, t.2.2))) (Q := (fun r : (zI × zJ) ⊕ (zI × zJ) => (zw_se (fun r0 => zy_V X M_X11_cut 2 P 355 [.null, .null, .null, .null, .null, .null, .null, .null] [] (r0.1, R, r0.2)) (fun t0 => zy_V X M_X11_cut 2 P 31 [.ref v0, .null, .null, .null, .null, .null, .null, .null] [] (t0.1, R, t0.2)) r))) (fun s o h1 h2 => s_X11_cut_7_ok X P v0 R s o h1 h2) n s r h hq
def f_X11_cut (v0 : Nat) (I : zI) (R : zR) (J : zJ) : Option (zI × zJ) :=
  zw_g (zw_gc v0 11) (zw_let (zw_u I v0 10 0 : zI) fun I2 => ((zw_it (s_X11_cut_7 v0 R) 1000000 (0, I2, J)).bind fun q66 => (match q66 with | .inl a67 => (some (a67.1, a67.2)) | .inr a68 => ((f_X11_token v0 0 (a68.1 v0 4) 0 0 a68.1 R a68.2).bind fun q69 => (some (q69.1, q69.2))))))
theorem c_X11_cut (X : zw_X) (v0 : Nat) (I : zI) (R : zR) (J : zJ) {P : Option Value → aS → Prop} (o : zI × zJ) (hf : f_X11_cut v0 I R J = some o) (hk : P none (o.1, R, o.2)) : zw_C X M_X11_cut 2 0 0 199 [.ref v0] (I, R, J) P := by
  show zy_V X M_X11_cut 2 P 0 [.ref v0, .null, .null, .null, .null, .null, .null, .null] [] (I, R, J)
  unfold f_X11_cut at hf
  refine zv_aload_n (pc := 0) d_X11_cut_0 rfl ?_
  refine zv_iconst (pc := 1) d_X11_cut_1 zc_i_0 ?_
  obtain ⟨g1, hf⟩ := zw_gcE hf (by decide)
  obtain ⟨I2, eI2, hf⟩ := zw_letE hf
  refine zx_putI (pc := 2) (I2 := I2) d_X11_cut_2 lk_CutStonesModel_193 rfl g1 eI2 ?_
  refine zv_iconst (pc := 5) d_X11_cut_5 zc_i_0 ?_
  refine zx_istore_n (pc := 6) (x2 := 0) (L2 := [.ref v0, .int 0, .null, .null, .null, .null, .null, .null]) d_X11_cut_6 (by decide) rfl rfl ?_
  obtain ⟨q66, hq66, hf⟩ := zw_bdE hf
  refine zx_weak (L' := [.ref v0, .int 0, .null, .null, .null, .null, .null, .null]) (zw_leS (zw_leS (zw_leN (zw_leN (zw_leN (zw_leN (zw_leN (zw_leN zw_leZ)))))))) (s_X11_cut_7_lp X P v0 R _ _ _ hq66 ?_)
  rcases q66 with a67 | a68
  ·
    show zy_V X M_X11_cut 2 P 355 [.null, .null, .null, .null, .null, .null, .null, .null] [] (a67.1, R, a67.2)
    cases hf
    exact zx_vret (pc := 355) d_X11_cut_355 rfl hk
  ·
    show zy_V X M_X11_cut 2 P 31 [.ref v0, .null, .null, .null, .null, .null, .null, .null] [] (a68.1, R, a68.2)
    refine zv_aload_n (pc := 31) d_X11_cut_31 rfl ?_
    refine zv_iconst (pc := 32) d_X11_cut_32 zc_i_0 ?_
    refine zv_aload_n (pc := 33) d_X11_cut_33 rfl ?_
    refine zx_getI (pc := 34) d_X11_cut_34 lk_CutStonesModel_184 (by decide) g1 ?_
    refine zv_iconst (pc := 37) d_X11_cut_37 zc_i_0 ?_
    refine zv_lconst (pc := 38) d_X11_cut_38 zc_l_0 ?_
    obtain ⟨q69, hq69, hf⟩ := zw_bdE hf
    refine zx_callV (pc := 39) (As := [.int 0, .int (a68.1 v0 4), .int 0, .long 0]) (o := v0) (st := []) (d2 := 0) (M2 := M_X11_token) (P2 := (fun r S => r = none ∧ S = (q69.1, R, q69.2))) d_X11_cut_39 (zw_mG (List.mem_of_getElem? (i := 1425) (by decide +kernel)) rfl) ce_X11_token (zw_RvK g1 rfl rfl) (Nat.le_of_ble_eq_true rfl) rfl (Nat.le_of_ble_eq_true rfl) (by decide) (c_X11_token X v0 0 (a68.1 v0 4) 0 0 a68.1 R a68.2 _ hq69 ⟨rfl, rfl⟩) ?_
    rintro _ _ ⟨rfl, rfl⟩
    show zy_V X M_X11_cut 2 P (39 + 3) [.ref v0, .null, .null, .null, .null, .null, .null, .null] [] (q69.1, R, q69.2)
    cases hf
    exact zx_vret (pc := 42) d_X11_cut_42 rfl hk
