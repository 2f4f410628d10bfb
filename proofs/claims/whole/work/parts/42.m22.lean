abbrev M_X11_bright : zw_M := (⟨"CutStonesModel", "bright", "(III)I"⟩, prog_13_method_80_code, 4, (Option.some Jvm.ClassFile.FieldType.int))
theorem d_X11_bright_0 : decode M_X11_bright.2.1 0 = .ok (.aload_n 0, 1) := by decide +kernel
theorem d_X11_bright_1 : decode M_X11_bright.2.1 1 = .ok (.iload_n 1, 1) := by decide +kernel
theorem d_X11_bright_2 : decode M_X11_bright.2.1 2 = .ok (.invokevirtual 380, 3) := by decide +kernel
theorem d_X11_bright_5 : decode M_X11_bright.2.1 5 = .ok (.iconst (-1), 1) := by decide +kernel
theorem d_X11_bright_6 : decode M_X11_bright.2.1 6 = .ok (.if_icmp .eq 19, 3) := by decide +kernel
theorem d_X11_bright_9 : decode M_X11_bright.2.1 9 = .ok (.aload_n 0, 1) := by decide +kernel
theorem d_X11_bright_10 : decode M_X11_bright.2.1 10 = .ok (.iload_n 2, 1) := by decide +kernel
theorem d_X11_bright_11 : decode M_X11_bright.2.1 11 = .ok (.invokevirtual 393, 3) := by decide +kernel
theorem d_X11_bright_14 : decode M_X11_bright.2.1 14 = .ok (.iconst (-1), 1) := by decide +kernel
theorem d_X11_bright_15 : decode M_X11_bright.2.1 15 = .ok (.if_icmp .eq 10, 3) := by decide +kernel
theorem d_X11_bright_18 : decode M_X11_bright.2.1 18 = .ok (.iload_n 3, 1) := by decide +kernel
theorem d_X11_bright_19 : decode M_X11_bright.2.1 19 = .ok (.invokestatic 396, 3) := by decide +kernel
theorem d_X11_bright_22 : decode M_X11_bright.2.1 22 = .ok (.ifCond .ne 7, 3) := by decide +kernel
theorem d_X11_bright_25 : decode M_X11_bright.2.1 25 = .ok (.iconst (-1), 1) := by decide +kernel
theorem d_X11_bright_26 : decode M_X11_bright.2.1 26 = .ok (.goto 10, 3) := by decide +kernel
theorem d_X11_bright_29 : decode M_X11_bright.2.1 29 = .ok (.aload_n 0, 1) := by decide +kernel
theorem d_X11_bright_30 : decode M_X11_bright.2.1 30 = .ok (.iload_n 1, 1) := by decide +kernel
theorem d_X11_bright_31 : decode M_X11_bright.2.1 31 = .ok (.iload_n 2, 1) := by decide +kernel
theorem d_X11_bright_32 : decode M_X11_bright.2.1 32 = .ok (.iload_n 3, 1) := by decide +kernel
theorem d_X11_bright_33 : decode M_X11_bright.2.1 33 = .ok (.invokevirtual 443, 3) := by decide +kernel
theorem d_X11_bright_36 : decode M_X11_bright.2.1 36 = .ok (.ireturn, 1) := by decide +kernel
theorem ce_X11_bright : zw_CeV M_X11_bright 3 := ⟨⟨⟨by decide +kernel, by decide +kernel, by decide +kernel⟩, (zw_mG (List.mem_of_getElem? (i := 1692) (by decide +kernel)) rfl), (zw_mG (List.mem_of_getElem? (i := 108) (by decide +kernel)) rfl), by decide, by decide +kernel⟩, (zw_mG (List.mem_of_getElem? (i := 1690) (by decide +kernel)) rfl), (zw_mG (List.mem_of_getElem? (i := 1691) (by decide +kernel)) rfl)⟩
def j_X11_bright_25  (I : zI) (R : zR) : Option (Int32 × zI) :=
  some ((-1), I)
theorem j_X11_bright_25_ok (X : zw_X) (P : Option Value → aS → Prop)  (I : zI) (R : zR) (J : zJ) (o : Int32 × zI) (hf : j_X11_bright_25 I R = some o) (hk : P (some (.int o.1)) (o.2, R, J)) : zy_V X M_X11_bright 6 P 25 [.null, .null, .null, .null] [] (I, R, J) := by
  unfold j_X11_bright_25 at hf
  refine zv_iconst (pc := 25) d_X11_bright_25 zc_i_m1 ?_
  refine zv_goto (pc := 26) (tg := 36) d_X11_bright_26 (by decide) ?_
  cases hf
  exact zx_iret (pc := 36) d_X11_bright_36 rfl hk
def f_X11_bright (v0 : Nat) (v1 : Int32) (v2 : Int32) (v3 : Int32) (I : zI) (R : zR) : Option (Int32 × zI) :=
  zw_g (zw_gc v0 11) ((f_X11_cutRow v0 v1 I R).bind fun q2 => (if q2 = (-1) then j_X11_bright_25 I R else (f_X11_stuffRow v0 v2 I R).bind fun q4 => (if q4 = (-1) then j_X11_bright_25 I R else (f_X11_isColour v3).bind fun q6 => (if ¬ q6 = 0 then (f_X11_brightOf v0 v1 v2 v3 I R).bind fun q8 => (some (q8.1, q8.2)) else j_X11_bright_25 I R))))
theorem c_X11_bright (X : zw_X) (v0 : Nat) (v1 : Int32) (v2 : Int32) (v3 : Int32) (I : zI) (R : zR) (J : zJ) {P : Option Value → aS → Prop} (o : Int32 × zI) (hf : f_X11_bright v0 v1 v2 v3 I R = some o) (hk : P (some (.int o.1)) (o.2, R, J)) : zw_C X M_X11_bright 6 0 0 199 [.ref v0, .int v1, .int v2, .int v3] (I, R, J) P := by
  show zy_V X M_X11_bright 6 P 0 [.ref v0, .int v1, .int v2, .int v3] [] (I, R, J)
  unfold f_X11_bright at hf
  refine zv_aload_n (pc := 0) d_X11_bright_0 rfl ?_
  refine zv_iload_n (pc := 1) d_X11_bright_1 rfl ?_
  obtain ⟨g1, hf⟩ := zw_gcE hf (by decide)
  obtain ⟨q2, hq2, hf⟩ := zw_bdE hf
  refine zx_callV (pc := 2) (As := [.int v1]) (o := v0) (st := []) (d2 := 1) (M2 := M_X11_cutRow) (P2 := (fun r S => r = (some (.int q2)) ∧ S = (I, R, J))) d_X11_bright_2 (zw_mG (List.mem_of_getElem? (i := 1525) (by decide +kernel)) rfl) ce_X11_cutRow (zw_RvK g1 rfl rfl) (Nat.le_of_ble_eq_true rfl) rfl (Nat.le_of_ble_eq_true rfl) (by decide) (c_X11_cutRow X v0 v1 I R J _ hq2 ⟨rfl, rfl⟩) ?_
  rintro _ _ ⟨rfl, rfl⟩
  show zy_V X M_X11_bright 6 P (2 + 3) [.ref v0, .int v1, .int v2, .int v3] [.int q2] (I, R, J)
  refine zv_iconst (pc := 5) d_X11_bright_5 zc_i_m1 ?_
  rcases zw_ifE hf with ⟨c3, hf⟩ | ⟨c3, hf⟩
  · refine zv_icmp_eq (pc := 6) (tg := 25) d_X11_bright_6 (by decide) (fun _ => ?_) (fun q => absurd c3 q)
    exact zx_weak (zw_leN (zw_leN (zw_leN (zw_leN zw_leZ)))) (j_X11_bright_25_ok X P I R J _ hf hk)
  · refine zv_icmp_eq (pc := 6) (tg := 25) d_X11_bright_6 (by decide) (fun q => absurd q c3) (fun _ => ?_)
    refine zv_aload_n (pc := 9) d_X11_bright_9 rfl ?_
    refine zv_iload_n (pc := 10) d_X11_bright_10 rfl ?_
    obtain ⟨q4, hq4, hf⟩ := zw_bdE hf
    refine zx_callV (pc := 11) (As := [.int v2]) (o := v0) (st := []) (d2 := 1) (M2 := M_X11_stuffRow) (P2 := (fun r S => r = (some (.int q4)) ∧ S = (I, R, J))) d_X11_bright_11 (zw_mG (List.mem_of_getElem? (i := 1552) (by decide +kernel)) rfl) ce_X11_stuffRow (zw_RvK g1 rfl rfl) (Nat.le_of_ble_eq_true rfl) rfl (Nat.le_of_ble_eq_true rfl) (by decide) (c_X11_stuffRow X v0 v2 I R J _ hq4 ⟨rfl, rfl⟩) ?_
    rintro _ _ ⟨rfl, rfl⟩
    show zy_V X M_X11_bright 6 P (11 + 3) [.ref v0, .int v1, .int v2, .int v3] [.int q4] (I, R, J)
    refine zv_iconst (pc := 14) d_X11_bright_14 zc_i_m1 ?_
    rcases zw_ifE hf with ⟨c5, hf⟩ | ⟨c5, hf⟩
    · refine zv_icmp_eq (pc := 15) (tg := 25) d_X11_bright_15 (by decide) (fun _ => ?_) (fun q => absurd c5 q)
      exact zx_weak (zw_leN (zw_leN (zw_leN (zw_leN zw_leZ)))) (j_X11_bright_25_ok X P I R J _ hf hk)
    · refine zv_icmp_eq (pc := 15) (tg := 25) d_X11_bright_15 (by decide) (fun q => absurd q c5) (fun _ => ?_)
      refine zv_iload_n (pc := 18) d_X11_bright_18 rfl ?_
      obtain ⟨q6, hq6, hf⟩ := zw_bdE hf
      refine zx_callS (pc := 19) (As := [.int v3]) (st := []) (d2 := 0) (M2 := M_X11_isColour) (P2 := (fun r S => r = (some (.int q6)) ∧ S = (I, R, J))) d_X11_bright_19 (zw_mG (List.mem_of_getElem? (i := 1556) (by decide +kernel)) rfl) ce_X11_isColour (Nat.le_of_ble_eq_true rfl) rfl (Nat.le_of_ble_eq_true rfl) (by decide) (c_X11_isColour X v3 I R J _ hq6 ⟨rfl, rfl⟩) ?_
      rintro _ _ ⟨rfl, rfl⟩
      show zy_V X M_X11_bright 6 P (19 + 3) [.ref v0, .int v1, .int v2, .int v3] [.int q6] (I, R, J)
      rcases zw_ifE hf with ⟨c7, hf⟩ | ⟨c7, hf⟩
      · refine zv_if_ne (pc := 22) (tg := 29) d_X11_bright_22 (by decide) (fun _ => ?_) (fun q => absurd q c7)
        refine zv_aload_n (pc := 29) d_X11_bright_29 rfl ?_
        refine zv_iload_n (pc := 30) d_X11_bright_30 rfl ?_
        refine zv_iload_n (pc := 31) d_X11_bright_31 rfl ?_
        refine zv_iload_n (pc := 32) d_X11_bright_32 rfl ?_
        obtain ⟨q8, hq8, hf⟩ := zw_bdE hf
        refine zx_callV (pc := 33) (As := [.int v1, .int v2, .int v3]) (o := v0) (st := []) (d2 := 5) (M2 := M_X11_brightOf) (P2 := (fun r S => r = (some (.int q8.1)) ∧ S = (q8.2, R, J))) d_X11_bright_33 (zw_mG (List.mem_of_getElem? (i := 1693) (by decide +kernel)) rfl) ce_X11_brightOf (zw_RvK g1 rfl rfl) (Nat.le_of_ble_eq_true rfl) rfl (Nat.le_of_ble_eq_true rfl) (by decide) (c_X11_brightOf X v0 v1 v2 v3 I R J _ hq8 ⟨rfl, rfl⟩) ?_
        rintro _ _ ⟨rfl, rfl⟩
        show zy_V X M_X11_bright 6 P (33 + 3) [.ref v0, .int v1, .int v2, .int v3] [.int q8.1] (q8.2, R, J)
        cases hf
        exact zx_iret (pc := 36) d_X11_bright_36 rfl hk
      · refine zv_if_ne (pc := 22) (tg := 29) d_X11_bright_22 (by decide) (fun q => absurd q c7) (fun _ => ?_)
        exact zx_weak (zw_leN (zw_leN (zw_leN (zw_leN zw_leZ)))) (j_X11_bright_25_ok X P I R J _ hf hk)
abbrev M_X11_dearest : zw_M := (⟨"CutStonesModel", "dearest", "(III)I"⟩, prog_13_method_74_code, 8, (Option.some Jvm.ClassFile.FieldType.int))
theorem d_X11_dearest_0 : decode M_X11_dearest.2.1 0 = .ok (.aload_n 0, 1) := by decide +kernel
theorem d_X11_dearest_1 : decode M_X11_dearest.2.1 1 = .ok (.iload_n 1, 1) := by decide +kernel
theorem d_X11_dearest_2 : decode M_X11_dearest.2.1 2 = .ok (.iload_n 2, 1) := by decide +kernel
theorem d_X11_dearest_3 : decode M_X11_dearest.2.1 3 = .ok (.iload_n 3, 1) := by decide +kernel
theorem d_X11_dearest_4 : decode M_X11_dearest.2.1 4 = .ok (.invokevirtual 434, 3) := by decide +kernel
theorem d_X11_dearest_7 : decode M_X11_dearest.2.1 7 = .ok (.ifCond .ne 5, 3) := by decide +kernel
theorem d_X11_dearest_10 : decode M_X11_dearest.2.1 10 = .ok (.iconst (-1), 1) := by decide +kernel
theorem d_X11_dearest_11 : decode M_X11_dearest.2.1 11 = .ok (.ireturn, 1) := by decide +kernel
theorem d_X11_dearest_12 : decode M_X11_dearest.2.1 12 = .ok (.aload_n 0, 1) := by decide +kernel
theorem d_X11_dearest_13 : decode M_X11_dearest.2.1 13 = .ok (.iload_n 1, 1) := by decide +kernel
theorem d_X11_dearest_14 : decode M_X11_dearest.2.1 14 = .ok (.iload_n 3, 1) := by decide +kernel
theorem d_X11_dearest_15 : decode M_X11_dearest.2.1 15 = .ok (.invokevirtual 437, 3) := by decide +kernel
theorem d_X11_dearest_18 : decode M_X11_dearest.2.1 18 = .ok (.aload_n 0, 1) := by decide +kernel
theorem d_X11_dearest_19 : decode M_X11_dearest.2.1 19 = .ok (.iconst 0, 1) := by decide +kernel
theorem d_X11_dearest_20 : decode M_X11_dearest.2.1 20 = .ok (.putfield 270, 3) := by decide +kernel
theorem d_X11_dearest_23 : decode M_X11_dearest.2.1 23 = .ok (.bipush (-2), 2) := by decide +kernel
theorem d_X11_dearest_25 : decode M_X11_dearest.2.1 25 = .ok (.istore 4, 2) := by decide +kernel
theorem d_X11_dearest_27 : decode M_X11_dearest.2.1 27 = .ok (.iconst 0, 1) := by decide +kernel
theorem d_X11_dearest_28 : decode M_X11_dearest.2.1 28 = .ok (.istore 5, 2) := by decide +kernel
theorem d_X11_dearest_30 : decode M_X11_dearest.2.1 30 = .ok (.iload 5, 2) := by decide +kernel
theorem d_X11_dearest_32 : decode M_X11_dearest.2.1 32 = .ok (.aload_n 0, 1) := by decide +kernel
theorem d_X11_dearest_33 : decode M_X11_dearest.2.1 33 = .ok (.getfield 58, 3) := by decide +kernel
theorem d_X11_dearest_36 : decode M_X11_dearest.2.1 36 = .ok (.aload_n 0, 1) := by decide +kernel
theorem d_X11_dearest_37 : decode M_X11_dearest.2.1 37 = .ok (.getfield 248, 3) := by decide +kernel
theorem d_X11_dearest_40 : decode M_X11_dearest.2.1 40 = .ok (.iaload, 1) := by decide +kernel
theorem d_X11_dearest_41 : decode M_X11_dearest.2.1 41 = .ok (.if_icmp .ge 141, 3) := by decide +kernel
theorem d_X11_dearest_44 : decode M_X11_dearest.2.1 44 = .ok (.iload_n 1, 1) := by decide +kernel
theorem d_X11_dearest_45 : decode M_X11_dearest.2.1 45 = .ok (.iload 5, 2) := by decide +kernel
theorem d_X11_dearest_47 : decode M_X11_dearest.2.1 47 = .ok (.ishr, 1) := by decide +kernel
theorem d_X11_dearest_48 : decode M_X11_dearest.2.1 48 = .ok (.iconst 1, 1) := by decide +kernel
theorem d_X11_dearest_49 : decode M_X11_dearest.2.1 49 = .ok (.iand, 1) := by decide +kernel
theorem d_X11_dearest_50 : decode M_X11_dearest.2.1 50 = .ok (.ifCond .eq 126, 3) := by decide +kernel
theorem d_X11_dearest_53 : decode M_X11_dearest.2.1 53 = .ok (.iload 4, 2) := by decide +kernel
theorem d_X11_dearest_55 : decode M_X11_dearest.2.1 55 = .ok (.bipush (-2), 2) := by decide +kernel
theorem d_X11_dearest_57 : decode M_X11_dearest.2.1 57 = .ok (.if_icmp .eq 18, 3) := by decide +kernel
theorem d_X11_dearest_60 : decode M_X11_dearest.2.1 60 = .ok (.aload_n 0, 1) := by decide +kernel
theorem d_X11_dearest_61 : decode M_X11_dearest.2.1 61 = .ok (.getfield 152, 3) := by decide +kernel
theorem d_X11_dearest_64 : decode M_X11_dearest.2.1 64 = .ok (.iload 5, 2) := by decide +kernel
theorem d_X11_dearest_66 : decode M_X11_dearest.2.1 66 = .ok (.iaload, 1) := by decide +kernel
theorem d_X11_dearest_67 : decode M_X11_dearest.2.1 67 = .ok (.iload 4, 2) := by decide +kernel
theorem d_X11_dearest_69 : decode M_X11_dearest.2.1 69 = .ok (.if_icmp .gt 6, 3) := by decide +kernel
theorem d_X11_dearest_72 : decode M_X11_dearest.2.1 72 = .ok (.goto 104, 3) := by decide +kernel
theorem d_X11_dearest_75 : decode M_X11_dearest.2.1 75 = .ok (.aload_n 0, 1) := by decide +kernel
theorem d_X11_dearest_76 : decode M_X11_dearest.2.1 76 = .ok (.bipush 10, 2) := by decide +kernel
theorem d_X11_dearest_78 : decode M_X11_dearest.2.1 78 = .ok (.aload_n 0, 1) := by decide +kernel
theorem d_X11_dearest_79 : decode M_X11_dearest.2.1 79 = .ok (.getfield 248, 3) := by decide +kernel
theorem d_X11_dearest_82 : decode M_X11_dearest.2.1 82 = .ok (.imul, 1) := by decide +kernel
theorem d_X11_dearest_83 : decode M_X11_dearest.2.1 83 = .ok (.iload 5, 2) := by decide +kernel
theorem d_X11_dearest_85 : decode M_X11_dearest.2.1 85 = .ok (.iadd, 1) := by decide +kernel
theorem d_X11_dearest_86 : decode M_X11_dearest.2.1 86 = .ok (.aload_n 0, 1) := by decide +kernel
theorem d_X11_dearest_87 : decode M_X11_dearest.2.1 87 = .ok (.iload_n 2, 1) := by decide +kernel
theorem d_X11_dearest_88 : decode M_X11_dearest.2.1 88 = .ok (.invokevirtual 377, 3) := by decide +kernel
theorem d_X11_dearest_91 : decode M_X11_dearest.2.1 91 = .ok (.iconst 0, 1) := by decide +kernel
theorem d_X11_dearest_92 : decode M_X11_dearest.2.1 92 = .ok (.bipush 12, 2) := by decide +kernel
theorem d_X11_dearest_94 : decode M_X11_dearest.2.1 94 = .ok (.invokevirtual 439, 3) := by decide +kernel
theorem d_X11_dearest_97 : decode M_X11_dearest.2.1 97 = .ok (.istore 6, 2) := by decide +kernel
theorem d_X11_dearest_99 : decode M_X11_dearest.2.1 99 = .ok (.iload 6, 2) := by decide +kernel
theorem d_X11_dearest_101 : decode M_X11_dearest.2.1 101 = .ok (.iconst (-1), 1) := by decide +kernel
theorem d_X11_dearest_102 : decode M_X11_dearest.2.1 102 = .ok (.if_icmp .ne 6, 3) := by decide +kernel
theorem d_X11_dearest_105 : decode M_X11_dearest.2.1 105 = .ok (.goto 71, 3) := by decide +kernel
theorem d_X11_dearest_108 : decode M_X11_dearest.2.1 108 = .ok (.aload_n 0, 1) := by decide +kernel
theorem d_X11_dearest_109 : decode M_X11_dearest.2.1 109 = .ok (.getfield 152, 3) := by decide +kernel
theorem d_X11_dearest_112 : decode M_X11_dearest.2.1 112 = .ok (.iload 5, 2) := by decide +kernel
theorem d_X11_dearest_114 : decode M_X11_dearest.2.1 114 = .ok (.iaload, 1) := by decide +kernel
theorem d_X11_dearest_115 : decode M_X11_dearest.2.1 115 = .ok (.istore 4, 2) := by decide +kernel
theorem d_X11_dearest_117 : decode M_X11_dearest.2.1 117 = .ok (.aload_n 0, 1) := by decide +kernel
theorem d_X11_dearest_118 : decode M_X11_dearest.2.1 118 = .ok (.iconst 1, 1) := by decide +kernel
theorem d_X11_dearest_119 : decode M_X11_dearest.2.1 119 = .ok (.putfield 270, 3) := by decide +kernel
theorem d_X11_dearest_122 : decode M_X11_dearest.2.1 122 = .ok (.iconst 0, 1) := by decide +kernel
theorem d_X11_dearest_123 : decode M_X11_dearest.2.1 123 = .ok (.istore 7, 2) := by decide +kernel
theorem d_X11_dearest_125 : decode M_X11_dearest.2.1 125 = .ok (.iload 7, 2) := by decide +kernel
theorem d_X11_dearest_127 : decode M_X11_dearest.2.1 127 = .ok (.bipush 7, 2) := by decide +kernel
theorem d_X11_dearest_129 : decode M_X11_dearest.2.1 129 = .ok (.if_icmp .ge 17, 3) := by decide +kernel
theorem d_X11_dearest_132 : decode M_X11_dearest.2.1 132 = .ok (.aload_n 0, 1) := by decide +kernel
theorem d_X11_dearest_133 : decode M_X11_dearest.2.1 133 = .ok (.getfield 149, 3) := by decide +kernel
theorem d_X11_dearest_136 : decode M_X11_dearest.2.1 136 = .ok (.iload 7, 2) := by decide +kernel
theorem d_X11_dearest_138 : decode M_X11_dearest.2.1 138 = .ok (.iconst (-1), 1) := by decide +kernel
theorem d_X11_dearest_139 : decode M_X11_dearest.2.1 139 = .ok (.iastore, 1) := by decide +kernel
theorem d_X11_dearest_140 : decode M_X11_dearest.2.1 140 = .ok (.iinc 7 1, 3) := by decide +kernel
theorem d_X11_dearest_143 : decode M_X11_dearest.2.1 143 = .ok (.goto (-18), 3) := by decide +kernel
theorem d_X11_dearest_146 : decode M_X11_dearest.2.1 146 = .ok (.aload_n 0, 1) := by decide +kernel
theorem d_X11_dearest_147 : decode M_X11_dearest.2.1 147 = .ok (.getfield 149, 3) := by decide +kernel
theorem d_X11_dearest_150 : decode M_X11_dearest.2.1 150 = .ok (.iconst 1, 1) := by decide +kernel
theorem d_X11_dearest_151 : decode M_X11_dearest.2.1 151 = .ok (.iload 5, 2) := by decide +kernel
theorem d_X11_dearest_153 : decode M_X11_dearest.2.1 153 = .ok (.iastore, 1) := by decide +kernel
theorem d_X11_dearest_154 : decode M_X11_dearest.2.1 154 = .ok (.aload_n 0, 1) := by decide +kernel
theorem d_X11_dearest_155 : decode M_X11_dearest.2.1 155 = .ok (.getfield 149, 3) := by decide +kernel
theorem d_X11_dearest_158 : decode M_X11_dearest.2.1 158 = .ok (.iconst 2, 1) := by decide +kernel
theorem d_X11_dearest_159 : decode M_X11_dearest.2.1 159 = .ok (.iload 6, 2) := by decide +kernel
theorem d_X11_dearest_161 : decode M_X11_dearest.2.1 161 = .ok (.bipush 12, 2) := by decide +kernel
theorem d_X11_dearest_163 : decode M_X11_dearest.2.1 163 = .ok (.irem, 1) := by decide +kernel
theorem d_X11_dearest_164 : decode M_X11_dearest.2.1 164 = .ok (.iastore, 1) := by decide +kernel
theorem d_X11_dearest_165 : decode M_X11_dearest.2.1 165 = .ok (.aload_n 0, 1) := by decide +kernel
theorem d_X11_dearest_166 : decode M_X11_dearest.2.1 166 = .ok (.getfield 149, 3) := by decide +kernel
theorem d_X11_dearest_169 : decode M_X11_dearest.2.1 169 = .ok (.iconst 3, 1) := by decide +kernel
theorem d_X11_dearest_170 : decode M_X11_dearest.2.1 170 = .ok (.iload 6, 2) := by decide +kernel
theorem d_X11_dearest_172 : decode M_X11_dearest.2.1 172 = .ok (.bipush 12, 2) := by decide +kernel
theorem d_X11_dearest_174 : decode M_X11_dearest.2.1 174 = .ok (.idiv, 1) := by decide +kernel
theorem d_X11_dearest_175 : decode M_X11_dearest.2.1 175 = .ok (.iastore, 1) := by decide +kernel
theorem d_X11_dearest_176 : decode M_X11_dearest.2.1 176 = .ok (.iinc 5 1, 3) := by decide +kernel
theorem d_X11_dearest_179 : decode M_X11_dearest.2.1 179 = .ok (.goto (-149), 3) := by decide +kernel
theorem d_X11_dearest_182 : decode M_X11_dearest.2.1 182 = .ok (.iload 4, 2) := by decide +kernel
theorem d_X11_dearest_184 : decode M_X11_dearest.2.1 184 = .ok (.ireturn, 1) := by decide +kernel
theorem ce_X11_dearest : zw_CeV M_X11_dearest 3 := ⟨⟨⟨by decide +kernel, by decide +kernel, by decide +kernel⟩, (zw_mG (List.mem_of_getElem? (i := 1660) (by decide +kernel)) rfl), (zw_mG (List.mem_of_getElem? (i := 108) (by decide +kernel)) rfl), by decide, by decide +kernel⟩, (zw_mG (List.mem_of_getElem? (i := 1658) (by decide +kernel)) rfl), (zw_mG (List.mem_of_getElem? (i := 1659) (by decide +kernel)) rfl)⟩
def j_X11_dearest_176_30 (v0 : Nat) (v1 : Int32) (v2 : Int32) (v4 : Int32) (v5 : Int32) (I : zI) (R : zR) : Option ((Int32 × Int32 × zI) ⊕ (Int32 × zI)) :=
  zw_let (v5 + 1 : Int32) fun x11 => (some (.inl (v4, x11, I)))
theorem j_X11_dearest_176_30_ok (X : zw_X) (P : Option Value → aS → Prop) (v0 : Nat) (v1 : Int32) (v2 : Int32) (v4 : Int32) (v5 : Int32) (I : zI) (R : zR) (J : zJ) (o : (Int32 × Int32 × zI) ⊕ (Int32 × zI)) (hf : j_X11_dearest_176_30 v0 v1 v2 v4 v5 I R = some o) (hk : (zw_se (fun t => zy_V X M_X11_dearest 6 P 30 [.ref v0, .int v1, .int v2, .null, .int t.1, .int t.2.1, .null, .null] [] (t.2.2, R, J)) (fun r => zy_V X M_X11_dearest 6 P 182 [.null, .null, .null, .null, .int r.1, .null, .null, .null] [] (r.2, R, J)) o)) : zy_V X M_X11_dearest 6 P 176 [.ref v0, .int v1, .int v2, .null, .int v4, .int v5, .null, .null] [] (I, R, J) := by
  unfold j_X11_dearest_176_30 at hf
  obtain ⟨x11, ex11, hf⟩ := zw_letE hf
  refine zx_iinc (pc := 176) (x2 := x11) (L2 := [.ref v0, .int v1, .int v2, .null, .int v4, .int x11, .null, .null]) d_X11_dearest_176 (by decide) rfl zc_i_1 ex11 rfl ?_
  refine zv_goto (pc := 179) (tg := 30) d_X11_dearest_179 (by decide) ?_
  cases hf
  exact zx_weak (zw_leS (zw_leS (zw_leS (zw_leN (zw_leS (zw_leS (zw_leN (zw_leN zw_leZ)))))))) hk
def s_X11_dearest_125 (v0 : Nat) (v1 : Int32) (v2 : Int32) (v4 : Int32) (v5 : Int32) (v6 : Int32) (R : zR) (s : Int32 × zI) : Option ((Int32 × zI) ⊕ (zI)) :=
  if 7 ≤ s.1 then some (.inr s.2) else zw_g (zw_gc v0 11) (zw_g (zw_gc (R v0 71) 13) (zw_g (zw_in s.1 (zw_SH (R v0 71)).2) (zw_let (zw_u s.2 (R v0 71) (Int32.toNatClampNeg s.1) (-1) : zI) fun I25 => (zw_let (s.1 + 1 : Int32) fun x26 => (some (.inl (x26, I25)))))))
theorem s_X11_dearest_125_ok (X : zw_X) (P : Option Value → aS → Prop) (v0 : Nat) (v1 : Int32) (v2 : Int32) (v4 : Int32) (v5 : Int32) (v6 : Int32) (R : zR) (J : zJ) (s : Int32 × zI) (o : (Int32 × zI) ⊕ (zI)) (hf : s_X11_dearest_125 v0 v1 v2 v4 v5 v6 R s = some o) (hk : (zw_se (fun t => zy_V X M_X11_dearest 6 P 125 [.ref v0, .int v1, .int v2, .null, .int v4, .int v5, .int v6, .int t.1] [] (t.2, R, J)) (fun r => zy_V X M_X11_dearest 6 P 146 [.ref v0, .int v1, .int v2, .null, .int v4, .int v5, .int v6, .null] [] (r, R, J)) o)) : zy_V X M_X11_dearest 6 P 125 [.ref v0, .int v1, .int v2, .null, .int v4, .int v5, .int v6, .int s.1] [] (s.2, R, J) := by
  unfold s_X11_dearest_125 at hf
  refine zv_iload (pc := 125) d_X11_dearest_125 rfl ?_
  refine zv_bipush (pc := 127) d_X11_dearest_127 zc_b_7 ?_
  rcases zw_ifE hf with ⟨c21, hf⟩ | ⟨c21, hf⟩
  · refine zv_icmp_ge (pc := 129) (tg := 146) d_X11_dearest_129 (by decide) (fun _ => ?_) (fun q => absurd c21 q)
    cases hf
    exact zx_weak (zw_leS (zw_leS (zw_leS (zw_leN (zw_leS (zw_leS (zw_leS (zw_leN zw_leZ)))))))) hk
  · refine zv_icmp_ge (pc := 129) (tg := 146) d_X11_dearest_129 (by decide) (fun q => absurd q c21) (fun _ => ?_)
    refine zv_aload_n (pc := 132) d_X11_dearest_132 rfl ?_
    obtain ⟨g22, hf⟩ := zw_gcE hf (by decide)
    obtain ⟨g23, hf⟩ := zw_gcE hf (by decide)
    refine zx_getR (pc := 133) d_X11_dearest_133 lk_CutStonesModel_149 (by decide) g22 g23 ?_
    refine zv_iload (pc := 136) d_X11_dearest_136 rfl ?_
    refine zv_iconst (pc := 138) d_X11_dearest_138 zc_i_m1 ?_
    obtain ⟨i24, hf⟩ := zw_inE hf
    obtain ⟨I25, eI25, hf⟩ := zw_letE hf
    refine zx_iast (pc := 139) (I2 := I25) d_X11_dearest_139 g23 i24 eI25 ?_
    obtain ⟨x26, ex26, hf⟩ := zw_letE hf
    refine zx_iinc (pc := 140) (x2 := x26) (L2 := [.ref v0, .int v1, .int v2, .null, .int v4, .int v5, .int v6, .int x26]) d_X11_dearest_140 (by decide) rfl zc_i_1 ex26 rfl ?_
    refine zv_goto (pc := 143) (tg := 125) d_X11_dearest_143 (by decide) ?_
    cases hf
    exact zx_weak (zw_leS (zw_leS (zw_leS (zw_leN (zw_leS (zw_leS (zw_leS (zw_leS zw_leZ)))))))) hk
theorem s_X11_dearest_125_lp (X : zw_X) (P : Option Value → aS → Prop) (v0 : Nat) (v1 : Int32) (v2 : Int32) (v4 : Int32) (v5 : Int32) (v6 : Int32) (R : zR) (J : zJ) (n : Nat) (s : Int32 × zI) (r : zI) (h : zw_it (s_X11_dearest_125 v0 v1 v2 v4 v5 v6 R) n s = some r) (hq : zy_V X M_X11_dearest 6 P 146 [.ref v0, .int v1, .int v2, .null, .int v4, .int v5, .int v6, .null] [] (r, R, J)) : zy_V X M_X11_dearest 6 P 125 [.ref v0, .int v1, .int v2, .null, .int v4, .int v5, .int v6, .int s.1] [] (s.2, R, J) :=
  zw_itE (A := (fun t : Int32 × zI => zy_V X M_X11_dearest 6 P 125 [.ref v0, .int v1, .int v2, .null, .int v4, .int v5, .int v6, .int t.1] [] (t.2, R, J))) (Q := (fun r : zI => zy_V X M_X11_dearest 6 P 146 [.ref v0, .int v1, .int v2, .null, .int v4, .int v5, .int v6, .null] [] (r, R, J))) (fun s o h1 h2 => s_X11_dearest_125_ok X P v0 v1 v2 v4 v5 v6 R J s o h1 h2) n s r h hq
def j_X11_dearest_75_30 (v0 : Nat) (v1 : Int32) (v2 : Int32) (v4 : Int32) (v5 : Int32) (I : zI) (R : zR) : Option ((Int32 × Int32 × zI) ⊕ (Int32 × zI)) :=
  zw_g (zw_gc v0 11) ((f_X11_roughRow v0 v2 I R).bind fun q14 => ((f_X11_firstPlace v0 ((10 * (I v0 18)) + v5) q14 0 12 I R).bind fun q15 => (if ¬ q15 = (-1) then zw_g (zw_gc (R v0 72) 13) (zw_g (zw_in v5 (zw_SH (R v0 72)).2) (zw_let ((I (R v0 72) (Int32.toNatClampNeg v5)) : Int32) fun x19 => (zw_let (zw_u I v0 70 1 : zI) fun I20 => ((zw_it (s_X11_dearest_125 v0 v1 v2 x19 v5 q15 R) 1000000 (0, I20)).bind fun q27 => (zw_g (zw_gc (R v0 71) 13) (zw_g (zw_in 1 (zw_SH (R v0 71)).2) (zw_let (zw_u q27 (R v0 71) (Int32.toNatClampNeg 1) v5 : zI) fun I30 => (zw_g (zw_in 2 (zw_SH (R v0 71)).2) (zw_let (zw_u I30 (R v0 71) (Int32.toNatClampNeg 2) (q15 - q15 / 12 * 12) : zI) fun I32 => (zw_g (zw_in 3 (zw_SH (R v0 71)).2) (zw_let (zw_u I32 (R v0 71) (Int32.toNatClampNeg 3) (q15 / 12) : zI) fun I34 => (j_X11_dearest_176_30 v0 v1 v2 x19 v5 I34 R)))))))))))) else j_X11_dearest_176_30 v0 v1 v2 v4 v5 I R)))
theorem j_X11_dearest_75_30_ok (X : zw_X) (P : Option Value → aS → Prop) (v0 : Nat) (v1 : Int32) (v2 : Int32) (v4 : Int32) (v5 : Int32) (I : zI) (R : zR) (J : zJ) (o : (Int32 × Int32 × zI) ⊕ (Int32 × zI)) (hf : j_X11_dearest_75_30 v0 v1 v2 v4 v5 I R = some o) (hk : (zw_se (fun t => zy_V X M_X11_dearest 6 P 30 [.ref v0, .int v1, .int v2, .null, .int t.1, .int t.2.1, .null, .null] [] (t.2.2, R, J)) (fun r => zy_V X M_X11_dearest 6 P 182 [.null, .null, .null, .null, .int r.1, .null, .null, .null] [] (r.2, R, J)) o)) : zy_V X M_X11_dearest 6 P 75 [.ref v0, .int v1, .int v2, .null, .int v4, .int v5, .null, .null] [] (I, R, J) := by
  unfold j_X11_dearest_75_30 at hf
  refine zv_aload_n (pc := 75) d_X11_dearest_75 rfl ?_
  refine zv_bipush (pc := 76) d_X11_dearest_76 zc_b_10 ?_
  refine zv_aload_n (pc := 78) d_X11_dearest_78 rfl ?_
  obtain ⟨g13, hf⟩ := zw_gcE hf (by decide)
  refine zx_getI (pc := 79) d_X11_dearest_79 lk_CutStonesModel_248 (by decide) g13 ?_
  refine zv_imul (pc := 82) d_X11_dearest_82 ?_
  refine zv_iload (pc := 83) d_X11_dearest_83 rfl ?_
  refine zv_iadd (pc := 85) d_X11_dearest_85 ?_
  refine zv_aload_n (pc := 86) d_X11_dearest_86 rfl ?_
  refine zv_iload_n (pc := 87) d_X11_dearest_87 rfl ?_
  obtain ⟨q14, hq14, hf⟩ := zw_bdE hf
  refine zx_callV (pc := 88) (As := [.int v2]) (o := v0) (st := [.int ((10 * (I v0 18)) + v5), .ref v0]) (d2 := 1) (M2 := M_X11_roughRow) (P2 := (fun r S => r = (some (.int q14)) ∧ S = (I, R, J))) d_X11_dearest_88 (zw_mG (List.mem_of_getElem? (i := 1518) (by decide +kernel)) rfl) ce_X11_roughRow (zw_RvK g13 rfl rfl) (Nat.le_of_ble_eq_true rfl) rfl (Nat.le_of_ble_eq_true rfl) (by decide) (c_X11_roughRow X v0 v2 I R J _ hq14 ⟨rfl, rfl⟩) ?_
  rintro _ _ ⟨rfl, rfl⟩
  show zy_V X M_X11_dearest 6 P (88 + 3) [.ref v0, .int v1, .int v2, .null, .int v4, .int v5, .null, .null] [.int q14, .int ((10 * (I v0 18)) + v5), .ref v0] (I, R, J)
  refine zv_iconst (pc := 91) d_X11_dearest_91 zc_i_0 ?_
  refine zv_bipush (pc := 92) d_X11_dearest_92 zc_b_12 ?_
  obtain ⟨q15, hq15, hf⟩ := zw_bdE hf
  refine zx_callV (pc := 94) (As := [.int ((10 * (I v0 18)) + v5), .int q14, .int 0, .int 12]) (o := v0) (st := []) (d2 := 2) (M2 := M_X11_firstPlace) (P2 := (fun r S => r = (some (.int q15)) ∧ S = (I, R, J))) d_X11_dearest_94 (zw_mG (List.mem_of_getElem? (i := 1669) (by decide +kernel)) rfl) ce_X11_firstPlace (zw_RvK g13 rfl rfl) (Nat.le_of_ble_eq_true rfl) rfl (Nat.le_of_ble_eq_true rfl) (by decide) (c_X11_firstPlace X v0 ((10 * (I v0 18)) + v5) q14 0 12 I R J _ hq15 ⟨rfl, rfl⟩) ?_
  rintro _ _ ⟨rfl, rfl⟩
  show zy_V X M_X11_dearest 6 P (94 + 3) [.ref v0, .int v1, .int v2, .null, .int v4, .int v5, .null, .null] [.int q15] (I, R, J)
  refine zx_istore (pc := 97) (x2 := q15) (L2 := [.ref v0, .int v1, .int v2, .null, .int v4, .int v5, .int q15, .null]) d_X11_dearest_97 (by decide) rfl rfl ?_
  refine zv_iload (pc := 99) d_X11_dearest_99 rfl ?_
  refine zv_iconst (pc := 101) d_X11_dearest_101 zc_i_m1 ?_
  rcases zw_ifE hf with ⟨c16, hf⟩ | ⟨c16, hf⟩
  · refine zv_icmp_ne (pc := 102) (tg := 108) d_X11_dearest_102 (by decide) (fun _ => ?_) (fun q => absurd q c16)
    refine zv_aload_n (pc := 108) d_X11_dearest_108 rfl ?_
    obtain ⟨g17, hf⟩ := zw_gcE hf (by decide)
    refine zx_getR (pc := 109) d_X11_dearest_109 lk_CutStonesModel_152 (by decide) g13 g17 ?_
    refine zv_iload (pc := 112) d_X11_dearest_112 rfl ?_
    obtain ⟨i18, hf⟩ := zw_inE hf
    refine zx_iald (pc := 114) d_X11_dearest_114 g17 i18 ?_
    obtain ⟨x19, ex19, hf⟩ := zw_letE hf
    refine zx_istore (pc := 115) (x2 := x19) (L2 := [.ref v0, .int v1, .int v2, .null, .int x19, .int v5, .int q15, .null]) d_X11_dearest_115 (by decide) ex19 rfl ?_
    refine zv_aload_n (pc := 117) d_X11_dearest_117 rfl ?_
    refine zv_iconst (pc := 118) d_X11_dearest_118 zc_i_1 ?_
    obtain ⟨I20, eI20, hf⟩ := zw_letE hf
    refine zx_putZ (pc := 119) (I2 := I20) d_X11_dearest_119 lk_CutStonesModel_270 rfl (Or.inr rfl) g13 eI20 ?_
    refine zv_iconst (pc := 122) d_X11_dearest_122 zc_i_0 ?_
    refine zx_istore (pc := 123) (x2 := 0) (L2 := [.ref v0, .int v1, .int v2, .null, .int x19, .int v5, .int q15, .int 0]) d_X11_dearest_123 (by decide) rfl rfl ?_
    obtain ⟨q27, hq27, hf⟩ := zw_bdE hf
    refine zx_weak (L' := [.ref v0, .int v1, .int v2, .null, .int x19, .int v5, .int q15, .int 0]) (zw_leS (zw_leS (zw_leS (zw_leN (zw_leS (zw_leS (zw_leS (zw_leS zw_leZ)))))))) (s_X11_dearest_125_lp X P v0 v1 v2 x19 v5 q15 R J _ _ _ hq27 ?_)
    show zy_V X M_X11_dearest 6 P 146 [.ref v0, .int v1, .int v2, .null, .int x19, .int v5, .int q15, .null] [] (q27, R, J)
    refine zv_aload_n (pc := 146) d_X11_dearest_146 rfl ?_
    obtain ⟨g28, hf⟩ := zw_gcE hf (by decide)
    refine zx_getR (pc := 147) d_X11_dearest_147 lk_CutStonesModel_149 (by decide) g13 g28 ?_
    refine zv_iconst (pc := 150) d_X11_dearest_150 zc_i_1 ?_
    refine zv_iload (pc := 151) d_X11_dearest_151 rfl ?_
    obtain ⟨i29, hf⟩ := zw_inE hf
    obtain ⟨I30, eI30, hf⟩ := zw_letE hf
    refine zx_iast (pc := 153) (I2 := I30) d_X11_dearest_153 g28 i29 eI30 ?_
    refine zv_aload_n (pc := 154) d_X11_dearest_154 rfl ?_
    refine zx_getR (pc := 155) d_X11_dearest_155 lk_CutStonesModel_149 (by decide) g13 g28 ?_
    refine zv_iconst (pc := 158) d_X11_dearest_158 zc_i_2 ?_
    refine zv_iload (pc := 159) d_X11_dearest_159 rfl ?_
    refine zv_bipush (pc := 161) d_X11_dearest_161 zc_b_12 ?_
    refine zv_irem (pc := 163) d_X11_dearest_163 (by decide +kernel) ?_
    obtain ⟨i31, hf⟩ := zw_inE hf
    obtain ⟨I32, eI32, hf⟩ := zw_letE hf
    refine zx_iast (pc := 164) (I2 := I32) d_X11_dearest_164 g28 i31 eI32 ?_
    refine zv_aload_n (pc := 165) d_X11_dearest_165 rfl ?_
    refine zx_getR (pc := 166) d_X11_dearest_166 lk_CutStonesModel_149 (by decide) g13 g28 ?_
    refine zv_iconst (pc := 169) d_X11_dearest_169 zc_i_3 ?_
    refine zv_iload (pc := 170) d_X11_dearest_170 rfl ?_
    refine zv_bipush (pc := 172) d_X11_dearest_172 zc_b_12 ?_
    refine zv_idiv (pc := 174) d_X11_dearest_174 (by decide +kernel) ?_
    obtain ⟨i33, hf⟩ := zw_inE hf
    obtain ⟨I34, eI34, hf⟩ := zw_letE hf
    refine zx_iast (pc := 175) (I2 := I34) d_X11_dearest_175 g28 i33 eI34 ?_
    exact zx_weak (zw_leS (zw_leS (zw_leS (zw_leN (zw_leS (zw_leS (zw_leN (zw_leN zw_leZ)))))))) (j_X11_dearest_176_30_ok X P v0 v1 v2 x19 v5 I34 R J _ hf hk)
  · refine zv_icmp_ne (pc := 102) (tg := 108) d_X11_dearest_102 (by decide) (fun q => absurd q c16) (fun _ => ?_)
    refine zv_goto (pc := 105) (tg := 176) d_X11_dearest_105 (by decide) ?_
    exact zx_weak (zw_leS (zw_leS (zw_leS (zw_leN (zw_leS (zw_leS (zw_leN (zw_leN zw_leZ)))))))) (j_X11_dearest_176_30_ok X P v0 v1 v2 v4 v5 I R J _ hf hk)
def s_X11_dearest_30 (v0 : Nat) (v1 : Int32) (v2 : Int32) (R : zR) (s : Int32 × Int32 × zI) : Option ((Int32 × Int32 × zI) ⊕ (Int32 × zI)) :=
  zw_g (zw_gc v0 11) (zw_g (zw_gc (R v0 26) 13) (zw_g (zw_in (s.2.2 v0 18) (zw_SH (R v0 26)).2) (if (s.2.2 (R v0 26) (Int32.toNatClampNeg (s.2.2 v0 18))) ≤ s.2.1 then some (.inr (s.1, s.2.2)) else if ((v1 >>> (s.2.1 &&& 31)) &&& 1) = 0 then j_X11_dearest_176_30 v0 v1 v2 s.1 s.2.1 s.2.2 R else if s.1 = (-2) then j_X11_dearest_75_30 v0 v1 v2 s.1 s.2.1 s.2.2 R else zw_g (zw_gc (R v0 72) 13) (zw_g (zw_in s.2.1 (zw_SH (R v0 72)).2) (if s.1 < (s.2.2 (R v0 72) (Int32.toNatClampNeg s.2.1)) then j_X11_dearest_75_30 v0 v1 v2 s.1 s.2.1 s.2.2 R else j_X11_dearest_176_30 v0 v1 v2 s.1 s.2.1 s.2.2 R)))))
theorem s_X11_dearest_30_ok (X : zw_X) (P : Option Value → aS → Prop) (v0 : Nat) (v1 : Int32) (v2 : Int32) (R : zR) (J : zJ) (s : Int32 × Int32 × zI) (o : (Int32 × Int32 × zI) ⊕ (Int32 × zI)) (hf : s_X11_dearest_30 v0 v1 v2 R s = some o) (hk : (zw_se (fun t => zy_V X M_X11_dearest 6 P 30 [.ref v0, .int v1, .int v2, .null, .int t.1, .int t.2.1, .null, .null] [] (t.2.2, R, J)) (fun r => zy_V X M_X11_dearest 6 P 182 [.null, .null, .null, .null, .int r.1, .null, .null, .null] [] (r.2, R, J)) o)) : zy_V X M_X11_dearest 6 P 30 [.ref v0, .int v1, .int v2, .null, .int s.1, .int s.2.1, .null, .null] [] (s.2.2, R, J) := by
  unfold s_X11_dearest_30 at hf
  refine zv_iload (pc := 30) d_X11_dearest_30 rfl ?_
  refine zv_aload_n (pc := 32) d_X11_dearest_32 rfl ?_
  obtain ⟨g6, hf⟩ := zw_gcE hf (by decide)
  obtain ⟨g7, hf⟩ := zw_gcE hf (by decide)
  refine zx_getR (pc := 33) d_X11_dearest_33 lk_CutStonesModel_58 (by decide) g6 g7 ?_
  refine zv_aload_n (pc := 36) d_X11_dearest_36 rfl ?_
  refine zx_getI (pc := 37) d_X11_dearest_37 lk_CutStonesModel_248 (by decide) g6 ?_
  obtain ⟨i8, hf⟩ := zw_inE hf
  refine zx_iald (pc := 40) d_X11_dearest_40 g7 i8 ?_
  rcases zw_ifE hf with ⟨c9, hf⟩ | ⟨c9, hf⟩
  · refine zv_icmp_ge (pc := 41) (tg := 182) d_X11_dearest_41 (by decide) (fun _ => ?_) (fun q => absurd c9 q)
    cases hf
    exact zx_weak (zw_leN (zw_leN (zw_leN (zw_leN (zw_leS (zw_leN (zw_leN (zw_leN zw_leZ)))))))) hk
  · refine zv_icmp_ge (pc := 41) (tg := 182) d_X11_dearest_41 (by decide) (fun q => absurd q c9) (fun _ => ?_)
    refine zv_iload_n (pc := 44) d_X11_dearest_44 rfl ?_
    refine zv_iload (pc := 45) d_X11_dearest_45 rfl ?_
    refine zv_ishr (pc := 47) d_X11_dearest_47 ?_
    refine zv_iconst (pc := 48) d_X11_dearest_48 zc_i_1 ?_
    refine zv_iand (pc := 49) d_X11_dearest_49 ?_
    rcases zw_ifE hf with ⟨c10, hf⟩ | ⟨c10, hf⟩
    · refine zv_if_eq (pc := 50) (tg := 176) d_X11_dearest_50 (by decide) (fun _ => ?_) (fun q => absurd c10 q)
      exact zx_weak (zw_leS (zw_leS (zw_leS (zw_leN (zw_leS (zw_leS (zw_leN (zw_leN zw_leZ)))))))) (j_X11_dearest_176_30_ok X P v0 v1 v2 s.1 s.2.1 s.2.2 R J _ hf hk)
    · refine zv_if_eq (pc := 50) (tg := 176) d_X11_dearest_50 (by decide) (fun q => absurd q c10) (fun _ => ?_)
      refine zv_iload (pc := 53) d_X11_dearest_53 rfl ?_
      refine zv_bipush (pc := 55) d_X11_dearest_55 zc_b_m2 ?_
      rcases zw_ifE hf with ⟨c12, hf⟩ | ⟨c12, hf⟩
      · refine zv_icmp_eq (pc := 57) (tg := 75) d_X11_dearest_57 (by decide) (fun _ => ?_) (fun q => absurd c12 q)
        exact zx_weak (zw_leS (zw_leS (zw_leS (zw_leN (zw_leS (zw_leS (zw_leN (zw_leN zw_leZ)))))))) (j_X11_dearest_75_30_ok X P v0 v1 v2 s.1 s.2.1 s.2.2 R J _ hf hk)
      · refine zv_icmp_eq (pc := 57) (tg := 75) d_X11_dearest_57 (by decide) (fun q => absurd q c12) (fun _ => ?_)
        refine zv_aload_n (pc := 60) d_X11_dearest_60 rfl ?_
        obtain ⟨g35, hf⟩ := zw_gcE hf (by decide)
        refine zx_getR (pc := 61) d_X11_dearest_61 lk_CutStonesModel_152 (by decide) g6 g35 ?_
        refine zv_iload (pc := 64) d_X11_dearest_64 rfl ?_
        obtain ⟨i36, hf⟩ := zw_inE hf
        refine zx_iald (pc := 66) d_X11_dearest_66 g35 i36 ?_
        refine zv_iload (pc := 67) d_X11_dearest_67 rfl ?_
        rcases zw_ifE hf with ⟨c37, hf⟩ | ⟨c37, hf⟩
        · refine zv_icmp_gt (pc := 69) (tg := 75) d_X11_dearest_69 (by decide) (fun _ => ?_) (fun q => absurd c37 q)
          exact zx_weak (zw_leS (zw_leS (zw_leS (zw_leN (zw_leS (zw_leS (zw_leN (zw_leN zw_leZ)))))))) (j_X11_dearest_75_30_ok X P v0 v1 v2 s.1 s.2.1 s.2.2 R J _ hf hk)
        · refine zv_icmp_gt (pc := 69) (tg := 75) d_X11_dearest_69 (by decide) (fun q => absurd q c37) (fun _ => ?_)
          refine zv_goto (pc := 72) (tg := 176) d_X11_dearest_72 (by decide) ?_
          exact zx_weak (zw_leS (zw_leS (zw_leS (zw_leN (zw_leS (zw_leS (zw_leN (zw_leN zw_leZ)))))))) (j_X11_dearest_176_30_ok X P v0 v1 v2 s.1 s.2.1 s.2.2 R J _ hf hk)
theorem s_X11_dearest_30_lp (X : zw_X) (P : Option Value → aS → Prop) (v0 : Nat) (v1 : Int32) (v2 : Int32) (R : zR) (J : zJ) (n : Nat) (s : Int32 × Int32 × zI) (r : Int32 × zI) (h : zw_it (s_X11_dearest_30 v0 v1 v2 R) n s = some r) (hq : zy_V X M_X11_dearest 6 P 182 [.null, .null, .null, .null, .int r.1, .null, .null, .null] [] (r.2, R, J)) : zy_V X M_X11_dearest 6 P 30 [.ref v0, .int v1, .int v2, .null, .int s.1, .int s.2.1, .null, .null] [] (s.2.2, R, J) :=
  zw_itE (A := (fun t : Int32 × Int32 × zI => zy_V X M_X11_dearest 6 P 30 [.ref v0, .int v1, .int v2, .null, .int t.1, .int t.2.1, .null, .null] [] (t.2.2, R, J))) (Q := (fun r : Int32 × zI => zy_V X M_X11_dearest 6 P 182 [.null, .null, .null, .null, .int r.1, .null, .null, .null] [] (r.2, R, J))) (fun s o h1 h2 => s_X11_dearest_30_ok X P v0 v1 v2 R J s o h1 h2) n s r h hq
def f_X11_dearest (v0 : Nat) (v1 : Int32) (v2 : Int32) (v3 : Int32) (I : zI) (R : zR) : Option (Int32 × zI) :=
  zw_g (zw_gc v0 11) ((f_X11_isAsked v0 v1 v2 v3 I R).bind fun q2 => (if ¬ q2 = 0 then (f_X11_prices v0 v1 v3 I R).bind fun q4 => (zw_let (zw_u q4 v0 70 0 : zI) fun I5 => ((zw_it (s_X11_dearest_30 v0 v1 v2 R) 1000000 ((-2), 0, I5)).bind fun q38 => (some (q38.1, q38.2)))) else some ((-1), I)))
theorem c_X11_dearest (X : zw_X) (v0 : Nat) (v1 : Int32) (v2 : Int32) (v3 : Int32) (I : zI) (R : zR) (J : zJ) {P : Option Value → aS → Prop} (o : Int32 × zI) (hf : f_X11_dearest v0 v1 v2 v3 I R = some o) (hk : P (some (.int o.1)) (o.2, R, J)) : zw_C X M_X11_dearest 6 0 0 199 [.ref v0, .int v1, .int v2, .int v3] (I, R, J) P := by
  show zy_V X M_X11_dearest 6 P 0 [.ref v0, .int v1, .int v2, .int v3, .null, .null, .null, .null] [] (I, R, J)
  unfold f_X11_dearest at hf
  refine zv_aload_n (pc := 0) d_X11_dearest_0 rfl ?_
  refine zv_iload_n (pc := 1) d_X11_dearest_1 rfl ?_
  refine zv_iload_n (pc := 2) d_X11_dearest_2 rfl ?_
  refine zv_iload_n (pc := 3) d_X11_dearest_3 rfl ?_
  obtain ⟨g1, hf⟩ := zw_gcE hf (by decide)
  obtain ⟨q2, hq2, hf⟩ := zw_bdE hf
  refine zx_callV (pc := 4) (As := [.int v1, .int v2, .int v3]) (o := v0) (st := []) (d2 := 2) (M2 := M_X11_isAsked) (P2 := (fun r S => r = (some (.int q2)) ∧ S = (I, R, J))) d_X11_dearest_4 (zw_mG (List.mem_of_getElem? (i := 1661) (by decide +kernel)) rfl) ce_X11_isAsked (zw_RvK g1 rfl rfl) (Nat.le_of_ble_eq_true rfl) rfl (Nat.le_of_ble_eq_true rfl) (by decide) (c_X11_isAsked X v0 v1 v2 v3 I R J _ hq2 ⟨rfl, rfl⟩) ?_
  rintro _ _ ⟨rfl, rfl⟩
  show zy_V X M_X11_dearest 6 P (4 + 3) [.ref v0, .int v1, .int v2, .int v3, .null, .null, .null, .null] [.int q2] (I, R, J)
  rcases zw_ifE hf with ⟨c3, hf⟩ | ⟨c3, hf⟩
  · refine zv_if_ne (pc := 7) (tg := 12) d_X11_dearest_7 (by decide) (fun _ => ?_) (fun q => absurd q c3)
    refine zv_aload_n (pc := 12) d_X11_dearest_12 rfl ?_
    refine zv_iload_n (pc := 13) d_X11_dearest_13 rfl ?_
    refine zv_iload_n (pc := 14) d_X11_dearest_14 rfl ?_
    obtain ⟨q4, hq4, hf⟩ := zw_bdE hf
    refine zx_callV (pc := 15) (As := [.int v1, .int v3]) (o := v0) (st := []) (d2 := 5) (M2 := M_X11_prices) (P2 := (fun r S => r = none ∧ S = (q4, R, J))) d_X11_dearest_15 (zw_mG (List.mem_of_getElem? (i := 1665) (by decide +kernel)) rfl) ce_X11_prices (zw_RvK g1 rfl rfl) (Nat.le_of_ble_eq_true rfl) rfl (Nat.le_of_ble_eq_true rfl) (by decide) (c_X11_prices X v0 v1 v3 I R J _ hq4 ⟨rfl, rfl⟩) ?_
    rintro _ _ ⟨rfl, rfl⟩
    show zy_V X M_X11_dearest 6 P (15 + 3) [.ref v0, .int v1, .int v2, .int v3, .null, .null, .null, .null] [] (q4, R, J)
    refine zv_aload_n (pc := 18) d_X11_dearest_18 rfl ?_
    refine zv_iconst (pc := 19) d_X11_dearest_19 zc_i_0 ?_
    obtain ⟨I5, eI5, hf⟩ := zw_letE hf
    refine zx_putZ (pc := 20) (I2 := I5) d_X11_dearest_20 lk_CutStonesModel_270 rfl (Or.inl rfl) g1 eI5 ?_
    refine zv_bipush (pc := 23) d_X11_dearest_23 zc_b_m2 ?_
    refine zx_istore (pc := 25) (x2 := (-2)) (L2 := [.ref v0, .int v1, .int v2, .int v3, .int (-2), .null, .null, .null]) d_X11_dearest_25 (by decide) rfl rfl ?_
    refine zv_iconst (pc := 27) d_X11_dearest_27 zc_i_0 ?_
    refine zx_istore (pc := 28) (x2 := 0) (L2 := [.ref v0, .int v1, .int v2, .int v3, .int (-2), .int 0, .null, .null]) d_X11_dearest_28 (by decide) rfl rfl ?_
    obtain ⟨q38, hq38, hf⟩ := zw_bdE hf
    refine zx_weak (L' := [.ref v0, .int v1, .int v2, .null, .int (-2), .int 0, .null, .null]) (zw_leS (zw_leS (zw_leS (zw_leN (zw_leS (zw_leS (zw_leN (zw_leN zw_leZ)))))))) (s_X11_dearest_30_lp X P v0 v1 v2 R J _ _ _ hq38 ?_)
    show zy_V X M_X11_dearest 6 P 182 [.null, .null, .null, .null, .int q38.1, .null, .null, .null] [] (q38.2, R, J)
    refine zv_iload (pc := 182) d_X11_dearest_182 rfl ?_
    cases hf
    exact zx_iret (pc := 184) d_X11_dearest_184 rfl hk
  · refine zv_if_ne (pc := 7) (tg := 12) d_X11_dearest_7 (by decide) (fun q => absurd q c3) (fun _ => ?_)
    refine zv_iconst (pc := 10) d_X11_dearest_10 zc_i_m1 ?_
    cases hf
    exact zx_iret (pc := 11) d_X11_dearest_11 rfl hk
abbrev M_X11_tell : zw_M := (⟨"CutStonesModel", "tell", "()V"⟩, prog_13_method_22_code, 1, (Option.none : Option Jvm.ClassFile.FieldType))
theorem d_X11_tell_0 : decode M_X11_tell.2.1 0 = .ok (.aload_n 0, 1) := by decide +kernel
theorem d_X11_tell_1 : decode M_X11_tell.2.1 1 = .ok (.getfield 20, 3) := by decide +kernel
theorem d_X11_tell_4 : decode M_X11_tell.2.1 4 = .ok (.aload_n 0, 1) := by decide +kernel
theorem d_X11_tell_5 : decode M_X11_tell.2.1 5 = .ok (.getfield 221, 3) := by decide +kernel
theorem d_X11_tell_8 : decode M_X11_tell.2.1 8 = .ok (.iaload, 1) := by decide +kernel
theorem d_X11_tell_9 : decode M_X11_tell.2.1 9 = .ok (.tableswitch 276 20 24 #[35, 67, 118, 171, 222], 35) := by decide +kernel
theorem d_X11_tell_44 : decode M_X11_tell.2.1 44 = .ok (.aload_n 0, 1) := by decide +kernel
theorem d_X11_tell_45 : decode M_X11_tell.2.1 45 = .ok (.getfield 46, 3) := by decide +kernel
theorem d_X11_tell_48 : decode M_X11_tell.2.1 48 = .ok (.aload_n 0, 1) := by decide +kernel
theorem d_X11_tell_49 : decode M_X11_tell.2.1 49 = .ok (.getfield 251, 3) := by decide +kernel
theorem d_X11_tell_52 : decode M_X11_tell.2.1 52 = .ok (.iaload, 1) := by decide +kernel
theorem d_X11_tell_53 : decode M_X11_tell.2.1 53 = .ok (.iconst 4, 1) := by decide +kernel
theorem d_X11_tell_54 : decode M_X11_tell.2.1 54 = .ok (.if_icmp .ne 8, 3) := by decide +kernel
theorem d_X11_tell_57 : decode M_X11_tell.2.1 57 = .ok (.aload_n 0, 1) := by decide +kernel
theorem d_X11_tell_58 : decode M_X11_tell.2.1 58 = .ok (.iconst 2, 1) := by decide +kernel
theorem d_X11_tell_59 : decode M_X11_tell.2.1 59 = .ok (.invokevirtual 233, 3) := by decide +kernel
theorem d_X11_tell_62 : decode M_X11_tell.2.1 62 = .ok (.aload_n 0, 1) := by decide +kernel
theorem d_X11_tell_63 : decode M_X11_tell.2.1 63 = .ok (.getfield 218, 3) := by decide +kernel
theorem d_X11_tell_66 : decode M_X11_tell.2.1 66 = .ok (.ifCond .ne 224, 3) := by decide +kernel
theorem d_X11_tell_69 : decode M_X11_tell.2.1 69 = .ok (.aload_n 0, 1) := by decide +kernel
theorem d_X11_tell_70 : decode M_X11_tell.2.1 70 = .ok (.invokevirtual 276, 3) := by decide +kernel
theorem d_X11_tell_73 : decode M_X11_tell.2.1 73 = .ok (.goto 217, 3) := by decide +kernel
theorem d_X11_tell_76 : decode M_X11_tell.2.1 76 = .ok (.aload_n 0, 1) := by decide +kernel
theorem d_X11_tell_77 : decode M_X11_tell.2.1 77 = .ok (.getfield 58, 3) := by decide +kernel
theorem d_X11_tell_80 : decode M_X11_tell.2.1 80 = .ok (.aload_n 0, 1) := by decide +kernel
theorem d_X11_tell_81 : decode M_X11_tell.2.1 81 = .ok (.getfield 251, 3) := by decide +kernel
theorem d_X11_tell_84 : decode M_X11_tell.2.1 84 = .ok (.iaload, 1) := by decide +kernel
theorem d_X11_tell_85 : decode M_X11_tell.2.1 85 = .ok (.bipush 6, 2) := by decide +kernel
theorem d_X11_tell_87 : decode M_X11_tell.2.1 87 = .ok (.if_icmp .ne 8, 3) := by decide +kernel
theorem d_X11_tell_90 : decode M_X11_tell.2.1 90 = .ok (.aload_n 0, 1) := by decide +kernel
theorem d_X11_tell_91 : decode M_X11_tell.2.1 91 = .ok (.iconst 2, 1) := by decide +kernel
theorem d_X11_tell_92 : decode M_X11_tell.2.1 92 = .ok (.invokevirtual 233, 3) := by decide +kernel
theorem d_X11_tell_95 : decode M_X11_tell.2.1 95 = .ok (.aload_n 0, 1) := by decide +kernel
theorem d_X11_tell_96 : decode M_X11_tell.2.1 96 = .ok (.getfield 218, 3) := by decide +kernel
theorem d_X11_tell_99 : decode M_X11_tell.2.1 99 = .ok (.ifCond .ne 191, 3) := by decide +kernel
theorem d_X11_tell_102 : decode M_X11_tell.2.1 102 = .ok (.aload_n 0, 1) := by decide +kernel
theorem d_X11_tell_103 : decode M_X11_tell.2.1 103 = .ok (.bipush 10, 2) := by decide +kernel
theorem d_X11_tell_105 : decode M_X11_tell.2.1 105 = .ok (.aload_n 0, 1) := by decide +kernel
theorem d_X11_tell_106 : decode M_X11_tell.2.1 106 = .ok (.getfield 251, 3) := by decide +kernel
theorem d_X11_tell_109 : decode M_X11_tell.2.1 109 = .ok (.imul, 1) := by decide +kernel
theorem d_X11_tell_110 : decode M_X11_tell.2.1 110 = .ok (.aload_n 0, 1) := by decide +kernel
theorem d_X11_tell_111 : decode M_X11_tell.2.1 111 = .ok (.getfield 58, 3) := by decide +kernel
theorem d_X11_tell_114 : decode M_X11_tell.2.1 114 = .ok (.aload_n 0, 1) := by decide +kernel
theorem d_X11_tell_115 : decode M_X11_tell.2.1 115 = .ok (.getfield 251, 3) := by decide +kernel
theorem d_X11_tell_118 : decode M_X11_tell.2.1 118 = .ok (.iaload, 1) := by decide +kernel
theorem d_X11_tell_119 : decode M_X11_tell.2.1 119 = .ok (.iadd, 1) := by decide +kernel
theorem d_X11_tell_120 : decode M_X11_tell.2.1 120 = .ok (.iconst 1, 1) := by decide +kernel
theorem d_X11_tell_121 : decode M_X11_tell.2.1 121 = .ok (.invokevirtual 279, 3) := by decide +kernel
theorem d_X11_tell_124 : decode M_X11_tell.2.1 124 = .ok (.goto 166, 3) := by decide +kernel
theorem d_X11_tell_127 : decode M_X11_tell.2.1 127 = .ok (.aload_n 0, 1) := by decide +kernel
theorem d_X11_tell_128 : decode M_X11_tell.2.1 128 = .ok (.getfield 61, 3) := by decide +kernel
theorem d_X11_tell_131 : decode M_X11_tell.2.1 131 = .ok (.aload_n 0, 1) := by decide +kernel
theorem d_X11_tell_132 : decode M_X11_tell.2.1 132 = .ok (.getfield 251, 3) := by decide +kernel
theorem d_X11_tell_135 : decode M_X11_tell.2.1 135 = .ok (.iaload, 1) := by decide +kernel
theorem d_X11_tell_136 : decode M_X11_tell.2.1 136 = .ok (.iconst 4, 1) := by decide +kernel
theorem d_X11_tell_137 : decode M_X11_tell.2.1 137 = .ok (.if_icmp .ne 8, 3) := by decide +kernel
theorem d_X11_tell_140 : decode M_X11_tell.2.1 140 = .ok (.aload_n 0, 1) := by decide +kernel
theorem d_X11_tell_141 : decode M_X11_tell.2.1 141 = .ok (.iconst 2, 1) := by decide +kernel
theorem d_X11_tell_142 : decode M_X11_tell.2.1 142 = .ok (.invokevirtual 233, 3) := by decide +kernel
theorem d_X11_tell_145 : decode M_X11_tell.2.1 145 = .ok (.aload_n 0, 1) := by decide +kernel
theorem d_X11_tell_146 : decode M_X11_tell.2.1 146 = .ok (.getfield 218, 3) := by decide +kernel
theorem d_X11_tell_149 : decode M_X11_tell.2.1 149 = .ok (.ifCond .ne 141, 3) := by decide +kernel
theorem d_X11_tell_152 : decode M_X11_tell.2.1 152 = .ok (.aload_n 0, 1) := by decide +kernel
theorem d_X11_tell_153 : decode M_X11_tell.2.1 153 = .ok (.bipush 10, 2) := by decide +kernel
theorem d_X11_tell_155 : decode M_X11_tell.2.1 155 = .ok (.aload_n 0, 1) := by decide +kernel
theorem d_X11_tell_156 : decode M_X11_tell.2.1 156 = .ok (.getfield 251, 3) := by decide +kernel
theorem d_X11_tell_159 : decode M_X11_tell.2.1 159 = .ok (.imul, 1) := by decide +kernel
theorem d_X11_tell_160 : decode M_X11_tell.2.1 160 = .ok (.bipush 6, 2) := by decide +kernel
theorem d_X11_tell_162 : decode M_X11_tell.2.1 162 = .ok (.iadd, 1) := by decide +kernel
theorem d_X11_tell_163 : decode M_X11_tell.2.1 163 = .ok (.aload_n 0, 1) := by decide +kernel
theorem d_X11_tell_164 : decode M_X11_tell.2.1 164 = .ok (.getfield 61, 3) := by decide +kernel
theorem d_X11_tell_167 : decode M_X11_tell.2.1 167 = .ok (.aload_n 0, 1) := by decide +kernel
theorem d_X11_tell_168 : decode M_X11_tell.2.1 168 = .ok (.getfield 251, 3) := by decide +kernel
theorem d_X11_tell_171 : decode M_X11_tell.2.1 171 = .ok (.iaload, 1) := by decide +kernel
theorem d_X11_tell_172 : decode M_X11_tell.2.1 172 = .ok (.iadd, 1) := by decide +kernel
theorem d_X11_tell_173 : decode M_X11_tell.2.1 173 = .ok (.iconst 0, 1) := by decide +kernel
theorem d_X11_tell_174 : decode M_X11_tell.2.1 174 = .ok (.invokevirtual 279, 3) := by decide +kernel
theorem d_X11_tell_177 : decode M_X11_tell.2.1 177 = .ok (.goto 113, 3) := by decide +kernel
theorem d_X11_tell_180 : decode M_X11_tell.2.1 180 = .ok (.aload_n 0, 1) := by decide +kernel
theorem d_X11_tell_181 : decode M_X11_tell.2.1 181 = .ok (.getfield 73, 3) := by decide +kernel
theorem d_X11_tell_184 : decode M_X11_tell.2.1 184 = .ok (.aload_n 0, 1) := by decide +kernel
theorem d_X11_tell_185 : decode M_X11_tell.2.1 185 = .ok (.getfield 251, 3) := by decide +kernel
theorem d_X11_tell_188 : decode M_X11_tell.2.1 188 = .ok (.iaload, 1) := by decide +kernel
theorem d_X11_tell_189 : decode M_X11_tell.2.1 189 = .ok (.bipush 8, 2) := by decide +kernel
theorem d_X11_tell_191 : decode M_X11_tell.2.1 191 = .ok (.if_icmp .ne 8, 3) := by decide +kernel
theorem d_X11_tell_194 : decode M_X11_tell.2.1 194 = .ok (.aload_n 0, 1) := by decide +kernel
theorem d_X11_tell_195 : decode M_X11_tell.2.1 195 = .ok (.iconst 2, 1) := by decide +kernel
theorem d_X11_tell_196 : decode M_X11_tell.2.1 196 = .ok (.invokevirtual 233, 3) := by decide +kernel
theorem d_X11_tell_199 : decode M_X11_tell.2.1 199 = .ok (.aload_n 0, 1) := by decide +kernel
theorem d_X11_tell_200 : decode M_X11_tell.2.1 200 = .ok (.getfield 218, 3) := by decide +kernel
theorem d_X11_tell_203 : decode M_X11_tell.2.1 203 = .ok (.ifCond .ne 87, 3) := by decide +kernel
theorem d_X11_tell_206 : decode M_X11_tell.2.1 206 = .ok (.aload_n 0, 1) := by decide +kernel
theorem d_X11_tell_207 : decode M_X11_tell.2.1 207 = .ok (.bipush 16, 2) := by decide +kernel
theorem d_X11_tell_209 : decode M_X11_tell.2.1 209 = .ok (.aload_n 0, 1) := by decide +kernel
theorem d_X11_tell_210 : decode M_X11_tell.2.1 210 = .ok (.getfield 251, 3) := by decide +kernel
theorem d_X11_tell_213 : decode M_X11_tell.2.1 213 = .ok (.imul, 1) := by decide +kernel
theorem d_X11_tell_214 : decode M_X11_tell.2.1 214 = .ok (.aload_n 0, 1) := by decide +kernel
theorem d_X11_tell_215 : decode M_X11_tell.2.1 215 = .ok (.getfield 73, 3) := by decide +kernel
theorem d_X11_tell_218 : decode M_X11_tell.2.1 218 = .ok (.aload_n 0, 1) := by decide +kernel
theorem d_X11_tell_219 : decode M_X11_tell.2.1 219 = .ok (.getfield 251, 3) := by decide +kernel
theorem d_X11_tell_222 : decode M_X11_tell.2.1 222 = .ok (.iaload, 1) := by decide +kernel
theorem d_X11_tell_223 : decode M_X11_tell.2.1 223 = .ok (.iadd, 1) := by decide +kernel
theorem d_X11_tell_224 : decode M_X11_tell.2.1 224 = .ok (.iconst 0, 1) := by decide +kernel
theorem d_X11_tell_225 : decode M_X11_tell.2.1 225 = .ok (.invokevirtual 283, 3) := by decide +kernel
theorem d_X11_tell_228 : decode M_X11_tell.2.1 228 = .ok (.goto 62, 3) := by decide +kernel
theorem d_X11_tell_231 : decode M_X11_tell.2.1 231 = .ok (.aload_n 0, 1) := by decide +kernel
theorem d_X11_tell_232 : decode M_X11_tell.2.1 232 = .ok (.getfield 76, 3) := by decide +kernel
theorem d_X11_tell_235 : decode M_X11_tell.2.1 235 = .ok (.aload_n 0, 1) := by decide +kernel
theorem d_X11_tell_236 : decode M_X11_tell.2.1 236 = .ok (.getfield 251, 3) := by decide +kernel
theorem d_X11_tell_239 : decode M_X11_tell.2.1 239 = .ok (.iaload, 1) := by decide +kernel
theorem d_X11_tell_240 : decode M_X11_tell.2.1 240 = .ok (.bipush 8, 2) := by decide +kernel
theorem d_X11_tell_242 : decode M_X11_tell.2.1 242 = .ok (.if_icmp .ne 8, 3) := by decide +kernel
theorem d_X11_tell_245 : decode M_X11_tell.2.1 245 = .ok (.aload_n 0, 1) := by decide +kernel
theorem d_X11_tell_246 : decode M_X11_tell.2.1 246 = .ok (.iconst 2, 1) := by decide +kernel
theorem d_X11_tell_247 : decode M_X11_tell.2.1 247 = .ok (.invokevirtual 233, 3) := by decide +kernel
theorem d_X11_tell_250 : decode M_X11_tell.2.1 250 = .ok (.aload_n 0, 1) := by decide +kernel
theorem d_X11_tell_251 : decode M_X11_tell.2.1 251 = .ok (.getfield 218, 3) := by decide +kernel
theorem d_X11_tell_254 : decode M_X11_tell.2.1 254 = .ok (.ifCond .ne 36, 3) := by decide +kernel
theorem d_X11_tell_257 : decode M_X11_tell.2.1 257 = .ok (.aload_n 0, 1) := by decide +kernel
theorem d_X11_tell_258 : decode M_X11_tell.2.1 258 = .ok (.bipush 16, 2) := by decide +kernel
theorem d_X11_tell_260 : decode M_X11_tell.2.1 260 = .ok (.aload_n 0, 1) := by decide +kernel
theorem d_X11_tell_261 : decode M_X11_tell.2.1 261 = .ok (.getfield 251, 3) := by decide +kernel
theorem d_X11_tell_264 : decode M_X11_tell.2.1 264 = .ok (.imul, 1) := by decide +kernel
theorem d_X11_tell_265 : decode M_X11_tell.2.1 265 = .ok (.bipush 8, 2) := by decide +kernel
theorem d_X11_tell_267 : decode M_X11_tell.2.1 267 = .ok (.iadd, 1) := by decide +kernel
theorem d_X11_tell_268 : decode M_X11_tell.2.1 268 = .ok (.aload_n 0, 1) := by decide +kernel
theorem d_X11_tell_269 : decode M_X11_tell.2.1 269 = .ok (.getfield 76, 3) := by decide +kernel
theorem d_X11_tell_272 : decode M_X11_tell.2.1 272 = .ok (.aload_n 0, 1) := by decide +kernel
theorem d_X11_tell_273 : decode M_X11_tell.2.1 273 = .ok (.getfield 251, 3) := by decide +kernel
theorem d_X11_tell_276 : decode M_X11_tell.2.1 276 = .ok (.iaload, 1) := by decide +kernel
theorem d_X11_tell_277 : decode M_X11_tell.2.1 277 = .ok (.iadd, 1) := by decide +kernel
theorem d_X11_tell_278 : decode M_X11_tell.2.1 278 = .ok (.iconst 1, 1) := by decide +kernel
theorem d_X11_tell_279 : decode M_X11_tell.2.1 279 = .ok (.invokevirtual 283, 3) := by decide +kernel
theorem d_X11_tell_282 : decode M_X11_tell.2.1 282 = .ok (.goto 8, 3) := by decide +kernel
theorem d_X11_tell_285 : decode M_X11_tell.2.1 285 = .ok (.aload_n 0, 1) := by decide +kernel
theorem d_X11_tell_286 : decode M_X11_tell.2.1 286 = .ok (.iconst 1, 1) := by decide +kernel
theorem d_X11_tell_287 : decode M_X11_tell.2.1 287 = .ok (.invokevirtual 233, 3) := by decide +kernel
theorem d_X11_tell_290 : decode M_X11_tell.2.1 290 = .ok (.return_, 1) := by decide +kernel
theorem ce_X11_tell : zw_CeV M_X11_tell 0 := ⟨⟨⟨by decide +kernel, by decide +kernel, by decide +kernel⟩, (zw_mG (List.mem_of_getElem? (i := 1449) (by decide +kernel)) rfl), (zw_mG (List.mem_of_getElem? (i := 108) (by decide +kernel)) rfl), by decide, by decide +kernel⟩, (zw_mG (List.mem_of_getElem? (i := 1448) (by decide +kernel)) rfl), (zw_mG (List.mem_of_getElem? (i := 55) (by decide +kernel)) rfl)⟩
def j_X11_tell_62 (v0 : Nat) (I : zI) (R : zR) (J : zJ) : Option (zI × zJ) :=
  zw_g (zw_gc v0 11) (if ¬ (I v0 13) = 0 then some (I, J) else (f_X11_tellStuff v0 I R J).bind fun q11 => (some (q11.1, q11.2)))
theorem j_X11_tell_62_ok (X : zw_X) (P : Option Value → aS → Prop) (v0 : Nat) (I : zI) (R : zR) (J : zJ) (o : zI × zJ) (hf : j_X11_tell_62 v0 I R J = some o) (hk : P none (o.1, R, o.2)) : zy_V X M_X11_tell 6 P 62 [.ref v0] [] (I, R, J) := by
  unfold j_X11_tell_62 at hf
  refine zv_aload_n (pc := 62) d_X11_tell_62 rfl ?_
  obtain ⟨g9, hf⟩ := zw_gcE hf (by decide)
  refine zx_getI (pc := 63) d_X11_tell_63 lk_CutStonesModel_218 (by decide) g9 ?_
  rcases zw_ifE hf with ⟨c10, hf⟩ | ⟨c10, hf⟩
  · refine zv_if_ne (pc := 66) (tg := 290) d_X11_tell_66 (by decide) (fun _ => ?_) (fun q => absurd q c10)
    cases hf
    exact zx_vret (pc := 290) d_X11_tell_290 rfl hk
  · refine zv_if_ne (pc := 66) (tg := 290) d_X11_tell_66 (by decide) (fun q => absurd q c10) (fun _ => ?_)
    refine zv_aload_n (pc := 69) d_X11_tell_69 rfl ?_
    obtain ⟨q11, hq11, hf⟩ := zw_bdE hf
    refine zx_callV (pc := 70) (As := []) (o := v0) (st := []) (d2 := 4) (M2 := M_X11_tellStuff) (P2 := (fun r S => r = none ∧ S = (q11.1, R, q11.2))) d_X11_tell_70 (zw_mG (List.mem_of_getElem? (i := 1454) (by decide +kernel)) rfl) ce_X11_tellStuff (zw_RvK g9 rfl rfl) (Nat.le_of_ble_eq_true rfl) rfl (Nat.le_of_ble_eq_true rfl) (by decide) (c_X11_tellStuff X v0 I R J _ hq11 ⟨rfl, rfl⟩) ?_
    rintro _ _ ⟨rfl, rfl⟩
    show zy_V X M_X11_tell 6 P (70 + 3) [.ref v0] [] (q11.1, R, q11.2)
    refine zv_goto (pc := 73) (tg := 290) d_X11_tell_73 (by decide) ?_
    cases hf
    exact zx_vret (pc := 290) d_X11_tell_290 rfl hk
def j_X11_tell_95 (v0 : Nat) (I : zI) (R : zR) (J : zJ) : Option (zI × zJ) :=
  zw_g (zw_gc v0 11) (if ¬ (I v0 13) = 0 then some (I, J) else zw_g (zw_gc (R v0 26) 13) (zw_g (zw_in (I v0 19) (zw_SH (R v0 26)).2) ((f_X11_tellRows v0 ((10 * (I v0 19)) + (I (R v0 26) (Int32.toNatClampNeg (I v0 19)))) 1 I R J).bind fun q21 => (some (q21.1, q21.2)))))
theorem j_X11_tell_95_ok (X : zw_X) (P : Option Value → aS → Prop) (v0 : Nat) (I : zI) (R : zR) (J : zJ) (o : zI × zJ) (hf : j_X11_tell_95 v0 I R J = some o) (hk : P none (o.1, R, o.2)) : zy_V X M_X11_tell 6 P 95 [.ref v0] [] (I, R, J) := by
  unfold j_X11_tell_95 at hf
  refine zv_aload_n (pc := 95) d_X11_tell_95 rfl ?_
  obtain ⟨g17, hf⟩ := zw_gcE hf (by decide)
  refine zx_getI (pc := 96) d_X11_tell_96 lk_CutStonesModel_218 (by decide) g17 ?_
  rcases zw_ifE hf with ⟨c18, hf⟩ | ⟨c18, hf⟩
  · refine zv_if_ne (pc := 99) (tg := 290) d_X11_tell_99 (by decide) (fun _ => ?_) (fun q => absurd q c18)
    cases hf
    exact zx_vret (pc := 290) d_X11_tell_290 rfl hk
  · refine zv_if_ne (pc := 99) (tg := 290) d_X11_tell_99 (by decide) (fun q => absurd q c18) (fun _ => ?_)
    refine zv_aload_n (pc := 102) d_X11_tell_102 rfl ?_
    refine zv_bipush (pc := 103) d_X11_tell_103 zc_b_10 ?_
    refine zv_aload_n (pc := 105) d_X11_tell_105 rfl ?_
    refine zx_getI (pc := 106) d_X11_tell_106 lk_CutStonesModel_251 (by decide) g17 ?_
    refine zv_imul (pc := 109) d_X11_tell_109 ?_
    refine zv_aload_n (pc := 110) d_X11_tell_110 rfl ?_
    obtain ⟨g19, hf⟩ := zw_gcE hf (by decide)
    refine zx_getR (pc := 111) d_X11_tell_111 lk_CutStonesModel_58 (by decide) g17 g19 ?_
    refine zv_aload_n (pc := 114) d_X11_tell_114 rfl ?_
    refine zx_getI (pc := 115) d_X11_tell_115 lk_CutStonesModel_251 (by decide) g17 ?_
    obtain ⟨i20, hf⟩ := zw_inE hf
    refine zx_iald (pc := 118) d_X11_tell_118 g19 i20 ?_
    refine zv_iadd (pc := 119) d_X11_tell_119 ?_
    refine zv_iconst (pc := 120) d_X11_tell_120 zc_i_1 ?_
    obtain ⟨q21, hq21, hf⟩ := zw_bdE hf
    refine zx_callV (pc := 121) (As := [.int ((10 * (I v0 19)) + (I (R v0 26) (Int32.toNatClampNeg (I v0 19)))), .int 1]) (o := v0) (st := []) (d2 := 4) (M2 := M_X11_tellRows) (P2 := (fun r S => r = none ∧ S = (q21.1, R, q21.2))) d_X11_tell_121 (zw_mG (List.mem_of_getElem? (i := 1478) (by decide +kernel)) rfl) ce_X11_tellRows (zw_RvK g17 rfl rfl) (Nat.le_of_ble_eq_true rfl) rfl (Nat.le_of_ble_eq_true rfl) (by decide) (c_X11_tellRows X v0 ((10 * (I v0 19)) + (I (R v0 26) (Int32.toNatClampNeg (I v0 19)))) 1 I R J _ hq21 ⟨rfl, rfl⟩) ?_
    rintro _ _ ⟨rfl, rfl⟩
    show zy_V X M_X11_tell 6 P (121 + 3) [.ref v0] [] (q21.1, R, q21.2)
    refine zv_goto (pc := 124) (tg := 290) d_X11_tell_124 (by decide) ?_
    cases hf
    exact zx_vret (pc := 290) d_X11_tell_290 rfl hk
def j_X11_tell_145 (v0 : Nat) (I : zI) (R : zR) (J : zJ) : Option (zI × zJ) :=
  zw_g (zw_gc v0 11) (if ¬ (I v0 13) = 0 then some (I, J) else zw_g (zw_gc (R v0 27) 13) (zw_g (zw_in (I v0 19) (zw_SH (R v0 27)).2) ((f_X11_tellRows v0 (((10 * (I v0 19)) + 6) + (I (R v0 27) (Int32.toNatClampNeg (I v0 19)))) 0 I R J).bind fun q31 => (some (q31.1, q31.2)))))
theorem j_X11_tell_145_ok (X : zw_X) (P : Option Value → aS → Prop) (v0 : Nat) (I : zI) (R : zR) (J : zJ) (o : zI × zJ) (hf : j_X11_tell_145 v0 I R J = some o) (hk : P none (o.1, R, o.2)) : zy_V X M_X11_tell 6 P 145 [.ref v0] [] (I, R, J) := by
  unfold j_X11_tell_145 at hf
  refine zv_aload_n (pc := 145) d_X11_tell_145 rfl ?_
  obtain ⟨g27, hf⟩ := zw_gcE hf (by decide)
  refine zx_getI (pc := 146) d_X11_tell_146 lk_CutStonesModel_218 (by decide) g27 ?_
  rcases zw_ifE hf with ⟨c28, hf⟩ | ⟨c28, hf⟩
  · refine zv_if_ne (pc := 149) (tg := 290) d_X11_tell_149 (by decide) (fun _ => ?_) (fun q => absurd q c28)
    cases hf
    exact zx_vret (pc := 290) d_X11_tell_290 rfl hk
  · refine zv_if_ne (pc := 149) (tg := 290) d_X11_tell_149 (by decide) (fun q => absurd q c28) (fun _ => ?_)
    refine zv_aload_n (pc := 152) d_X11_tell_152 rfl ?_
    refine zv_bipush (pc := 153) d_X11_tell_153 zc_b_10 ?_
    refine zv_aload_n (pc := 155) d_X11_tell_155 rfl ?_
    refine zx_getI (pc := 156) d_X11_tell_156 lk_CutStonesModel_251 (by decide) g27 ?_
    refine zv_imul (pc := 159) d_X11_tell_159 ?_
    refine zv_bipush (pc := 160) d_X11_tell_160 zc_b_6 ?_
    refine zv_iadd (pc := 162) d_X11_tell_162 ?_
    refine zv_aload_n (pc := 163) d_X11_tell_163 rfl ?_
    obtain ⟨g29, hf⟩ := zw_gcE hf (by decide)
    refine zx_getR (pc := 164) d_X11_tell_164 lk_CutStonesModel_61 (by decide) g27 g29 ?_
    refine zv_aload_n (pc := 167) d_X11_tell_167 rfl ?_
    refine zx_getI (pc := 168) d_X11_tell_168 lk_CutStonesModel_251 (by decide) g27 ?_
    obtain ⟨i30, hf⟩ := zw_inE hf
    refine zx_iald (pc := 171) d_X11_tell_171 g29 i30 ?_
    refine zv_iadd (pc := 172) d_X11_tell_172 ?_
    refine zv_iconst (pc := 173) d_X11_tell_173 zc_i_0 ?_
    obtain ⟨q31, hq31, hf⟩ := zw_bdE hf
    refine zx_callV (pc := 174) (As := [.int (((10 * (I v0 19)) + 6) + (I (R v0 27) (Int32.toNatClampNeg (I v0 19)))), .int 0]) (o := v0) (st := []) (d2 := 4) (M2 := M_X11_tellRows) (P2 := (fun r S => r = none ∧ S = (q31.1, R, q31.2))) d_X11_tell_174 (zw_mG (List.mem_of_getElem? (i := 1478) (by decide +kernel)) rfl) ce_X11_tellRows (zw_RvK g27 rfl rfl) (Nat.le_of_ble_eq_true rfl) rfl (Nat.le_of_ble_eq_true rfl) (by decide) (c_X11_tellRows X v0 (((10 * (I v0 19)) + 6) + (I (R v0 27) (Int32.toNatClampNeg (I v0 19)))) 0 I R J _ hq31 ⟨rfl, rfl⟩) ?_
    rintro _ _ ⟨rfl, rfl⟩
    show zy_V X M_X11_tell 6 P (174 + 3) [.ref v0] [] (q31.1, R, q31.2)
    refine zv_goto (pc := 177) (tg := 290) d_X11_tell_177 (by decide) ?_
    cases hf
    exact zx_vret (pc := 290) d_X11_tell_290 rfl hk
def j_X11_tell_199 (v0 : Nat) (I : zI) (R : zR) (J : zJ) : Option (zI × zJ) :=
  zw_g (zw_gc v0 11) (if ¬ (I v0 13) = 0 then some (I, J) else zw_g (zw_gc (R v0 31) 13) (zw_g (zw_in (I v0 19) (zw_SH (R v0 31)).2) ((f_X11_tellRule v0 ((16 * (I v0 19)) + (I (R v0 31) (Int32.toNatClampNeg (I v0 19)))) 0 I R J).bind fun q41 => (some (q41.1, q41.2)))))
theorem j_X11_tell_199_ok (X : zw_X) (P : Option Value → aS → Prop) (v0 : Nat) (I : zI) (R : zR) (J : zJ) (o : zI × zJ) (hf : j_X11_tell_199 v0 I R J = some o) (hk : P none (o.1, R, o.2)) : zy_V X M_X11_tell 6 P 199 [.ref v0] [] (I, R, J) := by
  unfold j_X11_tell_199 at hf
  refine zv_aload_n (pc := 199) d_X11_tell_199 rfl ?_
  obtain ⟨g37, hf⟩ := zw_gcE hf (by decide)
  refine zx_getI (pc := 200) d_X11_tell_200 lk_CutStonesModel_218 (by decide) g37 ?_
  rcases zw_ifE hf with ⟨c38, hf⟩ | ⟨c38, hf⟩
  · refine zv_if_ne (pc := 203) (tg := 290) d_X11_tell_203 (by decide) (fun _ => ?_) (fun q => absurd q c38)
    cases hf
    exact zx_vret (pc := 290) d_X11_tell_290 rfl hk
  · refine zv_if_ne (pc := 203) (tg := 290) d_X11_tell_203 (by decide) (fun q => absurd q c38) (fun _ => ?_)
    refine zv_aload_n (pc := 206) d_X11_tell_206 rfl ?_
    refine zv_bipush (pc := 207) d_X11_tell_207 zc_b_16 ?_
    refine zv_aload_n (pc := 209) d_X11_tell_209 rfl ?_
    refine zx_getI (pc := 210) d_X11_tell_210 lk_CutStonesModel_251 (by decide) g37 ?_
    refine zv_imul (pc := 213) d_X11_tell_213 ?_
    refine zv_aload_n (pc := 214) d_X11_tell_214 rfl ?_
    obtain ⟨g39, hf⟩ := zw_gcE hf (by decide)
    refine zx_getR (pc := 215) d_X11_tell_215 lk_CutStonesModel_73 (by decide) g37 g39 ?_
    refine zv_aload_n (pc := 218) d_X11_tell_218 rfl ?_
    refine zx_getI (pc := 219) d_X11_tell_219 lk_CutStonesModel_251 (by decide) g37 ?_
    obtain ⟨i40, hf⟩ := zw_inE hf
    refine zx_iald (pc := 222) d_X11_tell_222 g39 i40 ?_
    refine zv_iadd (pc := 223) d_X11_tell_223 ?_
    refine zv_iconst (pc := 224) d_X11_tell_224 zc_i_0 ?_
    obtain ⟨q41, hq41, hf⟩ := zw_bdE hf
    refine zx_callV (pc := 225) (As := [.int ((16 * (I v0 19)) + (I (R v0 31) (Int32.toNatClampNeg (I v0 19)))), .int 0]) (o := v0) (st := []) (d2 := 5) (M2 := M_X11_tellRule) (P2 := (fun r S => r = none ∧ S = (q41.1, R, q41.2))) d_X11_tell_225 (zw_mG (List.mem_of_getElem? (i := 1482) (by decide +kernel)) rfl) ce_X11_tellRule (zw_RvK g37 rfl rfl) (Nat.le_of_ble_eq_true rfl) rfl (Nat.le_of_ble_eq_true rfl) (by decide) (c_X11_tellRule X v0 ((16 * (I v0 19)) + (I (R v0 31) (Int32.toNatClampNeg (I v0 19)))) 0 I R J _ hq41 ⟨rfl, rfl⟩) ?_
    rintro _ _ ⟨rfl, rfl⟩
    show zy_V X M_X11_tell 6 P (225 + 3) [.ref v0] [] (q41.1, R, q41.2)
    refine zv_goto (pc := 228) (tg := 290) d_X11_tell_228 (by decide) ?_
    cases hf
    exact zx_vret (pc := 290) d_X11_tell_290 rfl hk
def j_X11_tell_250 (v0 : Nat) (I : zI) (R : zR) (J : zJ) : Option (zI × zJ) :=
  zw_g (zw_gc v0 11) (if ¬ (I v0 13) = 0 then some (I, J) else zw_g (zw_gc (R v0 32) 13) (zw_g (zw_in (I v0 19) (zw_SH (R v0 32)).2) ((f_X11_tellRule v0 (((16 * (I v0 19)) + 8) + (I (R v0 32) (Int32.toNatClampNeg (I v0 19)))) 1 I R J).bind fun q51 => (some (q51.1, q51.2)))))
theorem j_X11_tell_250_ok (X : zw_X) (P : Option Value → aS → Prop) (v0 : Nat) (I : zI) (R : zR) (J : zJ) (o : zI × zJ) (hf : j_X11_tell_250 v0 I R J = some o) (hk : P none (o.1, R, o.2)) : zy_V X M_X11_tell 6 P 250 [.ref v0] [] (I, R, J) := by
  unfold j_X11_tell_250 at hf
  refine zv_aload_n (pc := 250) d_X11_tell_250 rfl ?_
  obtain ⟨g47, hf⟩ := zw_gcE hf (by decide)
  refine zx_getI (pc := 251) d_X11_tell_251 lk_CutStonesModel_218 (by decide) g47 ?_
  rcases zw_ifE hf with ⟨c48, hf⟩ | ⟨c48, hf⟩
  · refine zv_if_ne (pc := 254) (tg := 290) d_X11_tell_254 (by decide) (fun _ => ?_) (fun q => absurd q c48)
    cases hf
    exact zx_vret (pc := 290) d_X11_tell_290 rfl hk
  · refine zv_if_ne (pc := 254) (tg := 290) d_X11_tell_254 (by decide) (fun q => absurd q c48) (fun _ => ?_)
    refine zv_aload_n (pc := 257) d_X11_tell_257 rfl ?_
    refine zv_bipush (pc := 258) d_X11_tell_258 zc_b_16 ?_
    refine zv_aload_n (pc := 260) d_X11_tell_260 rfl ?_
    refine zx_getI (pc := 261) d_X11_tell_261 lk_CutStonesModel_251 (by decide) g47 ?_
    refine zv_imul (pc := 264) d_X11_tell_264 ?_
    refine zv_bipush (pc := 265) d_X11_tell_265 zc_b_8 ?_
    refine zv_iadd (pc := 267) d_X11_tell_267 ?_
    refine zv_aload_n (pc := 268) d_X11_tell_268 rfl ?_
    obtain ⟨g49, hf⟩ := zw_gcE hf (by decide)
    refine zx_getR (pc := 269) d_X11_tell_269 lk_CutStonesModel_76 (by decide) g47 g49 ?_
    refine zv_aload_n (pc := 272) d_X11_tell_272 rfl ?_
    refine zx_getI (pc := 273) d_X11_tell_273 lk_CutStonesModel_251 (by decide) g47 ?_
    obtain ⟨i50, hf⟩ := zw_inE hf
    refine zx_iald (pc := 276) d_X11_tell_276 g49 i50 ?_
    refine zv_iadd (pc := 277) d_X11_tell_277 ?_
    refine zv_iconst (pc := 278) d_X11_tell_278 zc_i_1 ?_
    obtain ⟨q51, hq51, hf⟩ := zw_bdE hf
    refine zx_callV (pc := 279) (As := [.int (((16 * (I v0 19)) + 8) + (I (R v0 32) (Int32.toNatClampNeg (I v0 19)))), .int 1]) (o := v0) (st := []) (d2 := 5) (M2 := M_X11_tellRule) (P2 := (fun r S => r = none ∧ S = (q51.1, R, q51.2))) d_X11_tell_279 (zw_mG (List.mem_of_getElem? (i := 1482) (by decide +kernel)) rfl) ce_X11_tellRule (zw_RvK g47 rfl rfl) (Nat.le_of_ble_eq_true rfl) rfl (Nat.le_of_ble_eq_true rfl) (by decide) (c_X11_tellRule X v0 (((16 * (I v0 19)) + 8) + (I (R v0 32) (Int32.toNatClampNeg (I v0 19)))) 1 I R J _ hq51 ⟨rfl, rfl⟩) ?_
    rintro _ _ ⟨rfl, rfl⟩
    show zy_V X M_X11_tell 6 P (279 + 3) [.ref v0] [] (q51.1, R, q51.2)
    refine zv_goto (pc := 282) (tg := 290) d_X11_tell_282 (by decide) ?_
    cases hf
    exact zx_vret (pc := 290) d_X11_tell_290 rfl hk
def f_X11_tell (v0 : Nat) (I : zI) (R : zR) (J : zJ) : Option (zI × zJ) :=
  zw_g (zw_gc v0 11) (zw_g (zw_gc (R v0 5) 13) (zw_g (zw_in (I v0 11) (zw_SH (R v0 5)).2) (zw_let ((I (R v0 5) (Int32.toNatClampNeg (I v0 11))) : Int32) fun x4 => (if x4 = 20 then zw_g (zw_gc (R v0 22) 13) (zw_g (zw_in (I v0 19) (zw_SH (R v0 22)).2) (if ¬ (I (R v0 22) (Int32.toNatClampNeg (I v0 19))) = 4 then j_X11_tell_62 v0 I R J else (f_X11_fail v0 2 I R).bind fun q12 => (j_X11_tell_62 v0 q12 R J))) else (if x4 = 21 then zw_g (zw_gc (R v0 26) 13) (zw_g (zw_in (I v0 19) (zw_SH (R v0 26)).2) (if ¬ (I (R v0 26) (Int32.toNatClampNeg (I v0 19))) = 6 then j_X11_tell_95 v0 I R J else (f_X11_fail v0 2 I R).bind fun q22 => (j_X11_tell_95 v0 q22 R J))) else (if x4 = 22 then zw_g (zw_gc (R v0 27) 13) (zw_g (zw_in (I v0 19) (zw_SH (R v0 27)).2) (if ¬ (I (R v0 27) (Int32.toNatClampNeg (I v0 19))) = 4 then j_X11_tell_145 v0 I R J else (f_X11_fail v0 2 I R).bind fun q32 => (j_X11_tell_145 v0 q32 R J))) else (if x4 = 23 then zw_g (zw_gc (R v0 31) 13) (zw_g (zw_in (I v0 19) (zw_SH (R v0 31)).2) (if ¬ (I (R v0 31) (Int32.toNatClampNeg (I v0 19))) = 8 then j_X11_tell_199 v0 I R J else (f_X11_fail v0 2 I R).bind fun q42 => (j_X11_tell_199 v0 q42 R J))) else (if x4 = 24 then zw_g (zw_gc (R v0 32) 13) (zw_g (zw_in (I v0 19) (zw_SH (R v0 32)).2) (if ¬ (I (R v0 32) (Int32.toNatClampNeg (I v0 19))) = 8 then j_X11_tell_250 v0 I R J else (f_X11_fail v0 2 I R).bind fun q52 => (j_X11_tell_250 v0 q52 R J))) else ((f_X11_fail v0 1 I R).bind fun q53 => (some (q53, J)))))))))))
theorem c_X11_tell (X : zw_X) (v0 : Nat) (I : zI) (R : zR) (J : zJ) {P : Option Value → aS → Prop} (o : zI × zJ) (hf : f_X11_tell v0 I R J = some o) (hk : P none (o.1, R, o.2)) : zw_C X M_X11_tell 6 0 0 199 [.ref v0] (I, R, J) P := by
  show zy_V X M_X11_tell 6 P 0 [.ref v0] [] (I, R, J)
  unfold f_X11_tell at hf
  refine zv_aload_n (pc := 0) d_X11_tell_0 rfl ?_
  obtain ⟨g1, hf⟩ := zw_gcE hf (by decide)
  obtain ⟨g2, hf⟩ := zw_gcE hf (by decide)
  refine zx_getR (pc := 1) d_X11_tell_1 lk_CutStonesModel_20 (by decide) g1 g2 ?_
  refine zv_aload_n (pc := 4) d_X11_tell_4 rfl ?_
  refine zx_getI (pc := 5) d_X11_tell_5 lk_CutStonesModel_221 (by decide) g1 ?_
  obtain ⟨i3, hf⟩ := zw_inE hf
  refine zx_iald (pc := 8) d_X11_tell_8 g2 i3 ?_
  obtain ⟨x4, ex4, hf⟩ := zw_letE hf
  rw [← ex4]
  rcases zw_ifE hf with ⟨c5, hf⟩ | ⟨c5, hf⟩
  · refine zx_tsIn (pc := 9) (tg := 44) (z := 35) d_X11_tell_9 (by rw [c5]; decide +kernel) (by rw [c5]; decide +kernel) (by rw [c5]; decide +kernel) (by decide) ?_
    refine zv_aload_n (pc := 44) d_X11_tell_44 rfl ?_
    obtain ⟨g6, hf⟩ := zw_gcE hf (by decide)
    refine zx_getR (pc := 45) d_X11_tell_45 lk_CutStonesModel_46 (by decide) g1 g6 ?_
    refine zv_aload_n (pc := 48) d_X11_tell_48 rfl ?_
    refine zx_getI (pc := 49) d_X11_tell_49 lk_CutStonesModel_251 (by decide) g1 ?_
    obtain ⟨i7, hf⟩ := zw_inE hf
    refine zx_iald (pc := 52) d_X11_tell_52 g6 i7 ?_
    refine zv_iconst (pc := 53) d_X11_tell_53 zc_i_4 ?_
    rcases zw_ifE hf with ⟨c8, hf⟩ | ⟨c8, hf⟩
    · refine zv_icmp_ne (pc := 54) (tg := 62) d_X11_tell_54 (by decide) (fun _ => ?_) (fun q => absurd q c8)
      exact zx_weak (zw_leS zw_leZ) (j_X11_tell_62_ok X P v0 I R J _ hf hk)
    · refine zv_icmp_ne (pc := 54) (tg := 62) d_X11_tell_54 (by decide) (fun q => absurd q c8) (fun _ => ?_)
      refine zv_aload_n (pc := 57) d_X11_tell_57 rfl ?_
      refine zv_iconst (pc := 58) d_X11_tell_58 zc_i_2 ?_
      obtain ⟨q12, hq12, hf⟩ := zw_bdE hf
      refine zx_callV (pc := 59) (As := [.int 2]) (o := v0) (st := []) (d2 := 0) (M2 := M_X11_fail) (P2 := (fun r S => r = none ∧ S = (q12, R, J))) d_X11_tell_59 (zw_mG (List.mem_of_getElem? (i := 1450) (by decide +kernel)) rfl) ce_X11_fail (zw_RvK g1 rfl rfl) (Nat.le_of_ble_eq_true rfl) rfl (Nat.le_of_ble_eq_true rfl) (by decide) (c_X11_fail X v0 2 I R J _ hq12 ⟨rfl, rfl⟩) ?_
      rintro _ _ ⟨rfl, rfl⟩
      show zy_V X M_X11_tell 6 P (59 + 3) [.ref v0] [] (q12, R, J)
      exact zx_weak (zw_leS zw_leZ) (j_X11_tell_62_ok X P v0 q12 R J _ hf hk)
  ·
    rcases zw_ifE hf with ⟨c13, hf⟩ | ⟨c13, hf⟩
    · refine zx_tsIn (pc := 9) (tg := 76) (z := 67) d_X11_tell_9 (by rw [c13]; decide +kernel) (by rw [c13]; decide +kernel) (by rw [c13]; decide +kernel) (by decide) ?_
      refine zv_aload_n (pc := 76) d_X11_tell_76 rfl ?_
      obtain ⟨g14, hf⟩ := zw_gcE hf (by decide)
      refine zx_getR (pc := 77) d_X11_tell_77 lk_CutStonesModel_58 (by decide) g1 g14 ?_
      refine zv_aload_n (pc := 80) d_X11_tell_80 rfl ?_
      refine zx_getI (pc := 81) d_X11_tell_81 lk_CutStonesModel_251 (by decide) g1 ?_
      obtain ⟨i15, hf⟩ := zw_inE hf
      refine zx_iald (pc := 84) d_X11_tell_84 g14 i15 ?_
      refine zv_bipush (pc := 85) d_X11_tell_85 zc_b_6 ?_
      rcases zw_ifE hf with ⟨c16, hf⟩ | ⟨c16, hf⟩
      · refine zv_icmp_ne (pc := 87) (tg := 95) d_X11_tell_87 (by decide) (fun _ => ?_) (fun q => absurd q c16)
        exact zx_weak (zw_leS zw_leZ) (j_X11_tell_95_ok X P v0 I R J _ hf hk)
      · refine zv_icmp_ne (pc := 87) (tg := 95) d_X11_tell_87 (by decide) (fun q => absurd q c16) (fun _ => ?_)
        refine zv_aload_n (pc := 90) d_X11_tell_90 rfl ?_
        refine zv_iconst (pc := 91) d_X11_tell_91 zc_i_2 ?_
        obtain ⟨q22, hq22, hf⟩ := zw_bdE hf
        refine zx_callV (pc := 92) (As := [.int 2]) (o := v0) (st := []) (d2 := 0) (M2 := M_X11_fail) (P2 := (fun r S => r = none ∧ S = (q22, R, J))) d_X11_tell_92 (zw_mG (List.mem_of_getElem? (i := 1450) (by decide +kernel)) rfl) ce_X11_fail (zw_RvK g1 rfl rfl) (Nat.le_of_ble_eq_true rfl) rfl (Nat.le_of_ble_eq_true rfl) (by decide) (c_X11_fail X v0 2 I R J _ hq22 ⟨rfl, rfl⟩) ?_
        rintro _ _ ⟨rfl, rfl⟩
        show zy_V X M_X11_tell 6 P (92 + 3) [.ref v0] [] (q22, R, J)
        exact zx_weak (zw_leS zw_leZ) (j_X11_tell_95_ok X P v0 q22 R J _ hf hk)
    ·
      rcases zw_ifE hf with ⟨c23, hf⟩ | ⟨c23, hf⟩
      · refine zx_tsIn (pc := 9) (tg := 127) (z := 118) d_X11_tell_9 (by rw [c23]; decide +kernel) (by rw [c23]; decide +kernel) (by rw [c23]; decide +kernel) (by decide) ?_
        refine zv_aload_n (pc := 127) d_X11_tell_127 rfl ?_
        obtain ⟨g24, hf⟩ := zw_gcE hf (by decide)
        refine zx_getR (pc := 128) d_X11_tell_128 lk_CutStonesModel_61 (by decide) g1 g24 ?_
        refine zv_aload_n (pc := 131) d_X11_tell_131 rfl ?_
        refine zx_getI (pc := 132) d_X11_tell_132 lk_CutStonesModel_251 (by decide) g1 ?_
        obtain ⟨i25, hf⟩ := zw_inE hf
        refine zx_iald (pc := 135) d_X11_tell_135 g24 i25 ?_
        refine zv_iconst (pc := 136) d_X11_tell_136 zc_i_4 ?_
        rcases zw_ifE hf with ⟨c26, hf⟩ | ⟨c26, hf⟩
        · refine zv_icmp_ne (pc := 137) (tg := 145) d_X11_tell_137 (by decide) (fun _ => ?_) (fun q => absurd q c26)
          exact zx_weak (zw_leS zw_leZ) (j_X11_tell_145_ok X P v0 I R J _ hf hk)
        · refine zv_icmp_ne (pc := 137) (tg := 145) d_X11_tell_137 (by decide) (fun q => absurd q c26) (fun _ => ?_)
          refine zv_aload_n (pc := 140) d_X11_tell_140 rfl ?_
          refine zv_iconst (pc := 141) d_X11_tell_141 zc_i_2 ?_
          obtain ⟨q32, hq32, hf⟩ := zw_bdE hf
          refine zx_callV (pc := 142) (As := [.int 2]) (o := v0) (st := []) (d2 := 0) (M2 := M_X11_fail) (P2 := (fun r S => r = none ∧ S = (q32, R, J))) d_X11_tell_142 (zw_mG (List.mem_of_getElem? (i := 1450) (by decide +kernel)) rfl) ce_X11_fail (zw_RvK g1 rfl rfl) (Nat.le_of_ble_eq_true rfl) rfl (Nat.le_of_ble_eq_true rfl) (by decide) (c_X11_fail X v0 2 I R J _ hq32 ⟨rfl, rfl⟩) ?_
          rintro _ _ ⟨rfl, rfl⟩
          show zy_V X M_X11_tell 6 P (142 + 3) [.ref v0] [] (q32, R, J)
          exact zx_weak (zw_leS zw_leZ) (j_X11_tell_145_ok X P v0 q32 R J _ hf hk)
      ·
        rcases zw_ifE hf with ⟨c33, hf⟩ | ⟨c33, hf⟩
        · refine zx_tsIn (pc := 9) (tg := 180) (z := 171) d_X11_tell_9 (by rw [c33]; decide +kernel) (by rw [c33]; decide +kernel) (by rw [c33]; decide +kernel) (by decide) ?_
          refine zv_aload_n (pc := 180) d_X11_tell_180 rfl ?_
          obtain ⟨g34, hf⟩ := zw_gcE hf (by decide)
          refine zx_getR (pc := 181) d_X11_tell_181 lk_CutStonesModel_73 (by decide) g1 g34 ?_
          refine zv_aload_n (pc := 184) d_X11_tell_184 rfl ?_
          refine zx_getI (pc := 185) d_X11_tell_185 lk_CutStonesModel_251 (by decide) g1 ?_
          obtain ⟨i35, hf⟩ := zw_inE hf
          refine zx_iald (pc := 188) d_X11_tell_188 g34 i35 ?_
          refine zv_bipush (pc := 189) d_X11_tell_189 zc_b_8 ?_
          rcases zw_ifE hf with ⟨c36, hf⟩ | ⟨c36, hf⟩
          · refine zv_icmp_ne (pc := 191) (tg := 199) d_X11_tell_191 (by decide) (fun _ => ?_) (fun q => absurd q c36)
            exact zx_weak (zw_leS zw_leZ) (j_X11_tell_199_ok X P v0 I R J _ hf hk)
          · refine zv_icmp_ne (pc := 191) (tg := 199) d_X11_tell_191 (by decide) (fun q => absurd q c36) (fun _ => ?_)
            refine zv_aload_n (pc := 194) d_X11_tell_194 rfl ?_
            refine zv_iconst (pc := 195) d_X11_tell_195 zc_i_2 ?_
            obtain ⟨q42, hq42, hf⟩ := zw_bdE hf
            refine zx_callV (pc := 196) (As := [.int 2]) (o := v0) (st := []) (d2 := 0) (M2 := M_X11_fail) (P2 := (fun r S => r = none ∧ S = (q42, R, J))) d_X11_tell_196 (zw_mG (List.mem_of_getElem? (i := 1450) (by decide +kernel)) rfl) ce_X11_fail (zw_RvK g1 rfl rfl) (Nat.le_of_ble_eq_true rfl) rfl (Nat.le_of_ble_eq_true rfl) (by decide) (c_X11_fail X v0 2 I R J _ hq42 ⟨rfl, rfl⟩) ?_
            rintro _ _ ⟨rfl, rfl⟩
            show zy_V X M_X11_tell 6 P (196 + 3) [.ref v0] [] (q42, R, J)
            exact zx_weak (zw_leS zw_leZ) (j_X11_tell_199_ok X P v0 q42 R J _ hf hk)
        ·
          rcases zw_ifE hf with ⟨c43, hf⟩ | ⟨c43, hf⟩
          · refine zx_tsIn (pc := 9) (tg := 231) (z := 222) d_X11_tell_9 (by rw [c43]; decide +kernel) (by rw [c43]; decide +kernel) (by rw [c43]; decide +kernel) (by decide) ?_
            refine zv_aload_n (pc := 231) d_X11_tell_231 rfl ?_
            obtain ⟨g44, hf⟩ := zw_gcE hf (by decide)
            refine zx_getR (pc := 232) d_X11_tell_232 lk_CutStonesModel_76 (by decide) g1 g44 ?_
            refine zv_aload_n (pc := 235) d_X11_tell_235 rfl ?_
            refine zx_getI (pc := 236) d_X11_tell_236 lk_CutStonesModel_251 (by decide) g1 ?_
            obtain ⟨i45, hf⟩ := zw_inE hf
            refine zx_iald (pc := 239) d_X11_tell_239 g44 i45 ?_
            refine zv_bipush (pc := 240) d_X11_tell_240 zc_b_8 ?_
            rcases zw_ifE hf with ⟨c46, hf⟩ | ⟨c46, hf⟩
            · refine zv_icmp_ne (pc := 242) (tg := 250) d_X11_tell_242 (by decide) (fun _ => ?_) (fun q => absurd q c46)
              exact zx_weak (zw_leS zw_leZ) (j_X11_tell_250_ok X P v0 I R J _ hf hk)
            · refine zv_icmp_ne (pc := 242) (tg := 250) d_X11_tell_242 (by decide) (fun q => absurd q c46) (fun _ => ?_)
              refine zv_aload_n (pc := 245) d_X11_tell_245 rfl ?_
              refine zv_iconst (pc := 246) d_X11_tell_246 zc_i_2 ?_
              obtain ⟨q52, hq52, hf⟩ := zw_bdE hf
              refine zx_callV (pc := 247) (As := [.int 2]) (o := v0) (st := []) (d2 := 0) (M2 := M_X11_fail) (P2 := (fun r S => r = none ∧ S = (q52, R, J))) d_X11_tell_247 (zw_mG (List.mem_of_getElem? (i := 1450) (by decide +kernel)) rfl) ce_X11_fail (zw_RvK g1 rfl rfl) (Nat.le_of_ble_eq_true rfl) rfl (Nat.le_of_ble_eq_true rfl) (by decide) (c_X11_fail X v0 2 I R J _ hq52 ⟨rfl, rfl⟩) ?_
              rintro _ _ ⟨rfl, rfl⟩
              show zy_V X M_X11_tell 6 P (247 + 3) [.ref v0] [] (q52, R, J)
              exact zx_weak (zw_leS zw_leZ) (j_X11_tell_250_ok X P v0 q52 R J _ hf hk)
          ·
            refine zx_tsOut (pc := 9) (tg := 285) d_X11_tell_9 (by have c5 := zw_neI c5 (z := 20) (by decide +kernel); have c13 := zw_neI c13 (z := 21) (by decide +kernel); have c23 := zw_neI c23 (z := 22) (by decide +kernel); have c33 := zw_neI c33 (z := 23) (by decide +kernel); have c43 := zw_neI c43 (z := 24) (by decide +kernel); omega) (by decide) ?_
            refine zv_aload_n (pc := 285) d_X11_tell_285 rfl ?_
            refine zv_iconst (pc := 286) d_X11_tell_286 zc_i_1 ?_
            obtain ⟨q53, hq53, hf⟩ := zw_bdE hf
            refine zx_callV (pc := 287) (As := [.int 1]) (o := v0) (st := []) (d2 := 0) (M2 := M_X11_fail) (P2 := (fun r S => r = none ∧ S = (q53, R, J))) d_X11_tell_287 (zw_mG (List.mem_of_getElem? (i := 1450) (by decide +kernel)) rfl) ce_X11_fail (zw_RvK g1 rfl rfl) (Nat.le_of_ble_eq_true rfl) rfl (Nat.le_of_ble_eq_true rfl) (by decide) (c_X11_fail X v0 1 I R J _ hq53 ⟨rfl, rfl⟩) ?_
            rintro _ _ ⟨rfl, rfl⟩
            show zy_V X M_X11_tell 6 P (287 + 3) [.ref v0] [] (q53, R, J)
            cases hf
            exact zx_vret (pc := 290) d_X11_tell_290 rfl hk
abbrev M_X11_two : zw_M := (⟨"CutStonesModel", "two", "(III)I"⟩, prog_13_method_75_code, 9, (Option.some Jvm.ClassFile.FieldType.int))
theorem d_X11_two_0 : decode M_X11_two.2.1 0 = .ok (.aload_n 0, 1) := by decide +kernel
theorem d_X11_two_1 : decode M_X11_two.2.1 1 = .ok (.iload_n 1, 1) := by decide +kernel
theorem d_X11_two_2 : decode M_X11_two.2.1 2 = .ok (.iload_n 2, 1) := by decide +kernel
theorem d_X11_two_3 : decode M_X11_two.2.1 3 = .ok (.iload_n 3, 1) := by decide +kernel
theorem d_X11_two_4 : decode M_X11_two.2.1 4 = .ok (.invokevirtual 434, 3) := by decide +kernel
theorem d_X11_two_7 : decode M_X11_two.2.1 7 = .ok (.ifCond .ne 5, 3) := by decide +kernel
theorem d_X11_two_10 : decode M_X11_two.2.1 10 = .ok (.iconst (-1), 1) := by decide +kernel
theorem d_X11_two_11 : decode M_X11_two.2.1 11 = .ok (.ireturn, 1) := by decide +kernel
theorem d_X11_two_12 : decode M_X11_two.2.1 12 = .ok (.aload_n 0, 1) := by decide +kernel
theorem d_X11_two_13 : decode M_X11_two.2.1 13 = .ok (.iload_n 1, 1) := by decide +kernel
theorem d_X11_two_14 : decode M_X11_two.2.1 14 = .ok (.iload_n 3, 1) := by decide +kernel
theorem d_X11_two_15 : decode M_X11_two.2.1 15 = .ok (.invokevirtual 437, 3) := by decide +kernel
theorem d_X11_two_18 : decode M_X11_two.2.1 18 = .ok (.aload_n 0, 1) := by decide +kernel
theorem d_X11_two_19 : decode M_X11_two.2.1 19 = .ok (.iconst 0, 1) := by decide +kernel
theorem d_X11_two_20 : decode M_X11_two.2.1 20 = .ok (.putfield 270, 3) := by decide +kernel
theorem d_X11_two_23 : decode M_X11_two.2.1 23 = .ok (.bipush (-2), 2) := by decide +kernel
theorem d_X11_two_25 : decode M_X11_two.2.1 25 = .ok (.istore 4, 2) := by decide +kernel
theorem d_X11_two_27 : decode M_X11_two.2.1 27 = .ok (.aload_n 0, 1) := by decide +kernel
theorem d_X11_two_28 : decode M_X11_two.2.1 28 = .ok (.iload_n 2, 1) := by decide +kernel
theorem d_X11_two_29 : decode M_X11_two.2.1 29 = .ok (.invokevirtual 377, 3) := by decide +kernel
theorem d_X11_two_32 : decode M_X11_two.2.1 32 = .ok (.istore 5, 2) := by decide +kernel
theorem d_X11_two_34 : decode M_X11_two.2.1 34 = .ok (.iconst 1, 1) := by decide +kernel
theorem d_X11_two_35 : decode M_X11_two.2.1 35 = .ok (.istore 6, 2) := by decide +kernel
theorem d_X11_two_37 : decode M_X11_two.2.1 37 = .ok (.iload 6, 2) := by decide +kernel
theorem d_X11_two_39 : decode M_X11_two.2.1 39 = .ok (.aload_n 0, 1) := by decide +kernel
theorem d_X11_two_40 : decode M_X11_two.2.1 40 = .ok (.getfield 64, 3) := by decide +kernel
theorem d_X11_two_43 : decode M_X11_two.2.1 43 = .ok (.iload 5, 2) := by decide +kernel
theorem d_X11_two_45 : decode M_X11_two.2.1 45 = .ok (.iaload, 1) := by decide +kernel
theorem d_X11_two_46 : decode M_X11_two.2.1 46 = .ok (.if_icmp .ge 320, 3) := by decide +kernel
theorem d_X11_two_49 : decode M_X11_two.2.1 49 = .ok (.iconst 0, 1) := by decide +kernel
theorem d_X11_two_50 : decode M_X11_two.2.1 50 = .ok (.istore 7, 2) := by decide +kernel
theorem d_X11_two_52 : decode M_X11_two.2.1 52 = .ok (.iload 7, 2) := by decide +kernel
theorem d_X11_two_54 : decode M_X11_two.2.1 54 = .ok (.aload_n 0, 1) := by decide +kernel
theorem d_X11_two_55 : decode M_X11_two.2.1 55 = .ok (.getfield 58, 3) := by decide +kernel
theorem d_X11_two_58 : decode M_X11_two.2.1 58 = .ok (.aload_n 0, 1) := by decide +kernel
theorem d_X11_two_59 : decode M_X11_two.2.1 59 = .ok (.getfield 248, 3) := by decide +kernel
theorem d_X11_two_62 : decode M_X11_two.2.1 62 = .ok (.iaload, 1) := by decide +kernel
theorem d_X11_two_63 : decode M_X11_two.2.1 63 = .ok (.if_icmp .ge 88, 3) := by decide +kernel
theorem d_X11_two_66 : decode M_X11_two.2.1 66 = .ok (.aload_n 0, 1) := by decide +kernel
theorem d_X11_two_67 : decode M_X11_two.2.1 67 = .ok (.getfield 155, 3) := by decide +kernel
theorem d_X11_two_70 : decode M_X11_two.2.1 70 = .ok (.iload 7, 2) := by decide +kernel
theorem d_X11_two_72 : decode M_X11_two.2.1 72 = .ok (.iload_n 1, 1) := by decide +kernel
theorem d_X11_two_73 : decode M_X11_two.2.1 73 = .ok (.iload 7, 2) := by decide +kernel
theorem d_X11_two_75 : decode M_X11_two.2.1 75 = .ok (.ishr, 1) := by decide +kernel
theorem d_X11_two_76 : decode M_X11_two.2.1 76 = .ok (.iconst 1, 1) := by decide +kernel
theorem d_X11_two_77 : decode M_X11_two.2.1 77 = .ok (.iand, 1) := by decide +kernel
theorem d_X11_two_78 : decode M_X11_two.2.1 78 = .ok (.ifCond .ne 7, 3) := by decide +kernel
theorem d_X11_two_81 : decode M_X11_two.2.1 81 = .ok (.iconst (-1), 1) := by decide +kernel
theorem d_X11_two_82 : decode M_X11_two.2.1 82 = .ok (.goto 22, 3) := by decide +kernel
theorem d_X11_two_85 : decode M_X11_two.2.1 85 = .ok (.aload_n 0, 1) := by decide +kernel
theorem d_X11_two_86 : decode M_X11_two.2.1 86 = .ok (.bipush 10, 2) := by decide +kernel
theorem d_X11_two_88 : decode M_X11_two.2.1 88 = .ok (.aload_n 0, 1) := by decide +kernel
theorem d_X11_two_89 : decode M_X11_two.2.1 89 = .ok (.getfield 248, 3) := by decide +kernel
theorem d_X11_two_92 : decode M_X11_two.2.1 92 = .ok (.imul, 1) := by decide +kernel
theorem d_X11_two_93 : decode M_X11_two.2.1 93 = .ok (.iload 7, 2) := by decide +kernel
theorem d_X11_two_95 : decode M_X11_two.2.1 95 = .ok (.iadd, 1) := by decide +kernel
theorem d_X11_two_96 : decode M_X11_two.2.1 96 = .ok (.iload 5, 2) := by decide +kernel
theorem d_X11_two_98 : decode M_X11_two.2.1 98 = .ok (.iconst 0, 1) := by decide +kernel
theorem d_X11_two_99 : decode M_X11_two.2.1 99 = .ok (.iload 6, 2) := by decide +kernel
theorem d_X11_two_101 : decode M_X11_two.2.1 101 = .ok (.invokevirtual 439, 3) := by decide +kernel
theorem d_X11_two_104 : decode M_X11_two.2.1 104 = .ok (.iastore, 1) := by decide +kernel
theorem d_X11_two_105 : decode M_X11_two.2.1 105 = .ok (.aload_n 0, 1) := by decide +kernel
theorem d_X11_two_106 : decode M_X11_two.2.1 106 = .ok (.getfield 158, 3) := by decide +kernel
theorem d_X11_two_109 : decode M_X11_two.2.1 109 = .ok (.iload 7, 2) := by decide +kernel
theorem d_X11_two_111 : decode M_X11_two.2.1 111 = .ok (.iload_n 1, 1) := by decide +kernel
theorem d_X11_two_112 : decode M_X11_two.2.1 112 = .ok (.iload 7, 2) := by decide +kernel
theorem d_X11_two_114 : decode M_X11_two.2.1 114 = .ok (.ishr, 1) := by decide +kernel
theorem d_X11_two_115 : decode M_X11_two.2.1 115 = .ok (.iconst 1, 1) := by decide +kernel
theorem d_X11_two_116 : decode M_X11_two.2.1 116 = .ok (.iand, 1) := by decide +kernel
theorem d_X11_two_117 : decode M_X11_two.2.1 117 = .ok (.ifCond .ne 7, 3) := by decide +kernel
theorem d_X11_two_120 : decode M_X11_two.2.1 120 = .ok (.iconst (-1), 1) := by decide +kernel
theorem d_X11_two_121 : decode M_X11_two.2.1 121 = .ok (.goto 23, 3) := by decide +kernel
theorem d_X11_two_124 : decode M_X11_two.2.1 124 = .ok (.aload_n 0, 1) := by decide +kernel
theorem d_X11_two_125 : decode M_X11_two.2.1 125 = .ok (.bipush 10, 2) := by decide +kernel
theorem d_X11_two_127 : decode M_X11_two.2.1 127 = .ok (.aload_n 0, 1) := by decide +kernel
theorem d_X11_two_128 : decode M_X11_two.2.1 128 = .ok (.getfield 248, 3) := by decide +kernel
theorem d_X11_two_131 : decode M_X11_two.2.1 131 = .ok (.imul, 1) := by decide +kernel
theorem d_X11_two_132 : decode M_X11_two.2.1 132 = .ok (.iload 7, 2) := by decide +kernel
theorem d_X11_two_134 : decode M_X11_two.2.1 134 = .ok (.iadd, 1) := by decide +kernel
theorem d_X11_two_135 : decode M_X11_two.2.1 135 = .ok (.iload 5, 2) := by decide +kernel
theorem d_X11_two_137 : decode M_X11_two.2.1 137 = .ok (.iload 6, 2) := by decide +kernel
theorem d_X11_two_139 : decode M_X11_two.2.1 139 = .ok (.bipush 12, 2) := by decide +kernel
theorem d_X11_two_141 : decode M_X11_two.2.1 141 = .ok (.invokevirtual 439, 3) := by decide +kernel
theorem d_X11_two_144 : decode M_X11_two.2.1 144 = .ok (.iastore, 1) := by decide +kernel
theorem d_X11_two_145 : decode M_X11_two.2.1 145 = .ok (.iinc 7 1, 3) := by decide +kernel
theorem d_X11_two_148 : decode M_X11_two.2.1 148 = .ok (.goto (-96), 3) := by decide +kernel
theorem d_X11_two_151 : decode M_X11_two.2.1 151 = .ok (.iconst 0, 1) := by decide +kernel
theorem d_X11_two_152 : decode M_X11_two.2.1 152 = .ok (.istore 7, 2) := by decide +kernel
theorem d_X11_two_154 : decode M_X11_two.2.1 154 = .ok (.iload 7, 2) := by decide +kernel
theorem d_X11_two_156 : decode M_X11_two.2.1 156 = .ok (.aload_n 0, 1) := by decide +kernel
theorem d_X11_two_157 : decode M_X11_two.2.1 157 = .ok (.getfield 58, 3) := by decide +kernel
theorem d_X11_two_160 : decode M_X11_two.2.1 160 = .ok (.aload_n 0, 1) := by decide +kernel
theorem d_X11_two_161 : decode M_X11_two.2.1 161 = .ok (.getfield 248, 3) := by decide +kernel
theorem d_X11_two_164 : decode M_X11_two.2.1 164 = .ok (.iaload, 1) := by decide +kernel
theorem d_X11_two_165 : decode M_X11_two.2.1 165 = .ok (.if_icmp .ge 195, 3) := by decide +kernel
theorem d_X11_two_168 : decode M_X11_two.2.1 168 = .ok (.iconst 0, 1) := by decide +kernel
theorem d_X11_two_169 : decode M_X11_two.2.1 169 = .ok (.istore 8, 2) := by decide +kernel
theorem d_X11_two_171 : decode M_X11_two.2.1 171 = .ok (.iload 8, 2) := by decide +kernel
theorem d_X11_two_173 : decode M_X11_two.2.1 173 = .ok (.aload_n 0, 1) := by decide +kernel
theorem d_X11_two_174 : decode M_X11_two.2.1 174 = .ok (.getfield 58, 3) := by decide +kernel
theorem d_X11_two_177 : decode M_X11_two.2.1 177 = .ok (.aload_n 0, 1) := by decide +kernel
theorem d_X11_two_178 : decode M_X11_two.2.1 178 = .ok (.getfield 248, 3) := by decide +kernel
theorem d_X11_two_181 : decode M_X11_two.2.1 181 = .ok (.iaload, 1) := by decide +kernel
theorem d_X11_two_182 : decode M_X11_two.2.1 182 = .ok (.if_icmp .ge 172, 3) := by decide +kernel
theorem d_X11_two_185 : decode M_X11_two.2.1 185 = .ok (.aload_n 0, 1) := by decide +kernel
theorem d_X11_two_186 : decode M_X11_two.2.1 186 = .ok (.getfield 155, 3) := by decide +kernel
theorem d_X11_two_189 : decode M_X11_two.2.1 189 = .ok (.iload 7, 2) := by decide +kernel
theorem d_X11_two_191 : decode M_X11_two.2.1 191 = .ok (.iaload, 1) := by decide +kernel
theorem d_X11_two_192 : decode M_X11_two.2.1 192 = .ok (.iconst (-1), 1) := by decide +kernel
theorem d_X11_two_193 : decode M_X11_two.2.1 193 = .ok (.if_icmp .eq 155, 3) := by decide +kernel
theorem d_X11_two_196 : decode M_X11_two.2.1 196 = .ok (.aload_n 0, 1) := by decide +kernel
theorem d_X11_two_197 : decode M_X11_two.2.1 197 = .ok (.getfield 158, 3) := by decide +kernel
theorem d_X11_two_200 : decode M_X11_two.2.1 200 = .ok (.iload 8, 2) := by decide +kernel
theorem d_X11_two_202 : decode M_X11_two.2.1 202 = .ok (.iaload, 1) := by decide +kernel
theorem d_X11_two_203 : decode M_X11_two.2.1 203 = .ok (.iconst (-1), 1) := by decide +kernel
theorem d_X11_two_204 : decode M_X11_two.2.1 204 = .ok (.if_icmp .eq 144, 3) := by decide +kernel
theorem d_X11_two_207 : decode M_X11_two.2.1 207 = .ok (.iload 4, 2) := by decide +kernel
theorem d_X11_two_209 : decode M_X11_two.2.1 209 = .ok (.bipush (-2), 2) := by decide +kernel
theorem d_X11_two_211 : decode M_X11_two.2.1 211 = .ok (.if_icmp .eq 26, 3) := by decide +kernel
theorem d_X11_two_214 : decode M_X11_two.2.1 214 = .ok (.aload_n 0, 1) := by decide +kernel
theorem d_X11_two_215 : decode M_X11_two.2.1 215 = .ok (.getfield 152, 3) := by decide +kernel
theorem d_X11_two_218 : decode M_X11_two.2.1 218 = .ok (.iload 7, 2) := by decide +kernel
theorem d_X11_two_220 : decode M_X11_two.2.1 220 = .ok (.iaload, 1) := by decide +kernel
theorem d_X11_two_221 : decode M_X11_two.2.1 221 = .ok (.aload_n 0, 1) := by decide +kernel
theorem d_X11_two_222 : decode M_X11_two.2.1 222 = .ok (.getfield 152, 3) := by decide +kernel
theorem d_X11_two_225 : decode M_X11_two.2.1 225 = .ok (.iload 8, 2) := by decide +kernel
theorem d_X11_two_227 : decode M_X11_two.2.1 227 = .ok (.iaload, 1) := by decide +kernel
theorem d_X11_two_228 : decode M_X11_two.2.1 228 = .ok (.iadd, 1) := by decide +kernel
theorem d_X11_two_229 : decode M_X11_two.2.1 229 = .ok (.iload 4, 2) := by decide +kernel
theorem d_X11_two_231 : decode M_X11_two.2.1 231 = .ok (.if_icmp .gt 6, 3) := by decide +kernel
theorem d_X11_two_234 : decode M_X11_two.2.1 234 = .ok (.goto 114, 3) := by decide +kernel
theorem d_X11_two_237 : decode M_X11_two.2.1 237 = .ok (.aload_n 0, 1) := by decide +kernel
theorem d_X11_two_238 : decode M_X11_two.2.1 238 = .ok (.getfield 152, 3) := by decide +kernel
theorem d_X11_two_241 : decode M_X11_two.2.1 241 = .ok (.iload 7, 2) := by decide +kernel
theorem d_X11_two_243 : decode M_X11_two.2.1 243 = .ok (.iaload, 1) := by decide +kernel
theorem d_X11_two_244 : decode M_X11_two.2.1 244 = .ok (.aload_n 0, 1) := by decide +kernel
theorem d_X11_two_245 : decode M_X11_two.2.1 245 = .ok (.getfield 152, 3) := by decide +kernel
theorem d_X11_two_248 : decode M_X11_two.2.1 248 = .ok (.iload 8, 2) := by decide +kernel
theorem d_X11_two_250 : decode M_X11_two.2.1 250 = .ok (.iaload, 1) := by decide +kernel
theorem d_X11_two_251 : decode M_X11_two.2.1 251 = .ok (.iadd, 1) := by decide +kernel
theorem d_X11_two_252 : decode M_X11_two.2.1 252 = .ok (.istore 4, 2) := by decide +kernel
theorem d_X11_two_254 : decode M_X11_two.2.1 254 = .ok (.aload_n 0, 1) := by decide +kernel
theorem d_X11_two_255 : decode M_X11_two.2.1 255 = .ok (.iconst 1, 1) := by decide +kernel
theorem d_X11_two_256 : decode M_X11_two.2.1 256 = .ok (.putfield 270, 3) := by decide +kernel
theorem d_X11_two_259 : decode M_X11_two.2.1 259 = .ok (.aload_n 0, 1) := by decide +kernel
theorem d_X11_two_260 : decode M_X11_two.2.1 260 = .ok (.getfield 149, 3) := by decide +kernel
theorem d_X11_two_263 : decode M_X11_two.2.1 263 = .ok (.iconst 0, 1) := by decide +kernel
theorem d_X11_two_264 : decode M_X11_two.2.1 264 = .ok (.iload 6, 2) := by decide +kernel
theorem d_X11_two_266 : decode M_X11_two.2.1 266 = .ok (.iastore, 1) := by decide +kernel
theorem d_X11_two_267 : decode M_X11_two.2.1 267 = .ok (.aload_n 0, 1) := by decide +kernel
theorem d_X11_two_268 : decode M_X11_two.2.1 268 = .ok (.getfield 149, 3) := by decide +kernel
theorem d_X11_two_271 : decode M_X11_two.2.1 271 = .ok (.iconst 1, 1) := by decide +kernel
theorem d_X11_two_272 : decode M_X11_two.2.1 272 = .ok (.iload 7, 2) := by decide +kernel
theorem d_X11_two_274 : decode M_X11_two.2.1 274 = .ok (.iastore, 1) := by decide +kernel
theorem d_X11_two_275 : decode M_X11_two.2.1 275 = .ok (.aload_n 0, 1) := by decide +kernel
theorem d_X11_two_276 : decode M_X11_two.2.1 276 = .ok (.getfield 149, 3) := by decide +kernel
theorem d_X11_two_279 : decode M_X11_two.2.1 279 = .ok (.iconst 2, 1) := by decide +kernel
theorem d_X11_two_280 : decode M_X11_two.2.1 280 = .ok (.aload_n 0, 1) := by decide +kernel
theorem d_X11_two_281 : decode M_X11_two.2.1 281 = .ok (.getfield 155, 3) := by decide +kernel
theorem d_X11_two_284 : decode M_X11_two.2.1 284 = .ok (.iload 7, 2) := by decide +kernel
theorem d_X11_two_286 : decode M_X11_two.2.1 286 = .ok (.iaload, 1) := by decide +kernel
theorem d_X11_two_287 : decode M_X11_two.2.1 287 = .ok (.bipush 12, 2) := by decide +kernel
theorem d_X11_two_289 : decode M_X11_two.2.1 289 = .ok (.irem, 1) := by decide +kernel
theorem d_X11_two_290 : decode M_X11_two.2.1 290 = .ok (.iastore, 1) := by decide +kernel
theorem d_X11_two_291 : decode M_X11_two.2.1 291 = .ok (.aload_n 0, 1) := by decide +kernel
theorem d_X11_two_292 : decode M_X11_two.2.1 292 = .ok (.getfield 149, 3) := by decide +kernel
theorem d_X11_two_295 : decode M_X11_two.2.1 295 = .ok (.iconst 3, 1) := by decide +kernel
theorem d_X11_two_296 : decode M_X11_two.2.1 296 = .ok (.aload_n 0, 1) := by decide +kernel
theorem d_X11_two_297 : decode M_X11_two.2.1 297 = .ok (.getfield 155, 3) := by decide +kernel
theorem d_X11_two_300 : decode M_X11_two.2.1 300 = .ok (.iload 7, 2) := by decide +kernel
theorem d_X11_two_302 : decode M_X11_two.2.1 302 = .ok (.iaload, 1) := by decide +kernel
theorem d_X11_two_303 : decode M_X11_two.2.1 303 = .ok (.bipush 12, 2) := by decide +kernel
theorem d_X11_two_305 : decode M_X11_two.2.1 305 = .ok (.idiv, 1) := by decide +kernel
theorem d_X11_two_306 : decode M_X11_two.2.1 306 = .ok (.iastore, 1) := by decide +kernel
theorem d_X11_two_307 : decode M_X11_two.2.1 307 = .ok (.aload_n 0, 1) := by decide +kernel
theorem d_X11_two_308 : decode M_X11_two.2.1 308 = .ok (.getfield 149, 3) := by decide +kernel
theorem d_X11_two_311 : decode M_X11_two.2.1 311 = .ok (.iconst 4, 1) := by decide +kernel
theorem d_X11_two_312 : decode M_X11_two.2.1 312 = .ok (.iload 8, 2) := by decide +kernel
theorem d_X11_two_314 : decode M_X11_two.2.1 314 = .ok (.iastore, 1) := by decide +kernel
theorem d_X11_two_315 : decode M_X11_two.2.1 315 = .ok (.aload_n 0, 1) := by decide +kernel
theorem d_X11_two_316 : decode M_X11_two.2.1 316 = .ok (.getfield 149, 3) := by decide +kernel
theorem d_X11_two_319 : decode M_X11_two.2.1 319 = .ok (.iconst 5, 1) := by decide +kernel
theorem d_X11_two_320 : decode M_X11_two.2.1 320 = .ok (.aload_n 0, 1) := by decide +kernel
theorem d_X11_two_321 : decode M_X11_two.2.1 321 = .ok (.getfield 158, 3) := by decide +kernel
theorem d_X11_two_324 : decode M_X11_two.2.1 324 = .ok (.iload 8, 2) := by decide +kernel
theorem d_X11_two_326 : decode M_X11_two.2.1 326 = .ok (.iaload, 1) := by decide +kernel
theorem d_X11_two_327 : decode M_X11_two.2.1 327 = .ok (.bipush 12, 2) := by decide +kernel
theorem d_X11_two_329 : decode M_X11_two.2.1 329 = .ok (.irem, 1) := by decide +kernel
theorem d_X11_two_330 : decode M_X11_two.2.1 330 = .ok (.iastore, 1) := by decide +kernel
theorem d_X11_two_331 : decode M_X11_two.2.1 331 = .ok (.aload_n 0, 1) := by decide +kernel
theorem d_X11_two_332 : decode M_X11_two.2.1 332 = .ok (.getfield 149, 3) := by decide +kernel
theorem d_X11_two_335 : decode M_X11_two.2.1 335 = .ok (.bipush 6, 2) := by decide +kernel
theorem d_X11_two_337 : decode M_X11_two.2.1 337 = .ok (.aload_n 0, 1) := by decide +kernel
theorem d_X11_two_338 : decode M_X11_two.2.1 338 = .ok (.getfield 158, 3) := by decide +kernel
theorem d_X11_two_341 : decode M_X11_two.2.1 341 = .ok (.iload 8, 2) := by decide +kernel
theorem d_X11_two_343 : decode M_X11_two.2.1 343 = .ok (.iaload, 1) := by decide +kernel
theorem d_X11_two_344 : decode M_X11_two.2.1 344 = .ok (.bipush 12, 2) := by decide +kernel
theorem d_X11_two_346 : decode M_X11_two.2.1 346 = .ok (.idiv, 1) := by decide +kernel
theorem d_X11_two_347 : decode M_X11_two.2.1 347 = .ok (.iastore, 1) := by decide +kernel
theorem d_X11_two_348 : decode M_X11_two.2.1 348 = .ok (.iinc 8 1, 3) := by decide +kernel
theorem d_X11_two_351 : decode M_X11_two.2.1 351 = .ok (.goto (-180), 3) := by decide +kernel
theorem d_X11_two_354 : decode M_X11_two.2.1 354 = .ok (.iinc 7 1, 3) := by decide +kernel
theorem d_X11_two_357 : decode M_X11_two.2.1 357 = .ok (.goto (-203), 3) := by decide +kernel
theorem d_X11_two_360 : decode M_X11_two.2.1 360 = .ok (.iinc 6 1, 3) := by decide +kernel
theorem d_X11_two_363 : decode M_X11_two.2.1 363 = .ok (.goto (-326), 3) := by decide +kernel
theorem d_X11_two_366 : decode M_X11_two.2.1 366 = .ok (.iload 4, 2) := by decide +kernel
theorem d_X11_two_368 : decode M_X11_two.2.1 368 = .ok (.ireturn, 1) := by decide +kernel
theorem ce_X11_two : zw_CeV M_X11_two 3 := ⟨⟨⟨by decide +kernel, by decide +kernel, by decide +kernel⟩, (zw_mG (List.mem_of_getElem? (i := 1676) (by decide +kernel)) rfl), (zw_mG (List.mem_of_getElem? (i := 108) (by decide +kernel)) rfl), by decide, by decide +kernel⟩, (zw_mG (List.mem_of_getElem? (i := 1674) (by decide +kernel)) rfl), (zw_mG (List.mem_of_getElem? (i := 1675) (by decide +kernel)) rfl)⟩
def j_X11_two_144_52 (v0 : Nat) (v1 : Int32) (v4 : Int32) (v5 : Int32) (v6 : Int32) (v7 : Int32) (s0 : Nat) (s1 : Int32) (s2 : Int32) (I : zI) (R : zR) : Option ((Int32 × zI) ⊕ (zI)) :=
  zw_g (zw_gc s0 13) (zw_g (zw_in s1 (zw_SH s0).2) (zw_let (zw_u I s0 (Int32.toNatClampNeg s1) s2 : zI) fun I27 => (zw_let (v7 + 1 : Int32) fun x28 => (some (.inl (x28, I27))))))
theorem j_X11_two_144_52_ok (X : zw_X) (P : Option Value → aS → Prop) (v0 : Nat) (v1 : Int32) (v4 : Int32) (v5 : Int32) (v6 : Int32) (v7 : Int32) (s0 : Nat) (s1 : Int32) (s2 : Int32) (I : zI) (R : zR) (J : zJ) (o : (Int32 × zI) ⊕ (zI)) (hf : j_X11_two_144_52 v0 v1 v4 v5 v6 v7 s0 s1 s2 I R = some o) (hk : (zw_se (fun t => zy_V X M_X11_two 6 P 52 [.ref v0, .int v1, .null, .null, .int v4, .int v5, .int v6, .int t.1, .null] [] (t.2, R, J)) (fun r => zy_V X M_X11_two 6 P 151 [.ref v0, .int v1, .null, .null, .int v4, .int v5, .int v6, .null, .null] [] (r, R, J)) o)) : zy_V X M_X11_two 6 P 144 [.ref v0, .int v1, .null, .null, .int v4, .int v5, .int v6, .int v7, .null] [.int s2, .int s1, .ref s0] (I, R, J) := by
  unfold j_X11_two_144_52 at hf
  obtain ⟨g25, hf⟩ := zw_gcE hf (by decide)
  obtain ⟨i26, hf⟩ := zw_inE hf
  obtain ⟨I27, eI27, hf⟩ := zw_letE hf
  refine zx_iast (pc := 144) (I2 := I27) d_X11_two_144 g25 i26 eI27 ?_
  obtain ⟨x28, ex28, hf⟩ := zw_letE hf
  refine zx_iinc (pc := 145) (x2 := x28) (L2 := [.ref v0, .int v1, .null, .null, .int v4, .int v5, .int v6, .int x28, .null]) d_X11_two_145 (by decide) rfl zc_i_1 ex28 rfl ?_
  refine zv_goto (pc := 148) (tg := 52) d_X11_two_148 (by decide) ?_
  cases hf
  exact zx_weak (zw_leS (zw_leS (zw_leN (zw_leN (zw_leS (zw_leS (zw_leS (zw_leS (zw_leN zw_leZ))))))))) hk
def j_X11_two_104_52 (v0 : Nat) (v1 : Int32) (v4 : Int32) (v5 : Int32) (v6 : Int32) (v7 : Int32) (s0 : Nat) (s1 : Int32) (s2 : Int32) (I : zI) (R : zR) : Option ((Int32 × zI) ⊕ (zI)) :=
  zw_g (zw_gc s0 13) (zw_g (zw_in s1 (zw_SH s0).2) (zw_let (zw_u I s0 (Int32.toNatClampNeg s1) s2 : zI) fun I20 => (zw_g (zw_gc v0 11) (zw_g (zw_gc (R v0 74) 13) (if ¬ ((v1 >>> (v7 &&& 31)) &&& 1) = 0 then (f_X11_firstPlace v0 ((10 * (I20 v0 18)) + v7) v5 v6 12 I20 R).bind fun q24 => (j_X11_two_144_52 v0 v1 v4 v5 v6 v7 (R v0 74) v7 q24 I20 R) else j_X11_two_144_52 v0 v1 v4 v5 v6 v7 (R v0 74) v7 (-1) I20 R)))))
theorem j_X11_two_104_52_ok (X : zw_X) (P : Option Value → aS → Prop) (v0 : Nat) (v1 : Int32) (v4 : Int32) (v5 : Int32) (v6 : Int32) (v7 : Int32) (s0 : Nat) (s1 : Int32) (s2 : Int32) (I : zI) (R : zR) (J : zJ) (o : (Int32 × zI) ⊕ (zI)) (hf : j_X11_two_104_52 v0 v1 v4 v5 v6 v7 s0 s1 s2 I R = some o) (hk : (zw_se (fun t => zy_V X M_X11_two 6 P 52 [.ref v0, .int v1, .null, .null, .int v4, .int v5, .int v6, .int t.1, .null] [] (t.2, R, J)) (fun r => zy_V X M_X11_two 6 P 151 [.ref v0, .int v1, .null, .null, .int v4, .int v5, .int v6, .null, .null] [] (r, R, J)) o)) : zy_V X M_X11_two 6 P 104 [.ref v0, .int v1, .null, .null, .int v4, .int v5, .int v6, .int v7, .null] [.int s2, .int s1, .ref s0] (I, R, J) := by
  unfold j_X11_two_104_52 at hf
  obtain ⟨g18, hf⟩ := zw_gcE hf (by decide)
  obtain ⟨i19, hf⟩ := zw_inE hf
  obtain ⟨I20, eI20, hf⟩ := zw_letE hf
  refine zx_iast (pc := 104) (I2 := I20) d_X11_two_104 g18 i19 eI20 ?_
  refine zv_aload_n (pc := 105) d_X11_two_105 rfl ?_
  obtain ⟨g21, hf⟩ := zw_gcE hf (by decide)
  obtain ⟨g22, hf⟩ := zw_gcE hf (by decide)
  refine zx_getR (pc := 106) d_X11_two_106 lk_CutStonesModel_158 (by decide) g21 g22 ?_
  refine zv_iload (pc := 109) d_X11_two_109 rfl ?_
  refine zv_iload_n (pc := 111) d_X11_two_111 rfl ?_
  refine zv_iload (pc := 112) d_X11_two_112 rfl ?_
  refine zv_ishr (pc := 114) d_X11_two_114 ?_
  refine zv_iconst (pc := 115) d_X11_two_115 zc_i_1 ?_
  refine zv_iand (pc := 116) d_X11_two_116 ?_
  rcases zw_ifE hf with ⟨c23, hf⟩ | ⟨c23, hf⟩
  · refine zv_if_ne (pc := 117) (tg := 124) d_X11_two_117 (by decide) (fun _ => ?_) (fun q => absurd q c23)
    refine zv_aload_n (pc := 124) d_X11_two_124 rfl ?_
    refine zv_bipush (pc := 125) d_X11_two_125 zc_b_10 ?_
    refine zv_aload_n (pc := 127) d_X11_two_127 rfl ?_
    refine zx_getI (pc := 128) d_X11_two_128 lk_CutStonesModel_248 (by decide) g21 ?_
    refine zv_imul (pc := 131) d_X11_two_131 ?_
    refine zv_iload (pc := 132) d_X11_two_132 rfl ?_
    refine zv_iadd (pc := 134) d_X11_two_134 ?_
    refine zv_iload (pc := 135) d_X11_two_135 rfl ?_
    refine zv_iload (pc := 137) d_X11_two_137 rfl ?_
    refine zv_bipush (pc := 139) d_X11_two_139 zc_b_12 ?_
    obtain ⟨q24, hq24, hf⟩ := zw_bdE hf
    refine zx_callV (pc := 141) (As := [.int ((10 * (I20 v0 18)) + v7), .int v5, .int v6, .int 12]) (o := v0) (st := [.int v7, .ref (R v0 74)]) (d2 := 2) (M2 := M_X11_firstPlace) (P2 := (fun r S => r = (some (.int q24)) ∧ S = (I20, R, J))) d_X11_two_141 (zw_mG (List.mem_of_getElem? (i := 1669) (by decide +kernel)) rfl) ce_X11_firstPlace (zw_RvK g21 rfl rfl) (Nat.le_of_ble_eq_true rfl) rfl (Nat.le_of_ble_eq_true rfl) (by decide) (c_X11_firstPlace X v0 ((10 * (I20 v0 18)) + v7) v5 v6 12 I20 R J _ hq24 ⟨rfl, rfl⟩) ?_
    rintro _ _ ⟨rfl, rfl⟩
    show zy_V X M_X11_two 6 P (141 + 3) [.ref v0, .int v1, .null, .null, .int v4, .int v5, .int v6, .int v7, .null] [.int q24, .int v7, .ref (R v0 74)] (I20, R, J)
    exact zx_weak (zw_leS (zw_leS (zw_leN (zw_leN (zw_leS (zw_leS (zw_leS (zw_leS (zw_leN zw_leZ))))))))) (j_X11_two_144_52_ok X P v0 v1 v4 v5 v6 v7 (R v0 74) v7 q24 I20 R J _ hf hk)
  · refine zv_if_ne (pc := 117) (tg := 124) d_X11_two_117 (by decide) (fun q => absurd q c23) (fun _ => ?_)
    refine zv_iconst (pc := 120) d_X11_two_120 zc_i_m1 ?_
    refine zv_goto (pc := 121) (tg := 144) d_X11_two_121 (by decide) ?_
    exact zx_weak (zw_leS (zw_leS (zw_leN (zw_leN (zw_leS (zw_leS (zw_leS (zw_leS (zw_leN zw_leZ))))))))) (j_X11_two_144_52_ok X P v0 v1 v4 v5 v6 v7 (R v0 74) v7 (-1) I20 R J _ hf hk)
def s_X11_two_52 (v0 : Nat) (v1 : Int32) (v4 : Int32) (v5 : Int32) (v6 : Int32) (R : zR) (s : Int32 × zI) : Option ((Int32 × zI) ⊕ (zI)) :=
  zw_g (zw_gc v0 11) (zw_g (zw_gc (R v0 26) 13) (zw_g (zw_in (s.2 v0 18) (zw_SH (R v0 26)).2) (if (s.2 (R v0 26) (Int32.toNatClampNeg (s.2 v0 18))) ≤ s.1 then some (.inr s.2) else zw_g (zw_gc (R v0 73) 13) (if ¬ ((v1 >>> (s.1 &&& 31)) &&& 1) = 0 then (f_X11_firstPlace v0 ((10 * (s.2 v0 18)) + s.1) v5 0 v6 s.2 R).bind fun q17 => (j_X11_two_104_52 v0 v1 v4 v5 v6 s.1 (R v0 73) s.1 q17 s.2 R) else j_X11_two_104_52 v0 v1 v4 v5 v6 s.1 (R v0 73) s.1 (-1) s.2 R))))
theorem s_X11_two_52_ok (X : zw_X) (P : Option Value → aS → Prop) (v0 : Nat) (v1 : Int32) (v4 : Int32) (v5 : Int32) (v6 : Int32) (R : zR) (J : zJ) (s : Int32 × zI) (o : (Int32 × zI) ⊕ (zI)) (hf : s_X11_two_52 v0 v1 v4 v5 v6 R s = some o) (hk : (zw_se (fun t => zy_V X M_X11_two 6 P 52 [.ref v0, .int v1, .null, .null, .int v4, .int v5, .int v6, .int t.1, .null] [] (t.2, R, J)) (fun r => zy_V X M_X11_two 6 P 151 [.ref v0, .int v1, .null, .null, .int v4, .int v5, .int v6, .null, .null] [] (r, R, J)) o)) : zy_V X M_X11_two 6 P 52 [.ref v0, .int v1, .null, .null, .int v4, .int v5, .int v6, .int s.1, .null] [] (s.2, R, J) := by
  unfold s_X11_two_52 at hf
  refine zv_iload (pc := 52) d_X11_two_52 rfl ?_
  refine zv_aload_n (pc := 54) d_X11_two_54 rfl ?_
  obtain ⟨g11, hf⟩ := zw_gcE hf (by decide)
  obtain ⟨g12, hf⟩ := zw_gcE hf (by decide)
  refine zx_getR (pc := 55) d_X11_two_55 lk_CutStonesModel_58 (by decide) g11 g12 ?_
  refine zv_aload_n (pc := 58) d_X11_two_58 rfl ?_
  refine zx_getI (pc := 59) d_X11_two_59 lk_CutStonesModel_248 (by decide) g11 ?_
  obtain ⟨i13, hf⟩ := zw_inE hf
  refine zx_iald (pc := 62) d_X11_two_62 g12 i13 ?_
  rcases zw_ifE hf with ⟨c14, hf⟩ | ⟨c14, hf⟩
  · refine zv_icmp_ge (pc := 63) (tg := 151) d_X11_two_63 (by decide) (fun _ => ?_) (fun q => absurd c14 q)
    cases hf
    exact zx_weak (zw_leS (zw_leS (zw_leN (zw_leN (zw_leS (zw_leS (zw_leS (zw_leN (zw_leN zw_leZ))))))))) hk
  · refine zv_icmp_ge (pc := 63) (tg := 151) d_X11_two_63 (by decide) (fun q => absurd q c14) (fun _ => ?_)
    refine zv_aload_n (pc := 66) d_X11_two_66 rfl ?_
    obtain ⟨g15, hf⟩ := zw_gcE hf (by decide)
    refine zx_getR (pc := 67) d_X11_two_67 lk_CutStonesModel_155 (by decide) g11 g15 ?_
    refine zv_iload (pc := 70) d_X11_two_70 rfl ?_
    refine zv_iload_n (pc := 72) d_X11_two_72 rfl ?_
    refine zv_iload (pc := 73) d_X11_two_73 rfl ?_
    refine zv_ishr (pc := 75) d_X11_two_75 ?_
    refine zv_iconst (pc := 76) d_X11_two_76 zc_i_1 ?_
    refine zv_iand (pc := 77) d_X11_two_77 ?_
    rcases zw_ifE hf with ⟨c16, hf⟩ | ⟨c16, hf⟩
    · refine zv_if_ne (pc := 78) (tg := 85) d_X11_two_78 (by decide) (fun _ => ?_) (fun q => absurd q c16)
      refine zv_aload_n (pc := 85) d_X11_two_85 rfl ?_
      refine zv_bipush (pc := 86) d_X11_two_86 zc_b_10 ?_
      refine zv_aload_n (pc := 88) d_X11_two_88 rfl ?_
      refine zx_getI (pc := 89) d_X11_two_89 lk_CutStonesModel_248 (by decide) g11 ?_
      refine zv_imul (pc := 92) d_X11_two_92 ?_
      refine zv_iload (pc := 93) d_X11_two_93 rfl ?_
      refine zv_iadd (pc := 95) d_X11_two_95 ?_
      refine zv_iload (pc := 96) d_X11_two_96 rfl ?_
      refine zv_iconst (pc := 98) d_X11_two_98 zc_i_0 ?_
      refine zv_iload (pc := 99) d_X11_two_99 rfl ?_
      obtain ⟨q17, hq17, hf⟩ := zw_bdE hf
      refine zx_callV (pc := 101) (As := [.int ((10 * (s.2 v0 18)) + s.1), .int v5, .int 0, .int v6]) (o := v0) (st := [.int s.1, .ref (R v0 73)]) (d2 := 2) (M2 := M_X11_firstPlace) (P2 := (fun r S => r = (some (.int q17)) ∧ S = (s.2, R, J))) d_X11_two_101 (zw_mG (List.mem_of_getElem? (i := 1669) (by decide +kernel)) rfl) ce_X11_firstPlace (zw_RvK g11 rfl rfl) (Nat.le_of_ble_eq_true rfl) rfl (Nat.le_of_ble_eq_true rfl) (by decide) (c_X11_firstPlace X v0 ((10 * (s.2 v0 18)) + s.1) v5 0 v6 s.2 R J _ hq17 ⟨rfl, rfl⟩) ?_
      rintro _ _ ⟨rfl, rfl⟩
      show zy_V X M_X11_two 6 P (101 + 3) [.ref v0, .int v1, .null, .null, .int v4, .int v5, .int v6, .int s.1, .null] [.int q17, .int s.1, .ref (R v0 73)] (s.2, R, J)
      exact zx_weak (zw_leS (zw_leS (zw_leN (zw_leN (zw_leS (zw_leS (zw_leS (zw_leS (zw_leN zw_leZ))))))))) (j_X11_two_104_52_ok X P v0 v1 v4 v5 v6 s.1 (R v0 73) s.1 q17 s.2 R J _ hf hk)
    · refine zv_if_ne (pc := 78) (tg := 85) d_X11_two_78 (by decide) (fun q => absurd q c16) (fun _ => ?_)
      refine zv_iconst (pc := 81) d_X11_two_81 zc_i_m1 ?_
      refine zv_goto (pc := 82) (tg := 104) d_X11_two_82 (by decide) ?_
      exact zx_weak (zw_leS (zw_leS (zw_leN (zw_leN (zw_leS (zw_leS (zw_leS (zw_leS (zw_leN zw_leZ))))))))) (j_X11_two_104_52_ok X P v0 v1 v4 v5 v6 s.1 (R v0 73) s.1 (-1) s.2 R J _ hf hk)
theorem s_X11_two_52_lp (X : zw_X) (P : Option Value → aS → Prop) (v0 : Nat) (v1 : Int32) (v4 : Int32) (v5 : Int32) (v6 : Int32) (R : zR) (J : zJ) (n : Nat) (s : Int32 × zI) (r : zI) (h : zw_it (s_X11_two_52 v0 v1 v4 v5 v6 R) n s = some r) (hq : zy_V X M_X11_two 6 P 151 [.ref v0, .int v1, .null, .null, .int v4, .int v5, .int v6, .null, .null] [] (r, R, J)) : zy_V X M_X11_two 6 P 52 [.ref v0, .int v1, .null, .null, .int v4, .int v5, .int v6, .int s.1, .null] [] (s.2, R, J) :=
  zw_itE (A := (fun t : Int32 × zI => zy_V X M_X11_two 6 P 52 [.ref v0, .int v1, .null, .null, .int v4, .int v5, .int v6, .int t.1, .null] [] (t.2, R, J))) (Q := (fun r : zI => zy_V X M_X11_two 6 P 151 [.ref v0, .int v1, .null, .null, .int v4, .int v5, .int v6, .null, .null] [] (r, R, J))) (fun s o h1 h2 => s_X11_two_52_ok X P v0 v1 v4 v5 v6 R J s o h1 h2) n s r h hq
def j_X11_two_348_171 (v0 : Nat) (v1 : Int32) (v4 : Int32) (v5 : Int32) (v6 : Int32) (v7 : Int32) (v8 : Int32) (I : zI) (R : zR) : Option ((Int32 × Int32 × zI) ⊕ (Int32 × zI)) :=
  zw_let (v8 + 1 : Int32) fun x41 => (some (.inl (v4, x41, I)))
theorem j_X11_two_348_171_ok (X : zw_X) (P : Option Value → aS → Prop) (v0 : Nat) (v1 : Int32) (v4 : Int32) (v5 : Int32) (v6 : Int32) (v7 : Int32) (v8 : Int32) (I : zI) (R : zR) (J : zJ) (o : (Int32 × Int32 × zI) ⊕ (Int32 × zI)) (hf : j_X11_two_348_171 v0 v1 v4 v5 v6 v7 v8 I R = some o) (hk : (zw_se (fun t => zy_V X M_X11_two 6 P 171 [.ref v0, .int v1, .null, .null, .int t.1, .int v5, .int v6, .int v7, .int t.2.1] [] (t.2.2, R, J)) (fun r => zy_V X M_X11_two 6 P 354 [.ref v0, .int v1, .null, .null, .int r.1, .int v5, .int v6, .int v7, .null] [] (r.2, R, J)) o)) : zy_V X M_X11_two 6 P 348 [.ref v0, .int v1, .null, .null, .int v4, .int v5, .int v6, .int v7, .int v8] [] (I, R, J) := by
  unfold j_X11_two_348_171 at hf
  obtain ⟨x41, ex41, hf⟩ := zw_letE hf
  refine zx_iinc (pc := 348) (x2 := x41) (L2 := [.ref v0, .int v1, .null, .null, .int v4, .int v5, .int v6, .int v7, .int x41]) d_X11_two_348 (by decide) rfl zc_i_1 ex41 rfl ?_
  refine zv_goto (pc := 351) (tg := 171) d_X11_two_351 (by decide) ?_
  cases hf
  exact zx_weak (zw_leS (zw_leS (zw_leN (zw_leN (zw_leS (zw_leS (zw_leS (zw_leS (zw_leS zw_leZ))))))))) hk
def j_X11_two_237_171 (v0 : Nat) (v1 : Int32) (v5 : Int32) (v6 : Int32) (v7 : Int32) (v8 : Int32) (I : zI) (R : zR) : Option ((Int32 × Int32 × zI) ⊕ (Int32 × zI)) :=
  zw_g (zw_gc v0 11) (zw_g (zw_gc (R v0 72) 13) (zw_g (zw_in v7 (zw_SH (R v0 72)).2) (zw_g (zw_in v8 (zw_SH (R v0 72)).2) (zw_let (((I (R v0 72) (Int32.toNatClampNeg v7)) + (I (R v0 72) (Int32.toNatClampNeg v8))) : Int32) fun x50 => (zw_let (zw_u I v0 70 1 : zI) fun I51 => (zw_g (zw_gc (R v0 71) 13) (zw_g (zw_in 0 (zw_SH (R v0 71)).2) (zw_let (zw_u I51 (R v0 71) (Int32.toNatClampNeg 0) v6 : zI) fun I54 => (zw_g (zw_in 1 (zw_SH (R v0 71)).2) (zw_let (zw_u I54 (R v0 71) (Int32.toNatClampNeg 1) v7 : zI) fun I56 => (zw_g (zw_gc (R v0 73) 13) (zw_g (zw_in v7 (zw_SH (R v0 73)).2) (zw_g (zw_in 2 (zw_SH (R v0 71)).2) (zw_let (zw_u I56 (R v0 71) (Int32.toNatClampNeg 2) ((I56 (R v0 73) (Int32.toNatClampNeg v7)) - (I56 (R v0 73) (Int32.toNatClampNeg v7)) / 12 * 12) : zI) fun I60 => (zw_g (zw_in v7 (zw_SH (R v0 73)).2) (zw_g (zw_in 3 (zw_SH (R v0 71)).2) (zw_let (zw_u I60 (R v0 71) (Int32.toNatClampNeg 3) ((I60 (R v0 73) (Int32.toNatClampNeg v7)) / 12) : zI) fun I63 => (zw_g (zw_in 4 (zw_SH (R v0 71)).2) (zw_let (zw_u I63 (R v0 71) (Int32.toNatClampNeg 4) v8 : zI) fun I65 => (zw_g (zw_gc (R v0 74) 13) (zw_g (zw_in v8 (zw_SH (R v0 74)).2) (zw_g (zw_in 5 (zw_SH (R v0 71)).2) (zw_let (zw_u I65 (R v0 71) (Int32.toNatClampNeg 5) ((I65 (R v0 74) (Int32.toNatClampNeg v8)) - (I65 (R v0 74) (Int32.toNatClampNeg v8)) / 12 * 12) : zI) fun I69 => (zw_g (zw_in v8 (zw_SH (R v0 74)).2) (zw_g (zw_in 6 (zw_SH (R v0 71)).2) (zw_let (zw_u I69 (R v0 71) (Int32.toNatClampNeg 6) ((I69 (R v0 74) (Int32.toNatClampNeg v8)) / 12) : zI) fun I72 => (j_X11_two_348_171 v0 v1 x50 v5 v6 v7 v8 I72 R)))))))))))))))))))))))))))
theorem j_X11_two_237_171_ok (X : zw_X) (P : Option Value → aS → Prop) (v0 : Nat) (v1 : Int32) (v5 : Int32) (v6 : Int32) (v7 : Int32) (v8 : Int32) (I : zI) (R : zR) (J : zJ) (o : (Int32 × Int32 × zI) ⊕ (Int32 × zI)) (hf : j_X11_two_237_171 v0 v1 v5 v6 v7 v8 I R = some o) (hk : (zw_se (fun t => zy_V X M_X11_two 6 P 171 [.ref v0, .int v1, .null, .null, .int t.1, .int v5, .int v6, .int v7, .int t.2.1] [] (t.2.2, R, J)) (fun r => zy_V X M_X11_two 6 P 354 [.ref v0, .int v1, .null, .null, .int r.1, .int v5, .int v6, .int v7, .null] [] (r.2, R, J)) o)) : zy_V X M_X11_two 6 P 237 [.ref v0, .int v1, .null, .null, .null, .int v5, .int v6, .int v7, .int v8] [] (I, R, J) := by
  unfold j_X11_two_237_171 at hf
  refine zv_aload_n (pc := 237) d_X11_two_237 rfl ?_
  obtain ⟨g46, hf⟩ := zw_gcE hf (by decide)
  obtain ⟨g47, hf⟩ := zw_gcE hf (by decide)
  refine zx_getR (pc := 238) d_X11_two_238 lk_CutStonesModel_152 (by decide) g46 g47 ?_
  refine zv_iload (pc := 241) d_X11_two_241 rfl ?_
  obtain ⟨i48, hf⟩ := zw_inE hf
  refine zx_iald (pc := 243) d_X11_two_243 g47 i48 ?_
  refine zv_aload_n (pc := 244) d_X11_two_244 rfl ?_
  refine zx_getR (pc := 245) d_X11_two_245 lk_CutStonesModel_152 (by decide) g46 g47 ?_
  refine zv_iload (pc := 248) d_X11_two_248 rfl ?_
  obtain ⟨i49, hf⟩ := zw_inE hf
  refine zx_iald (pc := 250) d_X11_two_250 g47 i49 ?_
  refine zv_iadd (pc := 251) d_X11_two_251 ?_
  obtain ⟨x50, ex50, hf⟩ := zw_letE hf
  refine zx_istore (pc := 252) (x2 := x50) (L2 := [.ref v0, .int v1, .null, .null, .int x50, .int v5, .int v6, .int v7, .int v8]) d_X11_two_252 (by decide) ex50 rfl ?_
  refine zv_aload_n (pc := 254) d_X11_two_254 rfl ?_
  refine zv_iconst (pc := 255) d_X11_two_255 zc_i_1 ?_
  obtain ⟨I51, eI51, hf⟩ := zw_letE hf
  refine zx_putZ (pc := 256) (I2 := I51) d_X11_two_256 lk_CutStonesModel_270 rfl (Or.inr rfl) g46 eI51 ?_
  refine zv_aload_n (pc := 259) d_X11_two_259 rfl ?_
  obtain ⟨g52, hf⟩ := zw_gcE hf (by decide)
  refine zx_getR (pc := 260) d_X11_two_260 lk_CutStonesModel_149 (by decide) g46 g52 ?_
  refine zv_iconst (pc := 263) d_X11_two_263 zc_i_0 ?_
  refine zv_iload (pc := 264) d_X11_two_264 rfl ?_
  obtain ⟨i53, hf⟩ := zw_inE hf
  obtain ⟨I54, eI54, hf⟩ := zw_letE hf
  refine zx_iast (pc := 266) (I2 := I54) d_X11_two_266 g52 i53 eI54 ?_
  refine zv_aload_n (pc := 267) d_X11_two_267 rfl ?_
  refine zx_getR (pc := 268) d_X11_two_268 lk_CutStonesModel_149 (by decide) g46 g52 ?_
  refine zv_iconst (pc := 271) d_X11_two_271 zc_i_1 ?_
  refine zv_iload (pc := 272) d_X11_two_272 rfl ?_
  obtain ⟨i55, hf⟩ := zw_inE hf
  obtain ⟨I56, eI56, hf⟩ := zw_letE hf
  refine zx_iast (pc := 274) (I2 := I56) d_X11_two_274 g52 i55 eI56 ?_
  refine zv_aload_n (pc := 275) d_X11_two_275 rfl ?_
  refine zx_getR (pc := 276) d_X11_two_276 lk_CutStonesModel_149 (by decide) g46 g52 ?_
  refine zv_iconst (pc := 279) d_X11_two_279 zc_i_2 ?_
  refine zv_aload_n (pc := 280) d_X11_two_280 rfl ?_
  obtain ⟨g57, hf⟩ := zw_gcE hf (by decide)
  refine zx_getR (pc := 281) d_X11_two_281 lk_CutStonesModel_155 (by decide) g46 g57 ?_
  refine zv_iload (pc := 284) d_X11_two_284 rfl ?_
  obtain ⟨i58, hf⟩ := zw_inE hf
  refine zx_iald (pc := 286) d_X11_two_286 g57 i58 ?_
  refine zv_bipush (pc := 287) d_X11_two_287 zc_b_12 ?_
  refine zv_irem (pc := 289) d_X11_two_289 (by decide +kernel) ?_
  obtain ⟨i59, hf⟩ := zw_inE hf
  obtain ⟨I60, eI60, hf⟩ := zw_letE hf
  refine zx_iast (pc := 290) (I2 := I60) d_X11_two_290 g52 i59 eI60 ?_
  refine zv_aload_n (pc := 291) d_X11_two_291 rfl ?_
  refine zx_getR (pc := 292) d_X11_two_292 lk_CutStonesModel_149 (by decide) g46 g52 ?_
  refine zv_iconst (pc := 295) d_X11_two_295 zc_i_3 ?_
  refine zv_aload_n (pc := 296) d_X11_two_296 rfl ?_
  refine zx_getR (pc := 297) d_X11_two_297 lk_CutStonesModel_155 (by decide) g46 g57 ?_
  refine zv_iload (pc := 300) d_X11_two_300 rfl ?_
  obtain ⟨i61, hf⟩ := zw_inE hf
  refine zx_iald (pc := 302) d_X11_two_302 g57 i61 ?_
  refine zv_bipush (pc := 303) d_X11_two_303 zc_b_12 ?_
  refine zv_idiv (pc := 305) d_X11_two_305 (by decide +kernel) ?_
  obtain ⟨i62, hf⟩ := zw_inE hf
  obtain ⟨I63, eI63, hf⟩ := zw_letE hf
  refine zx_iast (pc := 306) (I2 := I63) d_X11_two_306 g52 i62 eI63 ?_
  refine zv_aload_n (pc := 307) d_X11_two_307 rfl ?_
  refine zx_getR (pc := 308) d_X11_two_308 lk_CutStonesModel_149 (by decide) g46 g52 ?_
  refine zv_iconst (pc := 311) d_X11_two_311 zc_i_4 ?_
  refine zv_iload (pc := 312) d_X11_two_312 rfl ?_
  obtain ⟨i64, hf⟩ := zw_inE hf
  obtain ⟨I65, eI65, hf⟩ := zw_letE hf
  refine zx_iast (pc := 314) (I2 := I65) d_X11_two_314 g52 i64 eI65 ?_
  refine zv_aload_n (pc := 315) d_X11_two_315 rfl ?_
  refine zx_getR (pc := 316) d_X11_two_316 lk_CutStonesModel_149 (by decide) g46 g52 ?_
  refine zv_iconst (pc := 319) d_X11_two_319 zc_i_5 ?_
  refine zv_aload_n (pc := 320) d_X11_two_320 rfl ?_
  obtain ⟨g66, hf⟩ := zw_gcE hf (by decide)
  refine zx_getR (pc := 321) d_X11_two_321 lk_CutStonesModel_158 (by decide) g46 g66 ?_
  refine zv_iload (pc := 324) d_X11_two_324 rfl ?_
  obtain ⟨i67, hf⟩ := zw_inE hf
  refine zx_iald (pc := 326) d_X11_two_326 g66 i67 ?_
  refine zv_bipush (pc := 327) d_X11_two_327 zc_b_12 ?_
  refine zv_irem (pc := 329) d_X11_two_329 (by decide +kernel) ?_
  obtain ⟨i68, hf⟩ := zw_inE hf
  obtain ⟨I69, eI69, hf⟩ := zw_letE hf
  refine zx_iast (pc := 330) (I2 := I69) d_X11_two_330 g52 i68 eI69 ?_
  refine zv_aload_n (pc := 331) d_X11_two_331 rfl ?_
  refine zx_getR (pc := 332) d_X11_two_332 lk_CutStonesModel_149 (by decide) g46 g52 ?_
  refine zv_bipush (pc := 335) d_X11_two_335 zc_b_6 ?_
  refine zv_aload_n (pc := 337) d_X11_two_337 rfl ?_
  refine zx_getR (pc := 338) d_X11_two_338 lk_CutStonesModel_158 (by decide) g46 g66 ?_
  refine zv_iload (pc := 341) d_X11_two_341 rfl ?_
  obtain ⟨i70, hf⟩ := zw_inE hf
  refine zx_iald (pc := 343) d_X11_two_343 g66 i70 ?_
  refine zv_bipush (pc := 344) d_X11_two_344 zc_b_12 ?_
  refine zv_idiv (pc := 346) d_X11_two_346 (by decide +kernel) ?_
  obtain ⟨i71, hf⟩ := zw_inE hf
  obtain ⟨I72, eI72, hf⟩ := zw_letE hf
  refine zx_iast (pc := 347) (I2 := I72) d_X11_two_347 g52 i71 eI72 ?_
  exact zx_weak (zw_leS (zw_leS (zw_leN (zw_leN (zw_leS (zw_leS (zw_leS (zw_leS (zw_leS zw_leZ))))))))) (j_X11_two_348_171_ok X P v0 v1 x50 v5 v6 v7 v8 I72 R J _ hf hk)
def s_X11_two_171 (v0 : Nat) (v1 : Int32) (v5 : Int32) (v6 : Int32) (v7 : Int32) (R : zR) (s : Int32 × Int32 × zI) : Option ((Int32 × Int32 × zI) ⊕ (Int32 × zI)) :=
  zw_g (zw_gc v0 11) (zw_g (zw_gc (R v0 26) 13) (zw_g (zw_in (s.2.2 v0 18) (zw_SH (R v0 26)).2) (if (s.2.2 (R v0 26) (Int32.toNatClampNeg (s.2.2 v0 18))) ≤ s.2.1 then some (.inr (s.1, s.2.2)) else zw_g (zw_gc (R v0 73) 13) (zw_g (zw_in v7 (zw_SH (R v0 73)).2) (if (s.2.2 (R v0 73) (Int32.toNatClampNeg v7)) = (-1) then j_X11_two_348_171 v0 v1 s.1 v5 v6 v7 s.2.1 s.2.2 R else zw_g (zw_gc (R v0 74) 13) (zw_g (zw_in s.2.1 (zw_SH (R v0 74)).2) (if (s.2.2 (R v0 74) (Int32.toNatClampNeg s.2.1)) = (-1) then j_X11_two_348_171 v0 v1 s.1 v5 v6 v7 s.2.1 s.2.2 R else if s.1 = (-2) then j_X11_two_237_171 v0 v1 v5 v6 v7 s.2.1 s.2.2 R else zw_g (zw_gc (R v0 72) 13) (zw_g (zw_in v7 (zw_SH (R v0 72)).2) (zw_g (zw_in s.2.1 (zw_SH (R v0 72)).2) (if s.1 < ((s.2.2 (R v0 72) (Int32.toNatClampNeg v7)) + (s.2.2 (R v0 72) (Int32.toNatClampNeg s.2.1))) then j_X11_two_237_171 v0 v1 v5 v6 v7 s.2.1 s.2.2 R else j_X11_two_348_171 v0 v1 s.1 v5 v6 v7 s.2.1 s.2.2 R))))))))))
theorem s_X11_two_171_ok (X : zw_X) (P : Option Value → aS → Prop) (v0 : Nat) (v1 : Int32) (v5 : Int32) (v6 : Int32) (v7 : Int32) (R : zR) (J : zJ) (s : Int32 × Int32 × zI) (o : (Int32 × Int32 × zI) ⊕ (Int32 × zI)) (hf : s_X11_two_171 v0 v1 v5 v6 v7 R s = some o) (hk : (zw_se (fun t => zy_V X M_X11_two 6 P 171 [.ref v0, .int v1, .null, .null, .int t.1, .int v5, .int v6, .int v7, .int t.2.1] [] (t.2.2, R, J)) (fun r => zy_V X M_X11_two 6 P 354 [.ref v0, .int v1, .null, .null, .int r.1, .int v5, .int v6, .int v7, .null] [] (r.2, R, J)) o)) : zy_V X M_X11_two 6 P 171 [.ref v0, .int v1, .null, .null, .int s.1, .int v5, .int v6, .int v7, .int s.2.1] [] (s.2.2, R, J) := by
  unfold s_X11_two_171 at hf
  refine zv_iload (pc := 171) d_X11_two_171 rfl ?_
  refine zv_aload_n (pc := 173) d_X11_two_173 rfl ?_
  obtain ⟨g34, hf⟩ := zw_gcE hf (by decide)
  obtain ⟨g35, hf⟩ := zw_gcE hf (by decide)
  refine zx_getR (pc := 174) d_X11_two_174 lk_CutStonesModel_58 (by decide) g34 g35 ?_
  refine zv_aload_n (pc := 177) d_X11_two_177 rfl ?_
  refine zx_getI (pc := 178) d_X11_two_178 lk_CutStonesModel_248 (by decide) g34 ?_
  obtain ⟨i36, hf⟩ := zw_inE hf
  refine zx_iald (pc := 181) d_X11_two_181 g35 i36 ?_
  rcases zw_ifE hf with ⟨c37, hf⟩ | ⟨c37, hf⟩
  · refine zv_icmp_ge (pc := 182) (tg := 354) d_X11_two_182 (by decide) (fun _ => ?_) (fun q => absurd c37 q)
    cases hf
    exact zx_weak (zw_leS (zw_leS (zw_leN (zw_leN (zw_leS (zw_leS (zw_leS (zw_leS (zw_leN zw_leZ))))))))) hk
  · refine zv_icmp_ge (pc := 182) (tg := 354) d_X11_two_182 (by decide) (fun q => absurd q c37) (fun _ => ?_)
    refine zv_aload_n (pc := 185) d_X11_two_185 rfl ?_
    obtain ⟨g38, hf⟩ := zw_gcE hf (by decide)
    refine zx_getR (pc := 186) d_X11_two_186 lk_CutStonesModel_155 (by decide) g34 g38 ?_
    refine zv_iload (pc := 189) d_X11_two_189 rfl ?_
    obtain ⟨i39, hf⟩ := zw_inE hf
    refine zx_iald (pc := 191) d_X11_two_191 g38 i39 ?_
    refine zv_iconst (pc := 192) d_X11_two_192 zc_i_m1 ?_
    rcases zw_ifE hf with ⟨c40, hf⟩ | ⟨c40, hf⟩
    · refine zv_icmp_eq (pc := 193) (tg := 348) d_X11_two_193 (by decide) (fun _ => ?_) (fun q => absurd c40 q)
      exact zx_weak (zw_leS (zw_leS (zw_leN (zw_leN (zw_leS (zw_leS (zw_leS (zw_leS (zw_leS zw_leZ))))))))) (j_X11_two_348_171_ok X P v0 v1 s.1 v5 v6 v7 s.2.1 s.2.2 R J _ hf hk)
    · refine zv_icmp_eq (pc := 193) (tg := 348) d_X11_two_193 (by decide) (fun q => absurd q c40) (fun _ => ?_)
      refine zv_aload_n (pc := 196) d_X11_two_196 rfl ?_
      obtain ⟨g42, hf⟩ := zw_gcE hf (by decide)
      refine zx_getR (pc := 197) d_X11_two_197 lk_CutStonesModel_158 (by decide) g34 g42 ?_
      refine zv_iload (pc := 200) d_X11_two_200 rfl ?_
      obtain ⟨i43, hf⟩ := zw_inE hf
      refine zx_iald (pc := 202) d_X11_two_202 g42 i43 ?_
      refine zv_iconst (pc := 203) d_X11_two_203 zc_i_m1 ?_
      rcases zw_ifE hf with ⟨c44, hf⟩ | ⟨c44, hf⟩
      · refine zv_icmp_eq (pc := 204) (tg := 348) d_X11_two_204 (by decide) (fun _ => ?_) (fun q => absurd c44 q)
        exact zx_weak (zw_leS (zw_leS (zw_leN (zw_leN (zw_leS (zw_leS (zw_leS (zw_leS (zw_leS zw_leZ))))))))) (j_X11_two_348_171_ok X P v0 v1 s.1 v5 v6 v7 s.2.1 s.2.2 R J _ hf hk)
      · refine zv_icmp_eq (pc := 204) (tg := 348) d_X11_two_204 (by decide) (fun q => absurd q c44) (fun _ => ?_)
        refine zv_iload (pc := 207) d_X11_two_207 rfl ?_
        refine zv_bipush (pc := 209) d_X11_two_209 zc_b_m2 ?_
        rcases zw_ifE hf with ⟨c45, hf⟩ | ⟨c45, hf⟩
        · refine zv_icmp_eq (pc := 211) (tg := 237) d_X11_two_211 (by decide) (fun _ => ?_) (fun q => absurd c45 q)
          exact zx_weak (zw_leS (zw_leS (zw_leN (zw_leN (zw_leN (zw_leS (zw_leS (zw_leS (zw_leS zw_leZ))))))))) (j_X11_two_237_171_ok X P v0 v1 v5 v6 v7 s.2.1 s.2.2 R J _ hf hk)
        · refine zv_icmp_eq (pc := 211) (tg := 237) d_X11_two_211 (by decide) (fun q => absurd q c45) (fun _ => ?_)
          refine zv_aload_n (pc := 214) d_X11_two_214 rfl ?_
          obtain ⟨g73, hf⟩ := zw_gcE hf (by decide)
          refine zx_getR (pc := 215) d_X11_two_215 lk_CutStonesModel_152 (by decide) g34 g73 ?_
          refine zv_iload (pc := 218) d_X11_two_218 rfl ?_
          obtain ⟨i74, hf⟩ := zw_inE hf
          refine zx_iald (pc := 220) d_X11_two_220 g73 i74 ?_
          refine zv_aload_n (pc := 221) d_X11_two_221 rfl ?_
          refine zx_getR (pc := 222) d_X11_two_222 lk_CutStonesModel_152 (by decide) g34 g73 ?_
          refine zv_iload (pc := 225) d_X11_two_225 rfl ?_
          obtain ⟨i75, hf⟩ := zw_inE hf
          refine zx_iald (pc := 227) d_X11_two_227 g73 i75 ?_
          refine zv_iadd (pc := 228) d_X11_two_228 ?_
          refine zv_iload (pc := 229) d_X11_two_229 rfl ?_
          rcases zw_ifE hf with ⟨c76, hf⟩ | ⟨c76, hf⟩
          · refine zv_icmp_gt (pc := 231) (tg := 237) d_X11_two_231 (by decide) (fun _ => ?_) (fun q => absurd c76 q)
            exact zx_weak (zw_leS (zw_leS (zw_leN (zw_leN (zw_leN (zw_leS (zw_leS (zw_leS (zw_leS zw_leZ))))))))) (j_X11_two_237_171_ok X P v0 v1 v5 v6 v7 s.2.1 s.2.2 R J _ hf hk)
          · refine zv_icmp_gt (pc := 231) (tg := 237) d_X11_two_231 (by decide) (fun q => absurd q c76) (fun _ => ?_)
            refine zv_goto (pc := 234) (tg := 348) d_X11_two_234 (by decide) ?_
            exact zx_weak (zw_leS (zw_leS (zw_leN (zw_leN (zw_leS (zw_leS (zw_leS (zw_leS (zw_leS zw_leZ))))))))) (j_X11_two_348_171_ok X P v0 v1 s.1 v5 v6 v7 s.2.1 s.2.2 R J _ hf hk)
theorem s_X11_two_171_lp (X : zw_X) (P : Option Value → aS → Prop) (v0 : Nat) (v1 : Int32) (v5 : Int32) (v6 : Int32) (v7 : Int32) (R : zR) (J : zJ) (n : Nat) (s : Int32 × Int32 × zI) (r : Int32 × zI) (h : zw_it (s_X11_two_171 v0 v1 v5 v6 v7 R) n s = some r) (hq : zy_V X M_X11_two 6 P 354 [.ref v0, .int v1, .null, .null, .int r.1, .int v5, .int v6, .int v7, .null] [] (r.2, R, J)) : zy_V X M_X11_two 6 P 171 [.ref v0, .int v1, .null, .null, .int s.1, .int v5, .int v6, .int v7, .int s.2.1] [] (s.2.2, R, J) :=
  zw_itE (A := (fun t : Int32 × Int32 × zI => zy_V X M_X11_two 6 P 171 [.ref v0, .int v1, .null, .null, .int t.1, .int v5, .int v6, .int v7, .int t.2.1] [] (t.2.2, R, J))) (Q := (fun r : Int32 × zI => zy_V X M_X11_two 6 P 354 [.ref v0, .int v1, .null, .null, .int r.1, .int v5, .int v6, .int v7, .null] [] (r.2, R, J))) (fun s o h1 h2 => s_X11_two_171_ok X P v0 v1 v5 v6 v7 R J s o h1 h2) n s r h hq
def s_X11_two_154 (v0 : Nat) (v1 : Int32) (v5 : Int32) (v6 : Int32) (R : zR) (s : Int32 × Int32 × zI) : Option ((Int32 × Int32 × zI) ⊕ (Int32 × zI)) :=
  zw_g (zw_gc v0 11) (zw_g (zw_gc (R v0 26) 13) (zw_g (zw_in (s.2.2 v0 18) (zw_SH (R v0 26)).2) (if (s.2.2 (R v0 26) (Int32.toNatClampNeg (s.2.2 v0 18))) ≤ s.2.1 then some (.inr (s.1, s.2.2)) else (zw_it (s_X11_two_171 v0 v1 v5 v6 s.2.1 R) 1000000 (s.1, 0, s.2.2)).bind fun q77 => (zw_let (s.2.1 + 1 : Int32) fun x78 => (some (.inl (q77.1, x78, q77.2)))))))
theorem s_X11_two_154_ok (X : zw_X) (P : Option Value → aS → Prop) (v0 : Nat) (v1 : Int32) (v5 : Int32) (v6 : Int32) (R : zR) (J : zJ) (s : Int32 × Int32 × zI) (o : (Int32 × Int32 × zI) ⊕ (Int32 × zI)) (hf : s_X11_two_154 v0 v1 v5 v6 R s = some o) (hk : (zw_se (fun t => zy_V X M_X11_two 6 P 154 [.ref v0, .int v1, .null, .null, .int t.1, .int v5, .int v6, .int t.2.1, .null] [] (t.2.2, R, J)) (fun r => zy_V X M_X11_two 6 P 360 [.ref v0, .int v1, .null, .null, .int r.1, .int v5, .int v6, .null, .null] [] (r.2, R, J)) o)) : zy_V X M_X11_two 6 P 154 [.ref v0, .int v1, .null, .null, .int s.1, .int v5, .int v6, .int s.2.1, .null] [] (s.2.2, R, J) := by
  unfold s_X11_two_154 at hf
  refine zv_iload (pc := 154) d_X11_two_154 rfl ?_
  refine zv_aload_n (pc := 156) d_X11_two_156 rfl ?_
  obtain ⟨g30, hf⟩ := zw_gcE hf (by decide)
  obtain ⟨g31, hf⟩ := zw_gcE hf (by decide)
  refine zx_getR (pc := 157) d_X11_two_157 lk_CutStonesModel_58 (by decide) g30 g31 ?_
  refine zv_aload_n (pc := 160) d_X11_two_160 rfl ?_
  refine zx_getI (pc := 161) d_X11_two_161 lk_CutStonesModel_248 (by decide) g30 ?_
  obtain ⟨i32, hf⟩ := zw_inE hf
  refine zx_iald (pc := 164) d_X11_two_164 g31 i32 ?_
  rcases zw_ifE hf with ⟨c33, hf⟩ | ⟨c33, hf⟩
  · refine zv_icmp_ge (pc := 165) (tg := 360) d_X11_two_165 (by decide) (fun _ => ?_) (fun q => absurd c33 q)
    cases hf
    exact zx_weak (zw_leS (zw_leS (zw_leN (zw_leN (zw_leS (zw_leS (zw_leS (zw_leN (zw_leN zw_leZ))))))))) hk
  · refine zv_icmp_ge (pc := 165) (tg := 360) d_X11_two_165 (by decide) (fun q => absurd q c33) (fun _ => ?_)
    refine zv_iconst (pc := 168) d_X11_two_168 zc_i_0 ?_
    refine zx_istore (pc := 169) (x2 := 0) (L2 := [.ref v0, .int v1, .null, .null, .int s.1, .int v5, .int v6, .int s.2.1, .int 0]) d_X11_two_169 (by decide) rfl rfl ?_
    obtain ⟨q77, hq77, hf⟩ := zw_bdE hf
    refine zx_weak (L' := [.ref v0, .int v1, .null, .null, .int s.1, .int v5, .int v6, .int s.2.1, .int 0]) (zw_leS (zw_leS (zw_leN (zw_leN (zw_leS (zw_leS (zw_leS (zw_leS (zw_leS zw_leZ))))))))) (s_X11_two_171_lp X P v0 v1 v5 v6 s.2.1 R J _ _ _ hq77 ?_)
    show zy_V X M_X11_two 6 P 354 [.ref v0, .int v1, .null, .null, .int q77.1, .int v5, .int v6, .int s.2.1, .null] [] (q77.2, R, J)
    obtain ⟨x78, ex78, hf⟩ := zw_letE hf
    refine zx_iinc (pc := 354) (x2 := x78) (L2 := [.ref v0, .int v1, .null, .null, .int q77.1, .int v5, .int v6, .int x78, .null]) d_X11_two_354 (by decide) rfl zc_i_1 ex78 rfl ?_
    refine zv_goto (pc := 357) (tg := 154) d_X11_two_357 (by decide) ?_
    cases hf
    exact zx_weak (zw_leS (zw_leS (zw_leN (zw_leN (zw_leS (zw_leS (zw_leS (zw_leS (zw_leN zw_leZ))))))))) hk
theorem s_X11_two_154_lp (X : zw_X) (P : Option Value → aS → Prop) (v0 : Nat) (v1 : Int32) (v5 : Int32) (v6 : Int32) (R : zR) (J : zJ) (n : Nat) (s : Int32 × Int32 × zI) (r : Int32 × zI) (h : zw_it (s_X11_two_154 v0 v1 v5 v6 R) n s = some r) (hq : zy_V X M_X11_two 6 P 360 [.ref v0, .int v1, .null, .null, .int r.1, .int v5, .int v6, .null, .null] [] (r.2, R, J)) : zy_V X M_X11_two 6 P 154 [.ref v0, .int v1, .null, .null, .int s.1, .int v5, .int v6, .int s.2.1, .null] [] (s.2.2, R, J) :=
  zw_itE (A := (fun t : Int32 × Int32 × zI => zy_V X M_X11_two 6 P 154 [.ref v0, .int v1, .null, .null, .int t.1, .int v5, .int v6, .int t.2.1, .null] [] (t.2.2, R, J))) (Q := (fun r : Int32 × zI => zy_V X M_X11_two 6 P 360 [.ref v0, .int v1, .null, .null, .int r.1, .int v5, .int v6, .null, .null] [] (r.2, R, J))) (fun s o h1 h2 => s_X11_two_154_ok X P v0 v1 v5 v6 R J s o h1 h2) n s r h hq
def s_X11_two_37 (v0 : Nat) (v1 : Int32) (v5 : Int32) (R : zR) (s : Int32 × Int32 × zI) : Option ((Int32 × Int32 × zI) ⊕ (Int32 × zI)) :=
  zw_g (zw_gc v0 11) (zw_g (zw_gc (R v0 28) 13) (zw_g (zw_in v5 (zw_SH (R v0 28)).2) (if (s.2.2 (R v0 28) (Int32.toNatClampNeg v5)) ≤ s.2.1 then some (.inr (s.1, s.2.2)) else (zw_it (s_X11_two_52 v0 v1 s.1 v5 s.2.1 R) 1000000 (0, s.2.2)).bind fun q29 => ((zw_it (s_X11_two_154 v0 v1 v5 s.2.1 R) 1000000 (s.1, 0, q29)).bind fun q79 => (zw_let (s.2.1 + 1 : Int32) fun x80 => (some (.inl (q79.1, x80, q79.2))))))))
theorem s_X11_two_37_ok (X : zw_X) (P : Option Value → aS → Prop) (v0 : Nat) (v1 : Int32) (v5 : Int32) (R : zR) (J : zJ) (s : Int32 × Int32 × zI) (o : (Int32 × Int32 × zI) ⊕ (Int32 × zI)) (hf : s_X11_two_37 v0 v1 v5 R s = some o) (hk : (zw_se (fun t => zy_V X M_X11_two 6 P 37 [.ref v0, .int v1, .null, .null, .int t.1, .int v5, .int t.2.1, .null, .null] [] (t.2.2, R, J)) (fun r => zy_V X M_X11_two 6 P 366 [.null, .null, .null, .null, .int r.1, .null, .null, .null, .null] [] (r.2, R, J)) o)) : zy_V X M_X11_two 6 P 37 [.ref v0, .int v1, .null, .null, .int s.1, .int v5, .int s.2.1, .null, .null] [] (s.2.2, R, J) := by
  unfold s_X11_two_37 at hf
  refine zv_iload (pc := 37) d_X11_two_37 rfl ?_
  refine zv_aload_n (pc := 39) d_X11_two_39 rfl ?_
  obtain ⟨g7, hf⟩ := zw_gcE hf (by decide)
  obtain ⟨g8, hf⟩ := zw_gcE hf (by decide)
  refine zx_getR (pc := 40) d_X11_two_40 lk_CutStonesModel_64 (by decide) g7 g8 ?_
  refine zv_iload (pc := 43) d_X11_two_43 rfl ?_
  obtain ⟨i9, hf⟩ := zw_inE hf
  refine zx_iald (pc := 45) d_X11_two_45 g8 i9 ?_
  rcases zw_ifE hf with ⟨c10, hf⟩ | ⟨c10, hf⟩
  · refine zv_icmp_ge (pc := 46) (tg := 366) d_X11_two_46 (by decide) (fun _ => ?_) (fun q => absurd c10 q)
    cases hf
    exact zx_weak (zw_leN (zw_leN (zw_leN (zw_leN (zw_leS (zw_leN (zw_leN (zw_leN (zw_leN zw_leZ))))))))) hk
  · refine zv_icmp_ge (pc := 46) (tg := 366) d_X11_two_46 (by decide) (fun q => absurd q c10) (fun _ => ?_)
    refine zv_iconst (pc := 49) d_X11_two_49 zc_i_0 ?_
    refine zx_istore (pc := 50) (x2 := 0) (L2 := [.ref v0, .int v1, .null, .null, .int s.1, .int v5, .int s.2.1, .int 0, .null]) d_X11_two_50 (by decide) rfl rfl ?_
    obtain ⟨q29, hq29, hf⟩ := zw_bdE hf
    refine zx_weak (L' := [.ref v0, .int v1, .null, .null, .int s.1, .int v5, .int s.2.1, .int 0, .null]) (zw_leS (zw_leS (zw_leN (zw_leN (zw_leS (zw_leS (zw_leS (zw_leS (zw_leN zw_leZ))))))))) (s_X11_two_52_lp X P v0 v1 s.1 v5 s.2.1 R J _ _ _ hq29 ?_)
    show zy_V X M_X11_two 6 P 151 [.ref v0, .int v1, .null, .null, .int s.1, .int v5, .int s.2.1, .null, .null] [] (q29, R, J)
    refine zv_iconst (pc := 151) d_X11_two_151 zc_i_0 ?_
    refine zx_istore (pc := 152) (x2 := 0) (L2 := [.ref v0, .int v1, .null, .null, .int s.1, .int v5, .int s.2.1, .int 0, .null]) d_X11_two_152 (by decide) rfl rfl ?_
    obtain ⟨q79, hq79, hf⟩ := zw_bdE hf
    refine zx_weak (L' := [.ref v0, .int v1, .null, .null, .int s.1, .int v5, .int s.2.1, .int 0, .null]) (zw_leS (zw_leS (zw_leN (zw_leN (zw_leS (zw_leS (zw_leS (zw_leS (zw_leN zw_leZ))))))))) (s_X11_two_154_lp X P v0 v1 v5 s.2.1 R J _ _ _ hq79 ?_)
    show zy_V X M_X11_two 6 P 360 [.ref v0, .int v1, .null, .null, .int q79.1, .int v5, .int s.2.1, .null, .null] [] (q79.2, R, J)
    obtain ⟨x80, ex80, hf⟩ := zw_letE hf
    refine zx_iinc (pc := 360) (x2 := x80) (L2 := [.ref v0, .int v1, .null, .null, .int q79.1, .int v5, .int x80, .null, .null]) d_X11_two_360 (by decide) rfl zc_i_1 ex80 rfl ?_
    refine zv_goto (pc := 363) (tg := 37) d_X11_two_363 (by decide) ?_
    cases hf
    exact zx_weak (zw_leS (zw_leS (zw_leN (zw_leN (zw_leS (zw_leS (zw_leS (zw_leN (zw_leN zw_leZ))))))))) hk
theorem s_X11_two_37_lp (X : zw_X) (P : Option Value → aS → Prop) (v0 : Nat) (v1 : Int32) (v5 : Int32) (R : zR) (J : zJ) (n : Nat) (s : Int32 × Int32 × zI) (r : Int32 × zI) (h : zw_it (s_X11_two_37 v0 v1 v5 R) n s = some r) (hq : zy_V X M_X11_two 6 P 366 [.null, .null, .null, .null, .int r.1, .null, .null, .null, .null] [] (r.2, R, J)) : zy_V X M_X11_two 6 P 37 [.ref v0, .int v1, .null, .null, .int s.1, .int v5, .int s.2.1, .null, .null] [] (s.2.2, R, J) :=
  zw_itE (A := (fun t : Int32 × Int32 × zI => zy_V X M_X11_two 6 P 37 [.ref v0, .int v1, .null, .null, .int t.1, .int v5, .int t.2.1, .null, .null] [] (t.2.2, R, J))) (Q := (fun r : Int32 × zI => zy_V X M_X11_two 6 P 366 [.null, .null, .null, .null, .int r.1, .null, .null, .null, .null] [] (r.2, R, J))) (fun s o h1 h2 => s_X11_two_37_ok X P v0 v1 v5 R J s o h1 h2) n s r h hq
def f_X11_two (v0 : Nat) (v1 : Int32) (v2 : Int32) (v3 : Int32) (I : zI) (R : zR) : Option (Int32 × zI) :=
  zw_g (zw_gc v0 11) ((f_X11_isAsked v0 v1 v2 v3 I R).bind fun q2 => (if ¬ q2 = 0 then (f_X11_prices v0 v1 v3 I R).bind fun q4 => (zw_let (zw_u q4 v0 70 0 : zI) fun I5 => ((f_X11_roughRow v0 v2 I5 R).bind fun q6 => ((zw_it (s_X11_two_37 v0 v1 q6 R) 1000000 ((-2), 1, I5)).bind fun q81 => (some (q81.1, q81.2))))) else some ((-1), I)))
theorem c_X11_two (X : zw_X) (v0 : Nat) (v1 : Int32) (v2 : Int32) (v3 : Int32) (I : zI) (R : zR) (J : zJ) {P : Option Value → aS → Prop} (o : Int32 × zI) (hf : f_X11_two v0 v1 v2 v3 I R = some o) (hk : P (some (.int o.1)) (o.2, R, J)) : zw_C X M_X11_two 6 0 0 199 [.ref v0, .int v1, .int v2, .int v3] (I, R, J) P := by
  show zy_V X M_X11_two 6 P 0 [.ref v0, .int v1, .int v2, .int v3, .null, .null, .null, .null, .null] [] (I, R, J)
  unfold f_X11_two at hf
  refine zv_aload_n (pc := 0) d_X11_two_0 rfl ?_
  refine zv_iload_n (pc := 1) d_X11_two_1 rfl ?_
  refine zv_iload_n (pc := 2) d_X11_two_2 rfl ?_
  refine zv_iload_n (pc := 3) d_X11_two_3 rfl ?_
  obtain ⟨g1, hf⟩ := zw_gcE hf (by decide)
  obtain ⟨q2, hq2, hf⟩ := zw_bdE hf
  refine zx_callV (pc := 4) (As := [.int v1, .int v2, .int v3]) (o := v0) (st := []) (d2 := 2) (M2 := M_X11_isAsked) (P2 := (fun r S => r = (some (.int q2)) ∧ S = (I, R, J))) d_X11_two_4 (zw_mG (List.mem_of_getElem? (i := 1661) (by decide +kernel)) rfl) ce_X11_isAsked (zw_RvK g1 rfl rfl) (Nat.le_of_ble_eq_true rfl) rfl (Nat.le_of_ble_eq_true rfl) (by decide) (c_X11_isAsked X v0 v1 v2 v3 I R J _ hq2 ⟨rfl, rfl⟩) ?_
  rintro _ _ ⟨rfl, rfl⟩
  show zy_V X M_X11_two 6 P (4 + 3) [.ref v0, .int v1, .int v2, .int v3, .null, .null, .null, .null, .null] [.int q2] (I, R, J)
  rcases zw_ifE hf with ⟨c3, hf⟩ | ⟨c3, hf⟩
  · refine zv_if_ne (pc := 7) (tg := 12) d_X11_two_7 (by decide) (fun _ => ?_) (fun q => absurd q c3)
    refine zv_aload_n (pc := 12) d_X11_two_12 rfl ?_
    refine zv_iload_n (pc := 13) d_X11_two_13 rfl ?_
    refine zv_iload_n (pc := 14) d_X11_two_14 rfl ?_
    obtain ⟨q4, hq4, hf⟩ := zw_bdE hf
    refine zx_callV (pc := 15) (As := [.int v1, .int v3]) (o := v0) (st := []) (d2 := 5) (M2 := M_X11_prices) (P2 := (fun r S => r = none ∧ S = (q4, R, J))) d_X11_two_15 (zw_mG (List.mem_of_getElem? (i := 1665) (by decide +kernel)) rfl) ce_X11_prices (zw_RvK g1 rfl rfl) (Nat.le_of_ble_eq_true rfl) rfl (Nat.le_of_ble_eq_true rfl) (by decide) (c_X11_prices X v0 v1 v3 I R J _ hq4 ⟨rfl, rfl⟩) ?_
    rintro _ _ ⟨rfl, rfl⟩
    show zy_V X M_X11_two 6 P (15 + 3) [.ref v0, .int v1, .int v2, .int v3, .null, .null, .null, .null, .null] [] (q4, R, J)
    refine zv_aload_n (pc := 18) d_X11_two_18 rfl ?_
    refine zv_iconst (pc := 19) d_X11_two_19 zc_i_0 ?_
    obtain ⟨I5, eI5, hf⟩ := zw_letE hf
    refine zx_putZ (pc := 20) (I2 := I5) d_X11_two_20 lk_CutStonesModel_270 rfl (Or.inl rfl) g1 eI5 ?_
    refine zv_bipush (pc := 23) d_X11_two_23 zc_b_m2 ?_
    refine zx_istore (pc := 25) (x2 := (-2)) (L2 := [.ref v0, .int v1, .int v2, .int v3, .int (-2), .null, .null, .null, .null]) d_X11_two_25 (by decide) rfl rfl ?_
    refine zv_aload_n (pc := 27) d_X11_two_27 rfl ?_
    refine zv_iload_n (pc := 28) d_X11_two_28 rfl ?_
    obtain ⟨q6, hq6, hf⟩ := zw_bdE hf
    refine zx_callV (pc := 29) (As := [.int v2]) (o := v0) (st := []) (d2 := 1) (M2 := M_X11_roughRow) (P2 := (fun r S => r = (some (.int q6)) ∧ S = (I5, R, J))) d_X11_two_29 (zw_mG (List.mem_of_getElem? (i := 1518) (by decide +kernel)) rfl) ce_X11_roughRow (zw_RvK g1 rfl rfl) (Nat.le_of_ble_eq_true rfl) rfl (Nat.le_of_ble_eq_true rfl) (by decide) (c_X11_roughRow X v0 v2 I5 R J _ hq6 ⟨rfl, rfl⟩) ?_
    rintro _ _ ⟨rfl, rfl⟩
    show zy_V X M_X11_two 6 P (29 + 3) [.ref v0, .int v1, .int v2, .int v3, .int (-2), .null, .null, .null, .null] [.int q6] (I5, R, J)
    refine zx_istore (pc := 32) (x2 := q6) (L2 := [.ref v0, .int v1, .int v2, .int v3, .int (-2), .int q6, .null, .null, .null]) d_X11_two_32 (by decide) rfl rfl ?_
    refine zv_iconst (pc := 34) d_X11_two_34 zc_i_1 ?_
    refine zx_istore (pc := 35) (x2 := 1) (L2 := [.ref v0, .int v1, .int v2, .int v3, .int (-2), .int q6, .int 1, .null, .null]) d_X11_two_35 (by decide) rfl rfl ?_
    obtain ⟨q81, hq81, hf⟩ := zw_bdE hf
    refine zx_weak (L' := [.ref v0, .int v1, .null, .null, .int (-2), .int q6, .int 1, .null, .null]) (zw_leS (zw_leS (zw_leN (zw_leN (zw_leS (zw_leS (zw_leS (zw_leN (zw_leN zw_leZ))))))))) (s_X11_two_37_lp X P v0 v1 q6 R J _ _ _ hq81 ?_)
    show zy_V X M_X11_two 6 P 366 [.null, .null, .null, .null, .int q81.1, .null, .null, .null, .null] [] (q81.2, R, J)
    refine zv_iload (pc := 366) d_X11_two_366 rfl ?_
    cases hf
    exact zx_iret (pc := 368) d_X11_two_368 rfl hk
  · refine zv_if_ne (pc := 7) (tg := 12) d_X11_two_7 (by decide) (fun q => absurd q c3) (fun _ => ?_)
    refine zv_iconst (pc := 10) d_X11_two_10 zc_i_m1 ?_
    cases hf
    exact zx_iret (pc := 11) d_X11_two_11 rfl hk
