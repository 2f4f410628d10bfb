abbrev M_X10_brightOf : zw_M := (⟨"CutStones", "brightOf", "(III)I"⟩, prog_1_method_44_code, 5, (Option.some Jvm.ClassFile.FieldType.int))
theorem d_X10_brightOf_0 : decode M_X10_brightOf.2.1 0 = .ok (.iload_n 1, 1) := by decide +kernel
theorem d_X10_brightOf_1 : decode M_X10_brightOf.2.1 1 = .ok (.iconst 4, 1) := by decide +kernel
theorem d_X10_brightOf_2 : decode M_X10_brightOf.2.1 2 = .ok (.imul, 1) := by decide +kernel
theorem d_X10_brightOf_3 : decode M_X10_brightOf.2.1 3 = .ok (.iload_n 2, 1) := by decide +kernel
theorem d_X10_brightOf_4 : decode M_X10_brightOf.2.1 4 = .ok (.iadd, 1) := by decide +kernel
theorem d_X10_brightOf_5 : decode M_X10_brightOf.2.1 5 = .ok (.iconst 4, 1) := by decide +kernel
theorem d_X10_brightOf_6 : decode M_X10_brightOf.2.1 6 = .ok (.imul, 1) := by decide +kernel
theorem d_X10_brightOf_7 : decode M_X10_brightOf.2.1 7 = .ok (.iload_n 3, 1) := by decide +kernel
theorem d_X10_brightOf_8 : decode M_X10_brightOf.2.1 8 = .ok (.iadd, 1) := by decide +kernel
theorem d_X10_brightOf_9 : decode M_X10_brightOf.2.1 9 = .ok (.istore 4, 2) := by decide +kernel
theorem d_X10_brightOf_11 : decode M_X10_brightOf.2.1 11 = .ok (.aload_n 0, 1) := by decide +kernel
theorem d_X10_brightOf_12 : decode M_X10_brightOf.2.1 12 = .ok (.getfield 75, 3) := by decide +kernel
theorem d_X10_brightOf_15 : decode M_X10_brightOf.2.1 15 = .ok (.iload 4, 2) := by decide +kernel
theorem d_X10_brightOf_17 : decode M_X10_brightOf.2.1 17 = .ok (.iaload, 1) := by decide +kernel
theorem d_X10_brightOf_18 : decode M_X10_brightOf.2.1 18 = .ok (.iconst (-1), 1) := by decide +kernel
theorem d_X10_brightOf_19 : decode M_X10_brightOf.2.1 19 = .ok (.if_icmp .ne 45, 3) := by decide +kernel
theorem d_X10_brightOf_22 : decode M_X10_brightOf.2.1 22 = .ok (.aload_n 0, 1) := by decide +kernel
theorem d_X10_brightOf_23 : decode M_X10_brightOf.2.1 23 = .ok (.getfield 51, 3) := by decide +kernel
theorem d_X10_brightOf_26 : decode M_X10_brightOf.2.1 26 = .ok (.aload_n 0, 1) := by decide +kernel
theorem d_X10_brightOf_27 : decode M_X10_brightOf.2.1 27 = .ok (.getfield 26, 3) := by decide +kernel
theorem d_X10_brightOf_30 : decode M_X10_brightOf.2.1 30 = .ok (.getfield 141, 3) := by decide +kernel
theorem d_X10_brightOf_33 : decode M_X10_brightOf.2.1 33 = .ok (.iload_n 1, 1) := by decide +kernel
theorem d_X10_brightOf_34 : decode M_X10_brightOf.2.1 34 = .ok (.aaload, 1) := by decide +kernel
theorem d_X10_brightOf_35 : decode M_X10_brightOf.2.1 35 = .ok (.aload_n 0, 1) := by decide +kernel
theorem d_X10_brightOf_36 : decode M_X10_brightOf.2.1 36 = .ok (.getfield 26, 3) := by decide +kernel
theorem d_X10_brightOf_39 : decode M_X10_brightOf.2.1 39 = .ok (.getfield 159, 3) := by decide +kernel
theorem d_X10_brightOf_42 : decode M_X10_brightOf.2.1 42 = .ok (.iload_n 2, 1) := by decide +kernel
theorem d_X10_brightOf_43 : decode M_X10_brightOf.2.1 43 = .ok (.aaload, 1) := by decide +kernel
theorem d_X10_brightOf_44 : decode M_X10_brightOf.2.1 44 = .ok (.iload_n 3, 1) := by decide +kernel
theorem d_X10_brightOf_45 : decode M_X10_brightOf.2.1 45 = .ok (.invokevirtual 187, 3) := by decide +kernel
theorem d_X10_brightOf_48 : decode M_X10_brightOf.2.1 48 = .ok (.aload_n 0, 1) := by decide +kernel
theorem d_X10_brightOf_49 : decode M_X10_brightOf.2.1 49 = .ok (.getfield 75, 3) := by decide +kernel
theorem d_X10_brightOf_52 : decode M_X10_brightOf.2.1 52 = .ok (.iload 4, 2) := by decide +kernel
theorem d_X10_brightOf_54 : decode M_X10_brightOf.2.1 54 = .ok (.aload_n 0, 1) := by decide +kernel
theorem d_X10_brightOf_55 : decode M_X10_brightOf.2.1 55 = .ok (.getfield 51, 3) := by decide +kernel
theorem d_X10_brightOf_58 : decode M_X10_brightOf.2.1 58 = .ok (.getfield 191, 3) := by decide +kernel
theorem d_X10_brightOf_61 : decode M_X10_brightOf.2.1 61 = .ok (.iconst 0, 1) := by decide +kernel
theorem d_X10_brightOf_62 : decode M_X10_brightOf.2.1 62 = .ok (.iaload, 1) := by decide +kernel
theorem d_X10_brightOf_63 : decode M_X10_brightOf.2.1 63 = .ok (.iastore, 1) := by decide +kernel
theorem d_X10_brightOf_64 : decode M_X10_brightOf.2.1 64 = .ok (.aload_n 0, 1) := by decide +kernel
theorem d_X10_brightOf_65 : decode M_X10_brightOf.2.1 65 = .ok (.getfield 75, 3) := by decide +kernel
theorem d_X10_brightOf_68 : decode M_X10_brightOf.2.1 68 = .ok (.iload 4, 2) := by decide +kernel
theorem d_X10_brightOf_70 : decode M_X10_brightOf.2.1 70 = .ok (.iaload, 1) := by decide +kernel
theorem d_X10_brightOf_71 : decode M_X10_brightOf.2.1 71 = .ok (.ireturn, 1) := by decide +kernel
theorem ce_X10_brightOf : zw_CeV M_X10_brightOf 3 := ⟨⟨⟨by decide +kernel, by decide +kernel, by decide +kernel⟩, (zw_mG (List.mem_of_getElem? (i := 1097) (by decide +kernel)) rfl), (zw_mG (List.mem_of_getElem? (i := 96) (by decide +kernel)) rfl), by decide, by decide +kernel⟩, (zw_mG (List.mem_of_getElem? (i := 1096) (by decide +kernel)) rfl), (zw_mG (List.mem_of_getElem? (i := 44) (by decide +kernel)) rfl)⟩
def j_X10_brightOf_64 (v0 : Nat) (v4 : Int32) (I : zI) (R : zR) : Option (Int32 × zI) :=
  zw_g (zw_gc v0 10) (zw_g (zw_gc (R v0 12) 13) (zw_g (zw_in v4 (zw_SH (R v0 12)).2) (some ((I (R v0 12) (Int32.toNatClampNeg v4)), I))))
theorem j_X10_brightOf_64_ok (X : zw_X) (P : Option Value → aS → Prop) (v0 : Nat) (v4 : Int32) (I : zI) (R : zR) (J : zJ) (o : Int32 × zI) (hf : j_X10_brightOf_64 v0 v4 I R = some o) (hk : P (some (.int o.1)) (o.2, R, J)) : zy_V X M_X10_brightOf 4 P 64 [.ref v0, .null, .null, .null, .int v4] [] (I, R, J) := by
  unfold j_X10_brightOf_64 at hf
  refine zv_aload_n (pc := 64) d_X10_brightOf_64 rfl ?_
  obtain ⟨g6, hf⟩ := zw_gcE hf (by decide)
  obtain ⟨g7, hf⟩ := zw_gcE hf (by decide)
  refine zx_getR (pc := 65) d_X10_brightOf_65 lk_CutStones_75 (by decide) g6 g7 ?_
  refine zv_iload (pc := 68) d_X10_brightOf_68 rfl ?_
  obtain ⟨i8, hf⟩ := zw_inE hf
  refine zx_iald (pc := 70) d_X10_brightOf_70 g7 i8 ?_
  cases hf
  exact zx_iret (pc := 71) d_X10_brightOf_71 rfl hk
def f_X10_brightOf (v0 : Nat) (v1 : Int32) (v2 : Int32) (v3 : Int32) (I : zI) (R : zR) : Option (Int32 × zI) :=
  zw_let (((((v1 * 4) + v2) * 4) + v3) : Int32) fun x1 => (zw_g (zw_gc v0 10) (zw_g (zw_gc (R v0 12) 13) (zw_g (zw_in x1 (zw_SH (R v0 12)).2) (if ¬ (I (R v0 12) (Int32.toNatClampNeg x1)) = (-1) then j_X10_brightOf_64 v0 x1 I R else zw_g (zw_gc (R v0 7) 6) (zw_g (zw_gc (R v0 2) 1) (zw_g (zw_gc (R (R v0 2) 2) 16) (zw_g (zw_in v1 (zw_SH (R (R v0 2) 2)).2) (zw_g (zw_gc (R (R (R v0 2) 2) (Int32.toNatClampNeg v1)) 0) (zw_g (zw_gc (R (R v0 2) 0) 18) (zw_g (zw_in v2 (zw_SH (R (R v0 2) 0)).2) (zw_g (zw_gc (R (R (R v0 2) 0) (Int32.toNatClampNeg v2)) 7) ((f_X6_lightUp (R v0 7) (R (R (R v0 2) 2) (Int32.toNatClampNeg v1)) (R (R (R v0 2) 0) (Int32.toNatClampNeg v2)) v3 I R).bind fun q17 => (zw_g (zw_gc (R (R v0 7) 0) 13) (zw_g (zw_in 0 (zw_SH (R (R v0 7) 0)).2) (zw_g (zw_in x1 (zw_SH (R v0 12)).2) (zw_let (zw_u q17 (R v0 12) (Int32.toNatClampNeg x1) (q17 (R (R v0 7) 0) (Int32.toNatClampNeg 0)) : zI) fun I21 => (j_X10_brightOf_64 v0 x1 I21 R)))))))))))))))))
theorem c_X10_brightOf (X : zw_X) (v0 : Nat) (v1 : Int32) (v2 : Int32) (v3 : Int32) (I : zI) (R : zR) (J : zJ) {P : Option Value → aS → Prop} (o : Int32 × zI) (hf : f_X10_brightOf v0 v1 v2 v3 I R = some o) (hk : P (some (.int o.1)) (o.2, R, J)) : zw_C X M_X10_brightOf 4 0 0 199 [.ref v0, .int v1, .int v2, .int v3] (I, R, J) P := by
  show zy_V X M_X10_brightOf 4 P 0 [.ref v0, .int v1, .int v2, .int v3, .null] [] (I, R, J)
  unfold f_X10_brightOf at hf
  refine zv_iload_n (pc := 0) d_X10_brightOf_0 rfl ?_
  refine zv_iconst (pc := 1) d_X10_brightOf_1 zc_i_4 ?_
  refine zv_imul (pc := 2) d_X10_brightOf_2 ?_
  refine zv_iload_n (pc := 3) d_X10_brightOf_3 rfl ?_
  refine zv_iadd (pc := 4) d_X10_brightOf_4 ?_
  refine zv_iconst (pc := 5) d_X10_brightOf_5 zc_i_4 ?_
  refine zv_imul (pc := 6) d_X10_brightOf_6 ?_
  refine zv_iload_n (pc := 7) d_X10_brightOf_7 rfl ?_
  refine zv_iadd (pc := 8) d_X10_brightOf_8 ?_
  obtain ⟨x1, ex1, hf⟩ := zw_letE hf
  refine zx_istore (pc := 9) (x2 := x1) (L2 := [.ref v0, .int v1, .int v2, .int v3, .int x1]) d_X10_brightOf_9 (by decide) ex1 rfl ?_
  refine zv_aload_n (pc := 11) d_X10_brightOf_11 rfl ?_
  obtain ⟨g2, hf⟩ := zw_gcE hf (by decide)
  obtain ⟨g3, hf⟩ := zw_gcE hf (by decide)
  refine zx_getR (pc := 12) d_X10_brightOf_12 lk_CutStones_75 (by decide) g2 g3 ?_
  refine zv_iload (pc := 15) d_X10_brightOf_15 rfl ?_
  obtain ⟨i4, hf⟩ := zw_inE hf
  refine zx_iald (pc := 17) d_X10_brightOf_17 g3 i4 ?_
  refine zv_iconst (pc := 18) d_X10_brightOf_18 zc_i_m1 ?_
  rcases zw_ifE hf with ⟨c5, hf⟩ | ⟨c5, hf⟩
  · refine zv_icmp_ne (pc := 19) (tg := 64) d_X10_brightOf_19 (by decide) (fun _ => ?_) (fun q => absurd q c5)
    exact zx_weak (zw_leS (zw_leN (zw_leN (zw_leN (zw_leS zw_leZ))))) (j_X10_brightOf_64_ok X P v0 x1 I R J _ hf hk)
  · refine zv_icmp_ne (pc := 19) (tg := 64) d_X10_brightOf_19 (by decide) (fun q => absurd q c5) (fun _ => ?_)
    refine zv_aload_n (pc := 22) d_X10_brightOf_22 rfl ?_
    obtain ⟨g9, hf⟩ := zw_gcE hf (by decide)
    refine zx_getR (pc := 23) d_X10_brightOf_23 lk_CutStones_51 (by decide) g2 g9 ?_
    refine zv_aload_n (pc := 26) d_X10_brightOf_26 rfl ?_
    obtain ⟨g10, hf⟩ := zw_gcE hf (by decide)
    refine zx_getR (pc := 27) d_X10_brightOf_27 lk_CutStones_26 (by decide) g2 g10 ?_
    obtain ⟨g11, hf⟩ := zw_gcE hf (by decide)
    refine zx_getR (pc := 30) d_X10_brightOf_30 lk_CutStones_141 (by decide) g10 g11 ?_
    refine zv_iload_n (pc := 33) d_X10_brightOf_33 rfl ?_
    obtain ⟨i12, hf⟩ := zw_inE hf
    obtain ⟨g13, hf⟩ := zw_gcE hf (by decide)
    refine zx_aald (pc := 34) d_X10_brightOf_34 g11 (by decide) i12 g13 ?_
    refine zv_aload_n (pc := 35) d_X10_brightOf_35 rfl ?_
    refine zx_getR (pc := 36) d_X10_brightOf_36 lk_CutStones_26 (by decide) g2 g10 ?_
    obtain ⟨g14, hf⟩ := zw_gcE hf (by decide)
    refine zx_getR (pc := 39) d_X10_brightOf_39 lk_CutStones_159 (by decide) g10 g14 ?_
    refine zv_iload_n (pc := 42) d_X10_brightOf_42 rfl ?_
    obtain ⟨i15, hf⟩ := zw_inE hf
    obtain ⟨g16, hf⟩ := zw_gcE hf (by decide)
    refine zx_aald (pc := 43) d_X10_brightOf_43 g14 (by decide) i15 g16 ?_
    refine zv_iload_n (pc := 44) d_X10_brightOf_44 rfl ?_
    obtain ⟨q17, hq17, hf⟩ := zw_bdE hf
    refine zx_callV (pc := 45) (As := [.ref (R (R (R v0 2) 2) (Int32.toNatClampNeg v1)), .ref (R (R (R v0 2) 0) (Int32.toNatClampNeg v2)), .int v3]) (o := (R v0 7)) (st := []) (d2 := 3) (M2 := M_X6_lightUp) (P2 := (fun r S => r = none ∧ S = (q17, R, J))) d_X10_brightOf_45 (zw_mG (List.mem_of_getElem? (i := 941) (by decide +kernel)) rfl) ce_X6_lightUp (zw_RvK g9 rfl rfl) (Nat.le_of_ble_eq_true rfl) rfl (Nat.le_of_ble_eq_true rfl) (by decide) (c_X6_lightUp X (R v0 7) (R (R (R v0 2) 2) (Int32.toNatClampNeg v1)) (R (R (R v0 2) 0) (Int32.toNatClampNeg v2)) v3 I R J _ hq17 ⟨rfl, rfl⟩) ?_
    rintro _ _ ⟨rfl, rfl⟩
    show zy_V X M_X10_brightOf 4 P (45 + 3) [.ref v0, .int v1, .int v2, .int v3, .int x1] [] (q17, R, J)
    refine zv_aload_n (pc := 48) d_X10_brightOf_48 rfl ?_
    refine zx_getR (pc := 49) d_X10_brightOf_49 lk_CutStones_75 (by decide) g2 g3 ?_
    refine zv_iload (pc := 52) d_X10_brightOf_52 rfl ?_
    refine zv_aload_n (pc := 54) d_X10_brightOf_54 rfl ?_
    refine zx_getR (pc := 55) d_X10_brightOf_55 lk_CutStones_51 (by decide) g2 g9 ?_
    obtain ⟨g18, hf⟩ := zw_gcE hf (by decide)
    refine zx_getR (pc := 58) d_X10_brightOf_58 lk_CutStones_191 (by decide) g9 g18 ?_
    refine zv_iconst (pc := 61) d_X10_brightOf_61 zc_i_0 ?_
    obtain ⟨i19, hf⟩ := zw_inE hf
    refine zx_iald (pc := 62) d_X10_brightOf_62 g18 i19 ?_
    obtain ⟨i20, hf⟩ := zw_inE hf
    obtain ⟨I21, eI21, hf⟩ := zw_letE hf
    refine zx_iast (pc := 63) (I2 := I21) d_X10_brightOf_63 g3 i20 eI21 ?_
    exact zx_weak (zw_leS (zw_leN (zw_leN (zw_leN (zw_leS zw_leZ))))) (j_X10_brightOf_64_ok X P v0 x1 I21 R J _ hf hk)
abbrev M_X10_shine : zw_M := (⟨"CutStones", "shine", "(IIIIIIII)I"⟩, prog_1_method_12_code, 9, (Option.some Jvm.ClassFile.FieldType.int))
theorem d_X10_shine_0 : decode M_X10_shine.2.1 0 = .ok (.aload_n 0, 1) := by decide +kernel
theorem d_X10_shine_1 : decode M_X10_shine.2.1 1 = .ok (.iload_n 1, 1) := by decide +kernel
theorem d_X10_shine_2 : decode M_X10_shine.2.1 2 = .ok (.invokevirtual 137, 3) := by decide +kernel
theorem d_X10_shine_5 : decode M_X10_shine.2.1 5 = .ok (.ifCond .eq 18, 3) := by decide +kernel
theorem d_X10_shine_8 : decode M_X10_shine.2.1 8 = .ok (.aload_n 0, 1) := by decide +kernel
theorem d_X10_shine_9 : decode M_X10_shine.2.1 9 = .ok (.iload_n 2, 1) := by decide +kernel
theorem d_X10_shine_10 : decode M_X10_shine.2.1 10 = .ok (.invokevirtual 149, 3) := by decide +kernel
theorem d_X10_shine_13 : decode M_X10_shine.2.1 13 = .ok (.ifCond .eq 10, 3) := by decide +kernel
theorem d_X10_shine_16 : decode M_X10_shine.2.1 16 = .ok (.iload_n 3, 1) := by decide +kernel
theorem d_X10_shine_17 : decode M_X10_shine.2.1 17 = .ok (.invokestatic 152, 3) := by decide +kernel
theorem d_X10_shine_20 : decode M_X10_shine.2.1 20 = .ok (.ifCond .ne 5, 3) := by decide +kernel
theorem d_X10_shine_23 : decode M_X10_shine.2.1 23 = .ok (.iconst (-1), 1) := by decide +kernel
theorem d_X10_shine_24 : decode M_X10_shine.2.1 24 = .ok (.ireturn, 1) := by decide +kernel
theorem d_X10_shine_25 : decode M_X10_shine.2.1 25 = .ok (.iload 4, 2) := by decide +kernel
theorem d_X10_shine_27 : decode M_X10_shine.2.1 27 = .ok (.invokestatic 180, 3) := by decide +kernel
theorem d_X10_shine_30 : decode M_X10_shine.2.1 30 = .ok (.ifCond .eq 19, 3) := by decide +kernel
theorem d_X10_shine_33 : decode M_X10_shine.2.1 33 = .ok (.iload 5, 2) := by decide +kernel
theorem d_X10_shine_35 : decode M_X10_shine.2.1 35 = .ok (.invokestatic 180, 3) := by decide +kernel
theorem d_X10_shine_38 : decode M_X10_shine.2.1 38 = .ok (.ifCond .eq 11, 3) := by decide +kernel
theorem d_X10_shine_41 : decode M_X10_shine.2.1 41 = .ok (.iload 6, 2) := by decide +kernel
theorem d_X10_shine_43 : decode M_X10_shine.2.1 43 = .ok (.invokestatic 180, 3) := by decide +kernel
theorem d_X10_shine_46 : decode M_X10_shine.2.1 46 = .ok (.ifCond .ne 5, 3) := by decide +kernel
theorem d_X10_shine_49 : decode M_X10_shine.2.1 49 = .ok (.iconst (-1), 1) := by decide +kernel
theorem d_X10_shine_50 : decode M_X10_shine.2.1 50 = .ok (.ireturn, 1) := by decide +kernel
theorem d_X10_shine_51 : decode M_X10_shine.2.1 51 = .ok (.aload_n 0, 1) := by decide +kernel
theorem d_X10_shine_52 : decode M_X10_shine.2.1 52 = .ok (.getfield 44, 3) := by decide +kernel
theorem d_X10_shine_55 : decode M_X10_shine.2.1 55 = .ok (.iload 4, 2) := by decide +kernel
theorem d_X10_shine_57 : decode M_X10_shine.2.1 57 = .ok (.iload 5, 2) := by decide +kernel
theorem d_X10_shine_59 : decode M_X10_shine.2.1 59 = .ok (.iload 6, 2) := by decide +kernel
theorem d_X10_shine_61 : decode M_X10_shine.2.1 61 = .ok (.invokevirtual 78, 3) := by decide +kernel
theorem d_X10_shine_64 : decode M_X10_shine.2.1 64 = .ok (.aload_n 0, 1) := by decide +kernel
theorem d_X10_shine_65 : decode M_X10_shine.2.1 65 = .ok (.getfield 44, 3) := by decide +kernel
theorem d_X10_shine_68 : decode M_X10_shine.2.1 68 = .ok (.iload 7, 2) := by decide +kernel
theorem d_X10_shine_70 : decode M_X10_shine.2.1 70 = .ok (.iload 8, 2) := by decide +kernel
theorem d_X10_shine_72 : decode M_X10_shine.2.1 72 = .ok (.invokevirtual 183, 3) := by decide +kernel
theorem d_X10_shine_75 : decode M_X10_shine.2.1 75 = .ok (.aload_n 0, 1) := by decide +kernel
theorem d_X10_shine_76 : decode M_X10_shine.2.1 76 = .ok (.getfield 44, 3) := by decide +kernel
theorem d_X10_shine_79 : decode M_X10_shine.2.1 79 = .ok (.aload_n 0, 1) := by decide +kernel
theorem d_X10_shine_80 : decode M_X10_shine.2.1 80 = .ok (.getfield 26, 3) := by decide +kernel
theorem d_X10_shine_83 : decode M_X10_shine.2.1 83 = .ok (.getfield 141, 3) := by decide +kernel
theorem d_X10_shine_86 : decode M_X10_shine.2.1 86 = .ok (.iload_n 1, 1) := by decide +kernel
theorem d_X10_shine_87 : decode M_X10_shine.2.1 87 = .ok (.aaload, 1) := by decide +kernel
theorem d_X10_shine_88 : decode M_X10_shine.2.1 88 = .ok (.aload_n 0, 1) := by decide +kernel
theorem d_X10_shine_89 : decode M_X10_shine.2.1 89 = .ok (.getfield 26, 3) := by decide +kernel
theorem d_X10_shine_92 : decode M_X10_shine.2.1 92 = .ok (.getfield 159, 3) := by decide +kernel
theorem d_X10_shine_95 : decode M_X10_shine.2.1 95 = .ok (.iload_n 2, 1) := by decide +kernel
theorem d_X10_shine_96 : decode M_X10_shine.2.1 96 = .ok (.aaload, 1) := by decide +kernel
theorem d_X10_shine_97 : decode M_X10_shine.2.1 97 = .ok (.iload_n 3, 1) := by decide +kernel
theorem d_X10_shine_98 : decode M_X10_shine.2.1 98 = .ok (.invokevirtual 187, 3) := by decide +kernel
theorem d_X10_shine_101 : decode M_X10_shine.2.1 101 = .ok (.aload_n 0, 1) := by decide +kernel
theorem d_X10_shine_102 : decode M_X10_shine.2.1 102 = .ok (.iconst 1, 1) := by decide +kernel
theorem d_X10_shine_103 : decode M_X10_shine.2.1 103 = .ok (.putfield 48, 3) := by decide +kernel
theorem d_X10_shine_106 : decode M_X10_shine.2.1 106 = .ok (.aload_n 0, 1) := by decide +kernel
theorem d_X10_shine_107 : decode M_X10_shine.2.1 107 = .ok (.getfield 44, 3) := by decide +kernel
theorem d_X10_shine_110 : decode M_X10_shine.2.1 110 = .ok (.getfield 191, 3) := by decide +kernel
theorem d_X10_shine_113 : decode M_X10_shine.2.1 113 = .ok (.iconst 0, 1) := by decide +kernel
theorem d_X10_shine_114 : decode M_X10_shine.2.1 114 = .ok (.iaload, 1) := by decide +kernel
theorem d_X10_shine_115 : decode M_X10_shine.2.1 115 = .ok (.ireturn, 1) := by decide +kernel
theorem ce_X10_shine : zw_CeV M_X10_shine 8 := ⟨⟨⟨by decide +kernel, by decide +kernel, by decide +kernel⟩, (zw_mG (List.mem_of_getElem? (i := 933) (by decide +kernel)) rfl), (zw_mG (List.mem_of_getElem? (i := 96) (by decide +kernel)) rfl), by decide, by decide +kernel⟩, (zw_mG (List.mem_of_getElem? (i := 931) (by decide +kernel)) rfl), (zw_mG (List.mem_of_getElem? (i := 932) (by decide +kernel)) rfl)⟩
def f_X10_shine (v0 : Nat) (v1 : Int32) (v2 : Int32) (v3 : Int32) (v4 : Int32) (v5 : Int32) (v6 : Int32) (v7 : Int32) (v8 : Int32) (I : zI) (R : zR) : Option (Int32 × zI) :=
  zw_g (zw_gc v0 10) ((f_X10_isCut v0 v1 I R).bind fun q2 => (if q2 = 0 then some ((-1), I) else (f_X10_isStuff v0 v2 I R).bind fun q4 => (if q4 = 0 then some ((-1), I) else (f_X10_isColour v3).bind fun q6 => (if ¬ q6 = 0 then (f_X10_isLamp v4).bind fun q8 => (if q8 = 0 then some ((-1), I) else (f_X10_isLamp v5).bind fun q10 => (if q10 = 0 then some ((-1), I) else (f_X10_isLamp v6).bind fun q12 => (if ¬ q12 = 0 then zw_g (zw_gc (R v0 5) 6) ((f_X6_setLamps (R v0 5) v4 v5 v6 I).bind fun q15 => ((f_X6_setHead (R v0 5) v7 v8 q15).bind fun q16 => (zw_g (zw_gc (R v0 2) 1) (zw_g (zw_gc (R (R v0 2) 2) 16) (zw_g (zw_in v1 (zw_SH (R (R v0 2) 2)).2) (zw_g (zw_gc (R (R (R v0 2) 2) (Int32.toNatClampNeg v1)) 0) (zw_g (zw_gc (R (R v0 2) 0) 18) (zw_g (zw_in v2 (zw_SH (R (R v0 2) 0)).2) (zw_g (zw_gc (R (R (R v0 2) 0) (Int32.toNatClampNeg v2)) 7) ((f_X6_lightUp (R v0 5) (R (R (R v0 2) 2) (Int32.toNatClampNeg v1)) (R (R (R v0 2) 0) (Int32.toNatClampNeg v2)) v3 q16 R).bind fun q24 => (zw_let (zw_u q24 v0 6 1 : zI) fun I25 => (zw_g (zw_gc (R (R v0 5) 0) 13) (zw_g (zw_in 0 (zw_SH (R (R v0 5) 0)).2) (some ((I25 (R (R v0 5) 0) (Int32.toNatClampNeg 0)), I25))))))))))))))) else some ((-1), I)))) else some ((-1), I)))))
theorem c_X10_shine (X : zw_X) (v0 : Nat) (v1 : Int32) (v2 : Int32) (v3 : Int32) (v4 : Int32) (v5 : Int32) (v6 : Int32) (v7 : Int32) (v8 : Int32) (I : zI) (R : zR) (J : zJ) {P : Option Value → aS → Prop} (o : Int32 × zI) (hf : f_X10_shine v0 v1 v2 v3 v4 v5 v6 v7 v8 I R = some o) (hk : P (some (.int o.1)) (o.2, R, J)) : zw_C X M_X10_shine 4 0 0 199 [.ref v0, .int v1, .int v2, .int v3, .int v4, .int v5, .int v6, .int v7, .int v8] (I, R, J) P := by
  show zy_V X M_X10_shine 4 P 0 [.ref v0, .int v1, .int v2, .int v3, .int v4, .int v5, .int v6, .int v7, .int v8] [] (I, R, J)
  unfold f_X10_shine at hf
  refine zv_aload_n (pc := 0) d_X10_shine_0 rfl ?_
  refine zv_iload_n (pc := 1) d_X10_shine_1 rfl ?_
  obtain ⟨g1, hf⟩ := zw_gcE hf (by decide)
  obtain ⟨q2, hq2, hf⟩ := zw_bdE hf
  refine zx_callV (pc := 2) (As := [.int v1]) (o := v0) (st := []) (d2 := 0) (M2 := M_X10_isCut) (P2 := (fun r S => r = (some (.int q2)) ∧ S = (I, R, J))) d_X10_shine_2 (zw_mG (List.mem_of_getElem? (i := 849) (by decide +kernel)) rfl) ce_X10_isCut (zw_RvK g1 rfl rfl) (Nat.le_of_ble_eq_true rfl) rfl (Nat.le_of_ble_eq_true rfl) (by decide) (c_X10_isCut X v0 v1 I R J _ hq2 ⟨rfl, rfl⟩) ?_
  rintro _ _ ⟨rfl, rfl⟩
  show zy_V X M_X10_shine 4 P (2 + 3) [.ref v0, .int v1, .int v2, .int v3, .int v4, .int v5, .int v6, .int v7, .int v8] [.int q2] (I, R, J)
  rcases zw_ifE hf with ⟨c3, hf⟩ | ⟨c3, hf⟩
  · refine zv_if_eq (pc := 5) (tg := 23) d_X10_shine_5 (by decide) (fun _ => ?_) (fun q => absurd c3 q)
    refine zv_iconst (pc := 23) d_X10_shine_23 zc_i_m1 ?_
    cases hf
    exact zx_iret (pc := 24) d_X10_shine_24 rfl hk
  · refine zv_if_eq (pc := 5) (tg := 23) d_X10_shine_5 (by decide) (fun q => absurd q c3) (fun _ => ?_)
    refine zv_aload_n (pc := 8) d_X10_shine_8 rfl ?_
    refine zv_iload_n (pc := 9) d_X10_shine_9 rfl ?_
    obtain ⟨q4, hq4, hf⟩ := zw_bdE hf
    refine zx_callV (pc := 10) (As := [.int v2]) (o := v0) (st := []) (d2 := 0) (M2 := M_X10_isStuff) (P2 := (fun r S => r = (some (.int q4)) ∧ S = (I, R, J))) d_X10_shine_10 (zw_mG (List.mem_of_getElem? (i := 880) (by decide +kernel)) rfl) ce_X10_isStuff (zw_RvK g1 rfl rfl) (Nat.le_of_ble_eq_true rfl) rfl (Nat.le_of_ble_eq_true rfl) (by decide) (c_X10_isStuff X v0 v2 I R J _ hq4 ⟨rfl, rfl⟩) ?_
    rintro _ _ ⟨rfl, rfl⟩
    show zy_V X M_X10_shine 4 P (10 + 3) [.ref v0, .int v1, .int v2, .int v3, .int v4, .int v5, .int v6, .int v7, .int v8] [.int q4] (I, R, J)
    rcases zw_ifE hf with ⟨c5, hf⟩ | ⟨c5, hf⟩
    · refine zv_if_eq (pc := 13) (tg := 23) d_X10_shine_13 (by decide) (fun _ => ?_) (fun q => absurd c5 q)
      refine zv_iconst (pc := 23) d_X10_shine_23 zc_i_m1 ?_
      cases hf
      exact zx_iret (pc := 24) d_X10_shine_24 rfl hk
    · refine zv_if_eq (pc := 13) (tg := 23) d_X10_shine_13 (by decide) (fun q => absurd q c5) (fun _ => ?_)
      refine zv_iload_n (pc := 16) d_X10_shine_16 rfl ?_
      obtain ⟨q6, hq6, hf⟩ := zw_bdE hf
      refine zx_callS (pc := 17) (As := [.int v3]) (st := []) (d2 := 0) (M2 := M_X10_isColour) (P2 := (fun r S => r = (some (.int q6)) ∧ S = (I, R, J))) d_X10_shine_17 (zw_mG (List.mem_of_getElem? (i := 884) (by decide +kernel)) rfl) ce_X10_isColour (Nat.le_of_ble_eq_true rfl) rfl (Nat.le_of_ble_eq_true rfl) (by decide) (c_X10_isColour X v3 I R J _ hq6 ⟨rfl, rfl⟩) ?_
      rintro _ _ ⟨rfl, rfl⟩
      show zy_V X M_X10_shine 4 P (17 + 3) [.ref v0, .int v1, .int v2, .int v3, .int v4, .int v5, .int v6, .int v7, .int v8] [.int q6] (I, R, J)
      rcases zw_ifE hf with ⟨c7, hf⟩ | ⟨c7, hf⟩
      · refine zv_if_ne (pc := 20) (tg := 25) d_X10_shine_20 (by decide) (fun _ => ?_) (fun q => absurd q c7)
        refine zv_iload (pc := 25) d_X10_shine_25 rfl ?_
        obtain ⟨q8, hq8, hf⟩ := zw_bdE hf
        refine zx_callS (pc := 27) (As := [.int v4]) (st := []) (d2 := 0) (M2 := M_X10_isLamp) (P2 := (fun r S => r = (some (.int q8)) ∧ S = (I, R, J))) d_X10_shine_27 (zw_mG (List.mem_of_getElem? (i := 934) (by decide +kernel)) rfl) ce_X10_isLamp (Nat.le_of_ble_eq_true rfl) rfl (Nat.le_of_ble_eq_true rfl) (by decide) (c_X10_isLamp X v4 I R J _ hq8 ⟨rfl, rfl⟩) ?_
        rintro _ _ ⟨rfl, rfl⟩
        show zy_V X M_X10_shine 4 P (27 + 3) [.ref v0, .int v1, .int v2, .int v3, .int v4, .int v5, .int v6, .int v7, .int v8] [.int q8] (I, R, J)
        rcases zw_ifE hf with ⟨c9, hf⟩ | ⟨c9, hf⟩
        · refine zv_if_eq (pc := 30) (tg := 49) d_X10_shine_30 (by decide) (fun _ => ?_) (fun q => absurd c9 q)
          refine zv_iconst (pc := 49) d_X10_shine_49 zc_i_m1 ?_
          cases hf
          exact zx_iret (pc := 50) d_X10_shine_50 rfl hk
        · refine zv_if_eq (pc := 30) (tg := 49) d_X10_shine_30 (by decide) (fun q => absurd q c9) (fun _ => ?_)
          refine zv_iload (pc := 33) d_X10_shine_33 rfl ?_
          obtain ⟨q10, hq10, hf⟩ := zw_bdE hf
          refine zx_callS (pc := 35) (As := [.int v5]) (st := []) (d2 := 0) (M2 := M_X10_isLamp) (P2 := (fun r S => r = (some (.int q10)) ∧ S = (I, R, J))) d_X10_shine_35 (zw_mG (List.mem_of_getElem? (i := 934) (by decide +kernel)) rfl) ce_X10_isLamp (Nat.le_of_ble_eq_true rfl) rfl (Nat.le_of_ble_eq_true rfl) (by decide) (c_X10_isLamp X v5 I R J _ hq10 ⟨rfl, rfl⟩) ?_
          rintro _ _ ⟨rfl, rfl⟩
          show zy_V X M_X10_shine 4 P (35 + 3) [.ref v0, .int v1, .int v2, .int v3, .int v4, .int v5, .int v6, .int v7, .int v8] [.int q10] (I, R, J)
          rcases zw_ifE hf with ⟨c11, hf⟩ | ⟨c11, hf⟩
          · refine zv_if_eq (pc := 38) (tg := 49) d_X10_shine_38 (by decide) (fun _ => ?_) (fun q => absurd c11 q)
            refine zv_iconst (pc := 49) d_X10_shine_49 zc_i_m1 ?_
            cases hf
            exact zx_iret (pc := 50) d_X10_shine_50 rfl hk
          · refine zv_if_eq (pc := 38) (tg := 49) d_X10_shine_38 (by decide) (fun q => absurd q c11) (fun _ => ?_)
            refine zv_iload (pc := 41) d_X10_shine_41 rfl ?_
            obtain ⟨q12, hq12, hf⟩ := zw_bdE hf
            refine zx_callS (pc := 43) (As := [.int v6]) (st := []) (d2 := 0) (M2 := M_X10_isLamp) (P2 := (fun r S => r = (some (.int q12)) ∧ S = (I, R, J))) d_X10_shine_43 (zw_mG (List.mem_of_getElem? (i := 934) (by decide +kernel)) rfl) ce_X10_isLamp (Nat.le_of_ble_eq_true rfl) rfl (Nat.le_of_ble_eq_true rfl) (by decide) (c_X10_isLamp X v6 I R J _ hq12 ⟨rfl, rfl⟩) ?_
            rintro _ _ ⟨rfl, rfl⟩
            show zy_V X M_X10_shine 4 P (43 + 3) [.ref v0, .int v1, .int v2, .int v3, .int v4, .int v5, .int v6, .int v7, .int v8] [.int q12] (I, R, J)
            rcases zw_ifE hf with ⟨c13, hf⟩ | ⟨c13, hf⟩
            · refine zv_if_ne (pc := 46) (tg := 51) d_X10_shine_46 (by decide) (fun _ => ?_) (fun q => absurd q c13)
              refine zv_aload_n (pc := 51) d_X10_shine_51 rfl ?_
              obtain ⟨g14, hf⟩ := zw_gcE hf (by decide)
              refine zx_getR (pc := 52) d_X10_shine_52 lk_CutStones_44 (by decide) g1 g14 ?_
              refine zv_iload (pc := 55) d_X10_shine_55 rfl ?_
              refine zv_iload (pc := 57) d_X10_shine_57 rfl ?_
              refine zv_iload (pc := 59) d_X10_shine_59 rfl ?_
              obtain ⟨q15, hq15, hf⟩ := zw_bdE hf
              refine zx_callV (pc := 61) (As := [.int v4, .int v5, .int v6]) (o := (R v0 5)) (st := []) (d2 := 0) (M2 := M_X6_setLamps) (P2 := (fun r S => r = none ∧ S = (q15, R, J))) d_X10_shine_61 (zw_mG (List.mem_of_getElem? (i := 474) (by decide +kernel)) rfl) ce_X6_setLamps (zw_RvK g14 rfl rfl) (Nat.le_of_ble_eq_true rfl) rfl (Nat.le_of_ble_eq_true rfl) (by decide) (c_X6_setLamps X (R v0 5) v4 v5 v6 I R J _ hq15 ⟨rfl, rfl⟩) ?_
              rintro _ _ ⟨rfl, rfl⟩
              show zy_V X M_X10_shine 4 P (61 + 3) [.ref v0, .int v1, .int v2, .int v3, .int v4, .int v5, .int v6, .int v7, .int v8] [] (q15, R, J)
              refine zv_aload_n (pc := 64) d_X10_shine_64 rfl ?_
              refine zx_getR (pc := 65) d_X10_shine_65 lk_CutStones_44 (by decide) g1 g14 ?_
              refine zv_iload (pc := 68) d_X10_shine_68 rfl ?_
              refine zv_iload (pc := 70) d_X10_shine_70 rfl ?_
              obtain ⟨q16, hq16, hf⟩ := zw_bdE hf
              refine zx_callV (pc := 72) (As := [.int v7, .int v8]) (o := (R v0 5)) (st := []) (d2 := 0) (M2 := M_X6_setHead) (P2 := (fun r S => r = none ∧ S = (q16, R, J))) d_X10_shine_72 (zw_mG (List.mem_of_getElem? (i := 937) (by decide +kernel)) rfl) ce_X6_setHead (zw_RvK g14 rfl rfl) (Nat.le_of_ble_eq_true rfl) rfl (Nat.le_of_ble_eq_true rfl) (by decide) (c_X6_setHead X (R v0 5) v7 v8 q15 R J _ hq16 ⟨rfl, rfl⟩) ?_
              rintro _ _ ⟨rfl, rfl⟩
              show zy_V X M_X10_shine 4 P (72 + 3) [.ref v0, .int v1, .int v2, .int v3, .int v4, .int v5, .int v6, .int v7, .int v8] [] (q16, R, J)
              refine zv_aload_n (pc := 75) d_X10_shine_75 rfl ?_
              refine zx_getR (pc := 76) d_X10_shine_76 lk_CutStones_44 (by decide) g1 g14 ?_
              refine zv_aload_n (pc := 79) d_X10_shine_79 rfl ?_
              obtain ⟨g17, hf⟩ := zw_gcE hf (by decide)
              refine zx_getR (pc := 80) d_X10_shine_80 lk_CutStones_26 (by decide) g1 g17 ?_
              obtain ⟨g18, hf⟩ := zw_gcE hf (by decide)
              refine zx_getR (pc := 83) d_X10_shine_83 lk_CutStones_141 (by decide) g17 g18 ?_
              refine zv_iload_n (pc := 86) d_X10_shine_86 rfl ?_
              obtain ⟨i19, hf⟩ := zw_inE hf
              obtain ⟨g20, hf⟩ := zw_gcE hf (by decide)
              refine zx_aald (pc := 87) d_X10_shine_87 g18 (by decide) i19 g20 ?_
              refine zv_aload_n (pc := 88) d_X10_shine_88 rfl ?_
              refine zx_getR (pc := 89) d_X10_shine_89 lk_CutStones_26 (by decide) g1 g17 ?_
              obtain ⟨g21, hf⟩ := zw_gcE hf (by decide)
              refine zx_getR (pc := 92) d_X10_shine_92 lk_CutStones_159 (by decide) g17 g21 ?_
              refine zv_iload_n (pc := 95) d_X10_shine_95 rfl ?_
              obtain ⟨i22, hf⟩ := zw_inE hf
              obtain ⟨g23, hf⟩ := zw_gcE hf (by decide)
              refine zx_aald (pc := 96) d_X10_shine_96 g21 (by decide) i22 g23 ?_
              refine zv_iload_n (pc := 97) d_X10_shine_97 rfl ?_
              obtain ⟨q24, hq24, hf⟩ := zw_bdE hf
              refine zx_callV (pc := 98) (As := [.ref (R (R (R v0 2) 2) (Int32.toNatClampNeg v1)), .ref (R (R (R v0 2) 0) (Int32.toNatClampNeg v2)), .int v3]) (o := (R v0 5)) (st := []) (d2 := 3) (M2 := M_X6_lightUp) (P2 := (fun r S => r = none ∧ S = (q24, R, J))) d_X10_shine_98 (zw_mG (List.mem_of_getElem? (i := 941) (by decide +kernel)) rfl) ce_X6_lightUp (zw_RvK g14 rfl rfl) (Nat.le_of_ble_eq_true rfl) rfl (Nat.le_of_ble_eq_true rfl) (by decide) (c_X6_lightUp X (R v0 5) (R (R (R v0 2) 2) (Int32.toNatClampNeg v1)) (R (R (R v0 2) 0) (Int32.toNatClampNeg v2)) v3 q16 R J _ hq24 ⟨rfl, rfl⟩) ?_
              rintro _ _ ⟨rfl, rfl⟩
              show zy_V X M_X10_shine 4 P (98 + 3) [.ref v0, .int v1, .int v2, .int v3, .int v4, .int v5, .int v6, .int v7, .int v8] [] (q24, R, J)
              refine zv_aload_n (pc := 101) d_X10_shine_101 rfl ?_
              refine zv_iconst (pc := 102) d_X10_shine_102 zc_i_1 ?_
              obtain ⟨I25, eI25, hf⟩ := zw_letE hf
              refine zx_putZ (pc := 103) (I2 := I25) d_X10_shine_103 lk_CutStones_48 rfl (Or.inr rfl) g1 eI25 ?_
              refine zv_aload_n (pc := 106) d_X10_shine_106 rfl ?_
              refine zx_getR (pc := 107) d_X10_shine_107 lk_CutStones_44 (by decide) g1 g14 ?_
              obtain ⟨g26, hf⟩ := zw_gcE hf (by decide)
              refine zx_getR (pc := 110) d_X10_shine_110 lk_CutStones_191 (by decide) g14 g26 ?_
              refine zv_iconst (pc := 113) d_X10_shine_113 zc_i_0 ?_
              obtain ⟨i27, hf⟩ := zw_inE hf
              refine zx_iald (pc := 114) d_X10_shine_114 g26 i27 ?_
              cases hf
              exact zx_iret (pc := 115) d_X10_shine_115 rfl hk
            · refine zv_if_ne (pc := 46) (tg := 51) d_X10_shine_46 (by decide) (fun q => absurd q c13) (fun _ => ?_)
              refine zv_iconst (pc := 49) d_X10_shine_49 zc_i_m1 ?_
              cases hf
              exact zx_iret (pc := 50) d_X10_shine_50 rfl hk
      · refine zv_if_ne (pc := 20) (tg := 25) d_X10_shine_20 (by decide) (fun q => absurd q c7) (fun _ => ?_)
        refine zv_iconst (pc := 23) d_X10_shine_23 zc_i_m1 ?_
        cases hf
        exact zx_iret (pc := 24) d_X10_shine_24 rfl hk
abbrev M_X11_literal : zw_M := (⟨"CutStonesModel", "literal", "(Z)V"⟩, prog_13_method_28_code, 6, (Option.none : Option Jvm.ClassFile.FieldType))
theorem d_X11_literal_0 : decode M_X11_literal.2.1 0 = .ok (.iconst 0, 1) := by decide +kernel
theorem d_X11_literal_1 : decode M_X11_literal.2.1 1 = .ok (.istore_n 2, 1) := by decide +kernel
theorem d_X11_literal_2 : decode M_X11_literal.2.1 2 = .ok (.aload_n 0, 1) := by decide +kernel
theorem d_X11_literal_3 : decode M_X11_literal.2.1 3 = .ok (.bipush 29, 2) := by decide +kernel
theorem d_X11_literal_5 : decode M_X11_literal.2.1 5 = .ok (.invokevirtual 236, 3) := by decide +kernel
theorem d_X11_literal_8 : decode M_X11_literal.2.1 8 = .ok (.ifCond .eq 20, 3) := by decide +kernel
theorem d_X11_literal_11 : decode M_X11_literal.2.1 11 = .ok (.iload_n 2, 1) := by decide +kernel
theorem d_X11_literal_12 : decode M_X11_literal.2.1 12 = .ok (.ifCond .ne 7, 3) := by decide +kernel
theorem d_X11_literal_15 : decode M_X11_literal.2.1 15 = .ok (.iconst 1, 1) := by decide +kernel
theorem d_X11_literal_16 : decode M_X11_literal.2.1 16 = .ok (.goto 4, 3) := by decide +kernel
theorem d_X11_literal_19 : decode M_X11_literal.2.1 19 = .ok (.iconst 0, 1) := by decide +kernel
theorem d_X11_literal_20 : decode M_X11_literal.2.1 20 = .ok (.istore_n 2, 1) := by decide +kernel
theorem d_X11_literal_21 : decode M_X11_literal.2.1 21 = .ok (.aload_n 0, 1) := by decide +kernel
theorem d_X11_literal_22 : decode M_X11_literal.2.1 22 = .ok (.invokevirtual 239, 3) := by decide +kernel
theorem d_X11_literal_25 : decode M_X11_literal.2.1 25 = .ok (.goto (-23), 3) := by decide +kernel
theorem d_X11_literal_28 : decode M_X11_literal.2.1 28 = .ok (.aload_n 0, 1) := by decide +kernel
theorem d_X11_literal_29 : decode M_X11_literal.2.1 29 = .ok (.getfield 257, 3) := by decide +kernel
theorem d_X11_literal_32 : decode M_X11_literal.2.1 32 = .ok (.istore_n 3, 1) := by decide +kernel
theorem d_X11_literal_33 : decode M_X11_literal.2.1 33 = .ok (.aload_n 0, 1) := by decide +kernel
theorem d_X11_literal_34 : decode M_X11_literal.2.1 34 = .ok (.invokevirtual 299, 3) := by decide +kernel
theorem d_X11_literal_37 : decode M_X11_literal.2.1 37 = .ok (.aload_n 0, 1) := by decide +kernel
theorem d_X11_literal_38 : decode M_X11_literal.2.1 38 = .ok (.getfield 218, 3) := by decide +kernel
theorem d_X11_literal_41 : decode M_X11_literal.2.1 41 = .ok (.ifCond .le 7, 3) := by decide +kernel
theorem d_X11_literal_44 : decode M_X11_literal.2.1 44 = .ok (.iconst 0, 1) := by decide +kernel
theorem d_X11_literal_45 : decode M_X11_literal.2.1 45 = .ok (.goto 15, 3) := by decide +kernel
theorem d_X11_literal_48 : decode M_X11_literal.2.1 48 = .ok (.aload_n 0, 1) := by decide +kernel
theorem d_X11_literal_49 : decode M_X11_literal.2.1 49 = .ok (.getfield 20, 3) := by decide +kernel
theorem d_X11_literal_52 : decode M_X11_literal.2.1 52 = .ok (.aload_n 0, 1) := by decide +kernel
theorem d_X11_literal_53 : decode M_X11_literal.2.1 53 = .ok (.getfield 221, 3) := by decide +kernel
theorem d_X11_literal_56 : decode M_X11_literal.2.1 56 = .ok (.iaload, 1) := by decide +kernel
theorem d_X11_literal_57 : decode M_X11_literal.2.1 57 = .ok (.bipush 11, 2) := by decide +kernel
theorem d_X11_literal_59 : decode M_X11_literal.2.1 59 = .ok (.isub, 1) := by decide +kernel
theorem d_X11_literal_60 : decode M_X11_literal.2.1 60 = .ok (.istore 4, 2) := by decide +kernel
theorem d_X11_literal_62 : decode M_X11_literal.2.1 62 = .ok (.aload_n 0, 1) := by decide +kernel
theorem d_X11_literal_63 : decode M_X11_literal.2.1 63 = .ok (.getfield 218, 3) := by decide +kernel
theorem d_X11_literal_66 : decode M_X11_literal.2.1 66 = .ok (.ifCond .ne 19, 3) := by decide +kernel
theorem d_X11_literal_69 : decode M_X11_literal.2.1 69 = .ok (.iload 4, 2) := by decide +kernel
theorem d_X11_literal_71 : decode M_X11_literal.2.1 71 = .ok (.ifCond .lt 9, 3) := by decide +kernel
theorem d_X11_literal_74 : decode M_X11_literal.2.1 74 = .ok (.iload 4, 2) := by decide +kernel
theorem d_X11_literal_76 : decode M_X11_literal.2.1 76 = .ok (.iconst 3, 1) := by decide +kernel
theorem d_X11_literal_77 : decode M_X11_literal.2.1 77 = .ok (.if_icmp .le 8, 3) := by decide +kernel
theorem d_X11_literal_80 : decode M_X11_literal.2.1 80 = .ok (.aload_n 0, 1) := by decide +kernel
theorem d_X11_literal_81 : decode M_X11_literal.2.1 81 = .ok (.iconst 1, 1) := by decide +kernel
theorem d_X11_literal_82 : decode M_X11_literal.2.1 82 = .ok (.invokevirtual 233, 3) := by decide +kernel
theorem d_X11_literal_85 : decode M_X11_literal.2.1 85 = .ok (.aload_n 0, 1) := by decide +kernel
theorem d_X11_literal_86 : decode M_X11_literal.2.1 86 = .ok (.invokevirtual 239, 3) := by decide +kernel
theorem d_X11_literal_89 : decode M_X11_literal.2.1 89 = .ok (.aload_n 0, 1) := by decide +kernel
theorem d_X11_literal_90 : decode M_X11_literal.2.1 90 = .ok (.getfield 257, 3) := by decide +kernel
theorem d_X11_literal_93 : decode M_X11_literal.2.1 93 = .ok (.istore 5, 2) := by decide +kernel
theorem d_X11_literal_95 : decode M_X11_literal.2.1 95 = .ok (.aload_n 0, 1) := by decide +kernel
theorem d_X11_literal_96 : decode M_X11_literal.2.1 96 = .ok (.invokevirtual 299, 3) := by decide +kernel
theorem d_X11_literal_99 : decode M_X11_literal.2.1 99 = .ok (.aload_n 0, 1) := by decide +kernel
theorem d_X11_literal_100 : decode M_X11_literal.2.1 100 = .ok (.getfield 218, 3) := by decide +kernel
theorem d_X11_literal_103 : decode M_X11_literal.2.1 103 = .ok (.ifCond .le 4, 3) := by decide +kernel
theorem d_X11_literal_106 : decode M_X11_literal.2.1 106 = .ok (.return_, 1) := by decide +kernel
theorem d_X11_literal_107 : decode M_X11_literal.2.1 107 = .ok (.aload_n 0, 1) := by decide +kernel
theorem d_X11_literal_108 : decode M_X11_literal.2.1 108 = .ok (.getfield 91, 3) := by decide +kernel
theorem d_X11_literal_111 : decode M_X11_literal.2.1 111 = .ok (.aload_n 0, 1) := by decide +kernel
theorem d_X11_literal_112 : decode M_X11_literal.2.1 112 = .ok (.getfield 254, 3) := by decide +kernel
theorem d_X11_literal_115 : decode M_X11_literal.2.1 115 = .ok (.iload 4, 2) := by decide +kernel
theorem d_X11_literal_117 : decode M_X11_literal.2.1 117 = .ok (.iastore, 1) := by decide +kernel
theorem d_X11_literal_118 : decode M_X11_literal.2.1 118 = .ok (.aload_n 0, 1) := by decide +kernel
theorem d_X11_literal_119 : decode M_X11_literal.2.1 119 = .ok (.getfield 94, 3) := by decide +kernel
theorem d_X11_literal_122 : decode M_X11_literal.2.1 122 = .ok (.aload_n 0, 1) := by decide +kernel
theorem d_X11_literal_123 : decode M_X11_literal.2.1 123 = .ok (.getfield 254, 3) := by decide +kernel
theorem d_X11_literal_126 : decode M_X11_literal.2.1 126 = .ok (.iload_n 2, 1) := by decide +kernel
theorem d_X11_literal_127 : decode M_X11_literal.2.1 127 = .ok (.bastore, 1) := by decide +kernel
theorem d_X11_literal_128 : decode M_X11_literal.2.1 128 = .ok (.aload_n 0, 1) := by decide +kernel
theorem d_X11_literal_129 : decode M_X11_literal.2.1 129 = .ok (.getfield 98, 3) := by decide +kernel
theorem d_X11_literal_132 : decode M_X11_literal.2.1 132 = .ok (.aload_n 0, 1) := by decide +kernel
theorem d_X11_literal_133 : decode M_X11_literal.2.1 133 = .ok (.getfield 254, 3) := by decide +kernel
theorem d_X11_literal_136 : decode M_X11_literal.2.1 136 = .ok (.iload_n 1, 1) := by decide +kernel
theorem d_X11_literal_137 : decode M_X11_literal.2.1 137 = .ok (.bastore, 1) := by decide +kernel
theorem d_X11_literal_138 : decode M_X11_literal.2.1 138 = .ok (.aload_n 0, 1) := by decide +kernel
theorem d_X11_literal_139 : decode M_X11_literal.2.1 139 = .ok (.getfield 101, 3) := by decide +kernel
theorem d_X11_literal_142 : decode M_X11_literal.2.1 142 = .ok (.aload_n 0, 1) := by decide +kernel
theorem d_X11_literal_143 : decode M_X11_literal.2.1 143 = .ok (.getfield 254, 3) := by decide +kernel
theorem d_X11_literal_146 : decode M_X11_literal.2.1 146 = .ok (.iload_n 3, 1) := by decide +kernel
theorem d_X11_literal_147 : decode M_X11_literal.2.1 147 = .ok (.iastore, 1) := by decide +kernel
theorem d_X11_literal_148 : decode M_X11_literal.2.1 148 = .ok (.aload_n 0, 1) := by decide +kernel
theorem d_X11_literal_149 : decode M_X11_literal.2.1 149 = .ok (.getfield 104, 3) := by decide +kernel
theorem d_X11_literal_152 : decode M_X11_literal.2.1 152 = .ok (.aload_n 0, 1) := by decide +kernel
theorem d_X11_literal_153 : decode M_X11_literal.2.1 153 = .ok (.getfield 254, 3) := by decide +kernel
theorem d_X11_literal_156 : decode M_X11_literal.2.1 156 = .ok (.iload 5, 2) := by decide +kernel
theorem d_X11_literal_158 : decode M_X11_literal.2.1 158 = .ok (.iastore, 1) := by decide +kernel
theorem d_X11_literal_159 : decode M_X11_literal.2.1 159 = .ok (.aload_n 0, 1) := by decide +kernel
theorem d_X11_literal_160 : decode M_X11_literal.2.1 160 = .ok (.getfield 107, 3) := by decide +kernel
theorem d_X11_literal_163 : decode M_X11_literal.2.1 163 = .ok (.aload_n 0, 1) := by decide +kernel
theorem d_X11_literal_164 : decode M_X11_literal.2.1 164 = .ok (.getfield 254, 3) := by decide +kernel
theorem d_X11_literal_167 : decode M_X11_literal.2.1 167 = .ok (.aload_n 0, 1) := by decide +kernel
theorem d_X11_literal_168 : decode M_X11_literal.2.1 168 = .ok (.getfield 257, 3) := by decide +kernel
theorem d_X11_literal_171 : decode M_X11_literal.2.1 171 = .ok (.iastore, 1) := by decide +kernel
theorem d_X11_literal_172 : decode M_X11_literal.2.1 172 = .ok (.aload_n 0, 1) := by decide +kernel
theorem d_X11_literal_173 : decode M_X11_literal.2.1 173 = .ok (.dup, 1) := by decide +kernel
theorem d_X11_literal_174 : decode M_X11_literal.2.1 174 = .ok (.getfield 254, 3) := by decide +kernel
theorem d_X11_literal_177 : decode M_X11_literal.2.1 177 = .ok (.iconst 1, 1) := by decide +kernel
theorem d_X11_literal_178 : decode M_X11_literal.2.1 178 = .ok (.iadd, 1) := by decide +kernel
theorem d_X11_literal_179 : decode M_X11_literal.2.1 179 = .ok (.putfield 254, 3) := by decide +kernel
theorem d_X11_literal_182 : decode M_X11_literal.2.1 182 = .ok (.return_, 1) := by decide +kernel
theorem ce_X11_literal : zw_CeV M_X11_literal 1 := ⟨⟨⟨by decide +kernel, by decide +kernel, by decide +kernel⟩, (zw_mG (List.mem_of_getElem? (i := 1505) (by decide +kernel)) rfl), (zw_mG (List.mem_of_getElem? (i := 108) (by decide +kernel)) rfl), by decide, by decide +kernel⟩, (zw_mG (List.mem_of_getElem? (i := 1504) (by decide +kernel)) rfl), (zw_mG (List.mem_of_getElem? (i := 69) (by decide +kernel)) rfl)⟩
def j_X11_literal_20_2 (v0 : Nat) (v1 : Int32) (s0 : Int32) (I : zI) (R : zR) : Option ((Int32 × zI) ⊕ (Int32 × zI)) :=
  zw_g (zw_gc v0 11) ((f_X11_goesOn v0 I R).bind fun q6 => (some (.inl (s0, q6))))
theorem j_X11_literal_20_2_ok (X : zw_X) (P : Option Value → aS → Prop) (v0 : Nat) (v1 : Int32) (s0 : Int32) (I : zI) (R : zR) (J : zJ) (o : (Int32 × zI) ⊕ (Int32 × zI)) (hf : j_X11_literal_20_2 v0 v1 s0 I R = some o) (hk : (zw_se (fun t => zy_V X M_X11_literal 4 P 2 [.ref v0, .int v1, .int t.1, .null, .null, .null] [] (t.2, R, J)) (fun r => zy_V X M_X11_literal 4 P 28 [.ref v0, .int v1, .int r.1, .null, .null, .null] [] (r.2, R, J)) o)) : zy_V X M_X11_literal 4 P 20 [.ref v0, .int v1, .null, .null, .null, .null] [.int s0] (I, R, J) := by
  unfold j_X11_literal_20_2 at hf
  refine zx_istore_n (pc := 20) (x2 := s0) (L2 := [.ref v0, .int v1, .int s0, .null, .null, .null]) d_X11_literal_20 (by decide) rfl rfl ?_
  refine zv_aload_n (pc := 21) d_X11_literal_21 rfl ?_
  obtain ⟨g5, hf⟩ := zw_gcE hf (by decide)
  obtain ⟨q6, hq6, hf⟩ := zw_bdE hf
  refine zx_callV (pc := 22) (As := []) (o := v0) (st := []) (d2 := 1) (M2 := M_X11_goesOn) (P2 := (fun r S => r = none ∧ S = (q6, R, J))) d_X11_literal_22 (zw_mG (List.mem_of_getElem? (i := 1458) (by decide +kernel)) rfl) ce_X11_goesOn (zw_RvK g5 rfl rfl) (Nat.le_of_ble_eq_true rfl) rfl (Nat.le_of_ble_eq_true rfl) (by decide) (c_X11_goesOn X v0 I R J _ hq6 ⟨rfl, rfl⟩) ?_
  rintro _ _ ⟨rfl, rfl⟩
  show zy_V X M_X11_literal 4 P (22 + 3) [.ref v0, .int v1, .int s0, .null, .null, .null] [] (q6, R, J)
  refine zv_goto (pc := 25) (tg := 2) d_X11_literal_25 (by decide) ?_
  cases hf
  exact zx_weak (zw_leS (zw_leS (zw_leS (zw_leN (zw_leN (zw_leN zw_leZ)))))) hk
def s_X11_literal_2 (v0 : Nat) (v1 : Int32) (R : zR) (s : Int32 × zI) : Option ((Int32 × zI) ⊕ (Int32 × zI)) :=
  zw_g (zw_gc v0 11) ((f_X11_is v0 29 s.2 R).bind fun q2 => (if q2 = 0 then some (.inr (s.1, s.2)) else if ¬ s.1 = 0 then j_X11_literal_20_2 v0 v1 0 s.2 R else j_X11_literal_20_2 v0 v1 1 s.2 R))
theorem s_X11_literal_2_ok (X : zw_X) (P : Option Value → aS → Prop) (v0 : Nat) (v1 : Int32) (R : zR) (J : zJ) (s : Int32 × zI) (o : (Int32 × zI) ⊕ (Int32 × zI)) (hf : s_X11_literal_2 v0 v1 R s = some o) (hk : (zw_se (fun t => zy_V X M_X11_literal 4 P 2 [.ref v0, .int v1, .int t.1, .null, .null, .null] [] (t.2, R, J)) (fun r => zy_V X M_X11_literal 4 P 28 [.ref v0, .int v1, .int r.1, .null, .null, .null] [] (r.2, R, J)) o)) : zy_V X M_X11_literal 4 P 2 [.ref v0, .int v1, .int s.1, .null, .null, .null] [] (s.2, R, J) := by
  unfold s_X11_literal_2 at hf
  refine zv_aload_n (pc := 2) d_X11_literal_2 rfl ?_
  refine zv_bipush (pc := 3) d_X11_literal_3 zc_b_29 ?_
  obtain ⟨g1, hf⟩ := zw_gcE hf (by decide)
  obtain ⟨q2, hq2, hf⟩ := zw_bdE hf
  refine zx_callV (pc := 5) (As := [.int 29]) (o := v0) (st := []) (d2 := 0) (M2 := M_X11_is) (P2 := (fun r S => r = (some (.int q2)) ∧ S = (s.2, R, J))) d_X11_literal_5 (zw_mG (List.mem_of_getElem? (i := 1442) (by decide +kernel)) rfl) ce_X11_is (zw_RvK g1 rfl rfl) (Nat.le_of_ble_eq_true rfl) rfl (Nat.le_of_ble_eq_true rfl) (by decide) (c_X11_is X v0 29 s.2 R J _ hq2 ⟨rfl, rfl⟩) ?_
  rintro _ _ ⟨rfl, rfl⟩
  show zy_V X M_X11_literal 4 P (5 + 3) [.ref v0, .int v1, .int s.1, .null, .null, .null] [.int q2] (s.2, R, J)
  rcases zw_ifE hf with ⟨c3, hf⟩ | ⟨c3, hf⟩
  · refine zv_if_eq (pc := 8) (tg := 28) d_X11_literal_8 (by decide) (fun _ => ?_) (fun q => absurd c3 q)
    cases hf
    exact zx_weak (zw_leS (zw_leS (zw_leS (zw_leN (zw_leN (zw_leN zw_leZ)))))) hk
  · refine zv_if_eq (pc := 8) (tg := 28) d_X11_literal_8 (by decide) (fun q => absurd q c3) (fun _ => ?_)
    refine zv_iload_n (pc := 11) d_X11_literal_11 rfl ?_
    rcases zw_ifE hf with ⟨c4, hf⟩ | ⟨c4, hf⟩
    · refine zv_if_ne (pc := 12) (tg := 19) d_X11_literal_12 (by decide) (fun _ => ?_) (fun q => absurd q c4)
      refine zv_iconst (pc := 19) d_X11_literal_19 zc_i_0 ?_
      exact zx_weak (zw_leS (zw_leS (zw_leN (zw_leN (zw_leN (zw_leN zw_leZ)))))) (j_X11_literal_20_2_ok X P v0 v1 0 s.2 R J _ hf hk)
    · refine zv_if_ne (pc := 12) (tg := 19) d_X11_literal_12 (by decide) (fun q => absurd q c4) (fun _ => ?_)
      refine zv_iconst (pc := 15) d_X11_literal_15 zc_i_1 ?_
      refine zv_goto (pc := 16) (tg := 20) d_X11_literal_16 (by decide) ?_
      exact zx_weak (zw_leS (zw_leS (zw_leN (zw_leN (zw_leN (zw_leN zw_leZ)))))) (j_X11_literal_20_2_ok X P v0 v1 1 s.2 R J _ hf hk)
theorem s_X11_literal_2_lp (X : zw_X) (P : Option Value → aS → Prop) (v0 : Nat) (v1 : Int32) (R : zR) (J : zJ) (n : Nat) (s : Int32 × zI) (r : Int32 × zI) (h : zw_it (s_X11_literal_2 v0 v1 R) n s = some r) (hq : zy_V X M_X11_literal 4 P 28 [.ref v0, .int v1, .int r.1, .null, .null, .null] [] (r.2, R, J)) : zy_V X M_X11_literal 4 P 2 [.ref v0, .int v1, .int s.1, .null, .null, .null] [] (s.2, R, J) :=
  zw_itE (A := (fun t : Int32 × zI => zy_V X M_X11_literal 4 P 2 [.ref v0, .int v1, .int t.1, .null, .null, .null] [] (t.2, R, J))) (Q := (fun r : Int32 × zI => zy_V X M_X11_literal 4 P 28 [.ref v0, .int v1, .int r.1, .null, .null, .null] [] (r.2, R, J))) (fun s o h1 h2 => s_X11_literal_2_ok X P v0 v1 R J s o h1 h2) n s r h hq
def j_X11_literal_85 (v0 : Nat) (v1 : Int32) (v2 : Int32) (v3 : Int32) (v4 : Int32) (I : zI) (R : zR) : Option (zI) :=
  zw_g (zw_gc v0 11) ((f_X11_goesOn v0 I R).bind fun q17 => (zw_let ((q17 v0 44) : Int32) fun x18 => ((f_X11_expression v0 q17 R).bind fun q19 => (if (q19 v0 13) ≤ 0 then zw_g (zw_gc (R v0 38) 13) (zw_g (zw_in (q19 v0 37) (zw_SH (R v0 38)).2) (zw_let (zw_u q19 (R v0 38) (Int32.toNatClampNeg (q19 v0 37)) v4 : zI) fun I23 => (zw_g (zw_gc (R v0 39) 15) (zw_g (zw_in (I23 v0 37) (zw_SH (R v0 39)).2) (zw_g (zw_b v2) (zw_let (zw_u I23 (R v0 39) (Int32.toNatClampNeg (I23 v0 37)) v2 : zI) fun I27 => (zw_g (zw_gc (R v0 40) 15) (zw_g (zw_in (I27 v0 37) (zw_SH (R v0 40)).2) (zw_g (zw_b v1) (zw_let (zw_u I27 (R v0 40) (Int32.toNatClampNeg (I27 v0 37)) v1 : zI) fun I31 => (zw_g (zw_gc (R v0 41) 13) (zw_g (zw_in (I31 v0 37) (zw_SH (R v0 41)).2) (zw_let (zw_u I31 (R v0 41) (Int32.toNatClampNeg (I31 v0 37)) v3 : zI) fun I34 => (zw_g (zw_gc (R v0 42) 13) (zw_g (zw_in (I34 v0 37) (zw_SH (R v0 42)).2) (zw_let (zw_u I34 (R v0 42) (Int32.toNatClampNeg (I34 v0 37)) x18 : zI) fun I37 => (zw_g (zw_gc (R v0 43) 13) (zw_g (zw_in (I37 v0 37) (zw_SH (R v0 43)).2) (zw_let (zw_u I37 (R v0 43) (Int32.toNatClampNeg (I37 v0 37)) (I37 v0 44) : zI) fun I40 => (zw_let (zw_u I40 v0 37 ((I40 v0 37) + 1) : zI) fun I41 => (some I41))))))))))))))))))))) else some q19))))
theorem j_X11_literal_85_ok (X : zw_X) (P : Option Value → aS → Prop) (v0 : Nat) (v1 : Int32) (v2 : Int32) (v3 : Int32) (v4 : Int32) (I : zI) (R : zR) (J : zJ) (o : zI) (hf : j_X11_literal_85 v0 v1 v2 v3 v4 I R = some o) (hk : P none (o, R, J)) : zy_V X M_X11_literal 4 P 85 [.ref v0, .int v1, .int v2, .int v3, .int v4, .null] [] (I, R, J) := by
  unfold j_X11_literal_85 at hf
  refine zv_aload_n (pc := 85) d_X11_literal_85 rfl ?_
  obtain ⟨g16, hf⟩ := zw_gcE hf (by decide)
  obtain ⟨q17, hq17, hf⟩ := zw_bdE hf
  refine zx_callV (pc := 86) (As := []) (o := v0) (st := []) (d2 := 1) (M2 := M_X11_goesOn) (P2 := (fun r S => r = none ∧ S = (q17, R, J))) d_X11_literal_86 (zw_mG (List.mem_of_getElem? (i := 1458) (by decide +kernel)) rfl) ce_X11_goesOn (zw_RvK g16 rfl rfl) (Nat.le_of_ble_eq_true rfl) rfl (Nat.le_of_ble_eq_true rfl) (by decide) (c_X11_goesOn X v0 I R J _ hq17 ⟨rfl, rfl⟩) ?_
  rintro _ _ ⟨rfl, rfl⟩
  show zy_V X M_X11_literal 4 P (86 + 3) [.ref v0, .int v1, .int v2, .int v3, .int v4, .null] [] (q17, R, J)
  refine zv_aload_n (pc := 89) d_X11_literal_89 rfl ?_
  refine zx_getI (pc := 90) d_X11_literal_90 lk_CutStonesModel_257 (by decide) g16 ?_
  obtain ⟨x18, ex18, hf⟩ := zw_letE hf
  refine zx_istore (pc := 93) (x2 := x18) (L2 := [.ref v0, .int v1, .int v2, .int v3, .int v4, .int x18]) d_X11_literal_93 (by decide) ex18 rfl ?_
  refine zv_aload_n (pc := 95) d_X11_literal_95 rfl ?_
  obtain ⟨q19, hq19, hf⟩ := zw_bdE hf
  refine zx_callV (pc := 96) (As := []) (o := v0) (st := []) (d2 := 3) (M2 := M_X11_expression) (P2 := (fun r S => r = none ∧ S = (q19, R, J))) d_X11_literal_96 (zw_mG (List.mem_of_getElem? (i := 1486) (by decide +kernel)) rfl) ce_X11_expression (zw_RvK g16 rfl rfl) (Nat.le_of_ble_eq_true rfl) rfl (Nat.le_of_ble_eq_true rfl) (by decide) (c_X11_expression X v0 q17 R J _ hq19 ⟨rfl, rfl⟩) ?_
  rintro _ _ ⟨rfl, rfl⟩
  show zy_V X M_X11_literal 4 P (96 + 3) [.ref v0, .int v1, .int v2, .int v3, .int v4, .int x18] [] (q19, R, J)
  refine zv_aload_n (pc := 99) d_X11_literal_99 rfl ?_
  refine zx_getI (pc := 100) d_X11_literal_100 lk_CutStonesModel_218 (by decide) g16 ?_
  rcases zw_ifE hf with ⟨c20, hf⟩ | ⟨c20, hf⟩
  · refine zv_if_le (pc := 103) (tg := 107) d_X11_literal_103 (by decide) (fun _ => ?_) (fun q => absurd c20 q)
    refine zv_aload_n (pc := 107) d_X11_literal_107 rfl ?_
    obtain ⟨g21, hf⟩ := zw_gcE hf (by decide)
    refine zx_getR (pc := 108) d_X11_literal_108 lk_CutStonesModel_91 (by decide) g16 g21 ?_
    refine zv_aload_n (pc := 111) d_X11_literal_111 rfl ?_
    refine zx_getI (pc := 112) d_X11_literal_112 lk_CutStonesModel_254 (by decide) g16 ?_
    refine zv_iload (pc := 115) d_X11_literal_115 rfl ?_
    obtain ⟨i22, hf⟩ := zw_inE hf
    obtain ⟨I23, eI23, hf⟩ := zw_letE hf
    refine zx_iast (pc := 117) (I2 := I23) d_X11_literal_117 g21 i22 eI23 ?_
    refine zv_aload_n (pc := 118) d_X11_literal_118 rfl ?_
    obtain ⟨g24, hf⟩ := zw_gcE hf (by decide)
    refine zx_getR (pc := 119) d_X11_literal_119 lk_CutStonesModel_94 (by decide) g16 g24 ?_
    refine zv_aload_n (pc := 122) d_X11_literal_122 rfl ?_
    refine zx_getI (pc := 123) d_X11_literal_123 lk_CutStonesModel_254 (by decide) g16 ?_
    refine zv_iload_n (pc := 126) d_X11_literal_126 rfl ?_
    obtain ⟨i25, hf⟩ := zw_inE hf
    obtain ⟨b26, hf⟩ := zw_bE hf
    obtain ⟨I27, eI27, hf⟩ := zw_letE hf
    refine zx_zast (pc := 127) (I2 := I27) d_X11_literal_127 g24 i25 b26 eI27 ?_
    refine zv_aload_n (pc := 128) d_X11_literal_128 rfl ?_
    obtain ⟨g28, hf⟩ := zw_gcE hf (by decide)
    refine zx_getR (pc := 129) d_X11_literal_129 lk_CutStonesModel_98 (by decide) g16 g28 ?_
    refine zv_aload_n (pc := 132) d_X11_literal_132 rfl ?_
    refine zx_getI (pc := 133) d_X11_literal_133 lk_CutStonesModel_254 (by decide) g16 ?_
    refine zv_iload_n (pc := 136) d_X11_literal_136 rfl ?_
    obtain ⟨i29, hf⟩ := zw_inE hf
    obtain ⟨b30, hf⟩ := zw_bE hf
    obtain ⟨I31, eI31, hf⟩ := zw_letE hf
    refine zx_zast (pc := 137) (I2 := I31) d_X11_literal_137 g28 i29 b30 eI31 ?_
    refine zv_aload_n (pc := 138) d_X11_literal_138 rfl ?_
    obtain ⟨g32, hf⟩ := zw_gcE hf (by decide)
    refine zx_getR (pc := 139) d_X11_literal_139 lk_CutStonesModel_101 (by decide) g16 g32 ?_
    refine zv_aload_n (pc := 142) d_X11_literal_142 rfl ?_
    refine zx_getI (pc := 143) d_X11_literal_143 lk_CutStonesModel_254 (by decide) g16 ?_
    refine zv_iload_n (pc := 146) d_X11_literal_146 rfl ?_
    obtain ⟨i33, hf⟩ := zw_inE hf
    obtain ⟨I34, eI34, hf⟩ := zw_letE hf
    refine zx_iast (pc := 147) (I2 := I34) d_X11_literal_147 g32 i33 eI34 ?_
    refine zv_aload_n (pc := 148) d_X11_literal_148 rfl ?_
    obtain ⟨g35, hf⟩ := zw_gcE hf (by decide)
    refine zx_getR (pc := 149) d_X11_literal_149 lk_CutStonesModel_104 (by decide) g16 g35 ?_
    refine zv_aload_n (pc := 152) d_X11_literal_152 rfl ?_
    refine zx_getI (pc := 153) d_X11_literal_153 lk_CutStonesModel_254 (by decide) g16 ?_
    refine zv_iload (pc := 156) d_X11_literal_156 rfl ?_
    obtain ⟨i36, hf⟩ := zw_inE hf
    obtain ⟨I37, eI37, hf⟩ := zw_letE hf
    refine zx_iast (pc := 158) (I2 := I37) d_X11_literal_158 g35 i36 eI37 ?_
    refine zv_aload_n (pc := 159) d_X11_literal_159 rfl ?_
    obtain ⟨g38, hf⟩ := zw_gcE hf (by decide)
    refine zx_getR (pc := 160) d_X11_literal_160 lk_CutStonesModel_107 (by decide) g16 g38 ?_
    refine zv_aload_n (pc := 163) d_X11_literal_163 rfl ?_
    refine zx_getI (pc := 164) d_X11_literal_164 lk_CutStonesModel_254 (by decide) g16 ?_
    refine zv_aload_n (pc := 167) d_X11_literal_167 rfl ?_
    refine zx_getI (pc := 168) d_X11_literal_168 lk_CutStonesModel_257 (by decide) g16 ?_
    obtain ⟨i39, hf⟩ := zw_inE hf
    obtain ⟨I40, eI40, hf⟩ := zw_letE hf
    refine zx_iast (pc := 171) (I2 := I40) d_X11_literal_171 g38 i39 eI40 ?_
    refine zv_aload_n (pc := 172) d_X11_literal_172 rfl ?_
    refine zv_dup (pc := 173) d_X11_literal_173 rfl ?_
    refine zx_getI (pc := 174) d_X11_literal_174 lk_CutStonesModel_254 (by decide) g16 ?_
    refine zv_iconst (pc := 177) d_X11_literal_177 zc_i_1 ?_
    refine zv_iadd (pc := 178) d_X11_literal_178 ?_
    obtain ⟨I41, eI41, hf⟩ := zw_letE hf
    refine zx_putI (pc := 179) (I2 := I41) d_X11_literal_179 lk_CutStonesModel_254 rfl g16 eI41 ?_
    cases hf
    exact zx_vret (pc := 182) d_X11_literal_182 rfl hk
  · refine zv_if_le (pc := 103) (tg := 107) d_X11_literal_103 (by decide) (fun q => absurd q c20) (fun _ => ?_)
    cases hf
    exact zx_vret (pc := 106) d_X11_literal_106 rfl hk
def j_X11_literal_80 (v0 : Nat) (v1 : Int32) (v2 : Int32) (v3 : Int32) (v4 : Int32) (I : zI) (R : zR) : Option (zI) :=
  zw_g (zw_gc v0 11) ((f_X11_fail v0 1 I R).bind fun q44 => (j_X11_literal_85 v0 v1 v2 v3 v4 q44 R))
theorem j_X11_literal_80_ok (X : zw_X) (P : Option Value → aS → Prop) (v0 : Nat) (v1 : Int32) (v2 : Int32) (v3 : Int32) (v4 : Int32) (I : zI) (R : zR) (J : zJ) (o : zI) (hf : j_X11_literal_80 v0 v1 v2 v3 v4 I R = some o) (hk : P none (o, R, J)) : zy_V X M_X11_literal 4 P 80 [.ref v0, .int v1, .int v2, .int v3, .int v4, .null] [] (I, R, J) := by
  unfold j_X11_literal_80 at hf
  refine zv_aload_n (pc := 80) d_X11_literal_80 rfl ?_
  refine zv_iconst (pc := 81) d_X11_literal_81 zc_i_1 ?_
  obtain ⟨g43, hf⟩ := zw_gcE hf (by decide)
  obtain ⟨q44, hq44, hf⟩ := zw_bdE hf
  refine zx_callV (pc := 82) (As := [.int 1]) (o := v0) (st := []) (d2 := 0) (M2 := M_X11_fail) (P2 := (fun r S => r = none ∧ S = (q44, R, J))) d_X11_literal_82 (zw_mG (List.mem_of_getElem? (i := 1450) (by decide +kernel)) rfl) ce_X11_fail (zw_RvK g43 rfl rfl) (Nat.le_of_ble_eq_true rfl) rfl (Nat.le_of_ble_eq_true rfl) (by decide) (c_X11_fail X v0 1 I R J _ hq44 ⟨rfl, rfl⟩) ?_
  rintro _ _ ⟨rfl, rfl⟩
  show zy_V X M_X11_literal 4 P (82 + 3) [.ref v0, .int v1, .int v2, .int v3, .int v4, .null] [] (q44, R, J)
  exact zx_weak (zw_leS (zw_leS (zw_leS (zw_leS (zw_leS (zw_leN zw_leZ)))))) (j_X11_literal_85_ok X P v0 v1 v2 v3 v4 q44 R J _ hf hk)
def j_X11_literal_60 (v0 : Nat) (v1 : Int32) (v2 : Int32) (v3 : Int32) (s0 : Int32) (I : zI) (R : zR) : Option (zI) :=
  zw_g (zw_gc v0 11) (if ¬ (I v0 13) = 0 then j_X11_literal_85 v0 v1 v2 v3 s0 I R else if s0 < 0 then j_X11_literal_80 v0 v1 v2 v3 s0 I R else if s0 ≤ 3 then j_X11_literal_85 v0 v1 v2 v3 s0 I R else j_X11_literal_80 v0 v1 v2 v3 s0 I R)
theorem j_X11_literal_60_ok (X : zw_X) (P : Option Value → aS → Prop) (v0 : Nat) (v1 : Int32) (v2 : Int32) (v3 : Int32) (s0 : Int32) (I : zI) (R : zR) (J : zJ) (o : zI) (hf : j_X11_literal_60 v0 v1 v2 v3 s0 I R = some o) (hk : P none (o, R, J)) : zy_V X M_X11_literal 4 P 60 [.ref v0, .int v1, .int v2, .int v3, .null, .null] [.int s0] (I, R, J) := by
  unfold j_X11_literal_60 at hf
  refine zx_istore (pc := 60) (x2 := s0) (L2 := [.ref v0, .int v1, .int v2, .int v3, .int s0, .null]) d_X11_literal_60 (by decide) rfl rfl ?_
  refine zv_aload_n (pc := 62) d_X11_literal_62 rfl ?_
  obtain ⟨g14, hf⟩ := zw_gcE hf (by decide)
  refine zx_getI (pc := 63) d_X11_literal_63 lk_CutStonesModel_218 (by decide) g14 ?_
  rcases zw_ifE hf with ⟨c15, hf⟩ | ⟨c15, hf⟩
  · refine zv_if_ne (pc := 66) (tg := 85) d_X11_literal_66 (by decide) (fun _ => ?_) (fun q => absurd q c15)
    exact zx_weak (zw_leS (zw_leS (zw_leS (zw_leS (zw_leS (zw_leN zw_leZ)))))) (j_X11_literal_85_ok X P v0 v1 v2 v3 s0 I R J _ hf hk)
  · refine zv_if_ne (pc := 66) (tg := 85) d_X11_literal_66 (by decide) (fun q => absurd q c15) (fun _ => ?_)
    refine zv_iload (pc := 69) d_X11_literal_69 rfl ?_
    rcases zw_ifE hf with ⟨c42, hf⟩ | ⟨c42, hf⟩
    · refine zv_if_lt (pc := 71) (tg := 80) d_X11_literal_71 (by decide) (fun _ => ?_) (fun q => absurd c42 q)
      exact zx_weak (zw_leS (zw_leS (zw_leS (zw_leS (zw_leS (zw_leN zw_leZ)))))) (j_X11_literal_80_ok X P v0 v1 v2 v3 s0 I R J _ hf hk)
    · refine zv_if_lt (pc := 71) (tg := 80) d_X11_literal_71 (by decide) (fun q => absurd q c42) (fun _ => ?_)
      refine zv_iload (pc := 74) d_X11_literal_74 rfl ?_
      refine zv_iconst (pc := 76) d_X11_literal_76 zc_i_3 ?_
      rcases zw_ifE hf with ⟨c45, hf⟩ | ⟨c45, hf⟩
      · refine zv_icmp_le (pc := 77) (tg := 85) d_X11_literal_77 (by decide) (fun _ => ?_) (fun q => absurd c45 q)
        exact zx_weak (zw_leS (zw_leS (zw_leS (zw_leS (zw_leS (zw_leN zw_leZ)))))) (j_X11_literal_85_ok X P v0 v1 v2 v3 s0 I R J _ hf hk)
      · refine zv_icmp_le (pc := 77) (tg := 85) d_X11_literal_77 (by decide) (fun q => absurd q c45) (fun _ => ?_)
        exact zx_weak (zw_leS (zw_leS (zw_leS (zw_leS (zw_leS (zw_leN zw_leZ)))))) (j_X11_literal_80_ok X P v0 v1 v2 v3 s0 I R J _ hf hk)
def f_X11_literal (v0 : Nat) (v1 : Int32) (I : zI) (R : zR) : Option (zI) :=
  (zw_it (s_X11_literal_2 v0 v1 R) 1000000 (0, I)).bind fun q7 => (zw_g (zw_gc v0 11) (zw_let ((q7.2 v0 44) : Int32) fun x9 => ((f_X11_expression v0 q7.2 R).bind fun q10 => (if (q10 v0 13) ≤ 0 then zw_g (zw_gc (R v0 5) 13) (zw_g (zw_in (q10 v0 11) (zw_SH (R v0 5)).2) (j_X11_literal_60 v0 v1 q7.1 x9 ((q10 (R v0 5) (Int32.toNatClampNeg (q10 v0 11))) - 11) q10 R)) else j_X11_literal_60 v0 v1 q7.1 x9 0 q10 R))))
theorem c_X11_literal (X : zw_X) (v0 : Nat) (v1 : Int32) (I : zI) (R : zR) (J : zJ) {P : Option Value → aS → Prop} (o : zI) (hf : f_X11_literal v0 v1 I R = some o) (hk : P none (o, R, J)) : zw_C X M_X11_literal 4 0 0 199 [.ref v0, .int v1] (I, R, J) P := by
  show zy_V X M_X11_literal 4 P 0 [.ref v0, .int v1, .null, .null, .null, .null] [] (I, R, J)
  unfold f_X11_literal at hf
  refine zv_iconst (pc := 0) d_X11_literal_0 zc_i_0 ?_
  refine zx_istore_n (pc := 1) (x2 := 0) (L2 := [.ref v0, .int v1, .int 0, .null, .null, .null]) d_X11_literal_1 (by decide) rfl rfl ?_
  obtain ⟨q7, hq7, hf⟩ := zw_bdE hf
  refine zx_weak (L' := [.ref v0, .int v1, .int 0, .null, .null, .null]) (zw_leS (zw_leS (zw_leS (zw_leN (zw_leN (zw_leN zw_leZ)))))) (s_X11_literal_2_lp X P v0 v1 R J _ _ _ hq7 ?_)
  show zy_V X M_X11_literal 4 P 28 [.ref v0, .int v1, .int q7.1, .null, .null, .null] [] (q7.2, R, J)
  refine zv_aload_n (pc := 28) d_X11_literal_28 rfl ?_
  obtain ⟨g8, hf⟩ := zw_gcE hf (by decide)
  refine zx_getI (pc := 29) d_X11_literal_29 lk_CutStonesModel_257 (by decide) g8 ?_
  obtain ⟨x9, ex9, hf⟩ := zw_letE hf
  refine zx_istore_n (pc := 32) (x2 := x9) (L2 := [.ref v0, .int v1, .int q7.1, .int x9, .null, .null]) d_X11_literal_32 (by decide) ex9 rfl ?_
  refine zv_aload_n (pc := 33) d_X11_literal_33 rfl ?_
  obtain ⟨q10, hq10, hf⟩ := zw_bdE hf
  refine zx_callV (pc := 34) (As := []) (o := v0) (st := []) (d2 := 3) (M2 := M_X11_expression) (P2 := (fun r S => r = none ∧ S = (q10, R, J))) d_X11_literal_34 (zw_mG (List.mem_of_getElem? (i := 1486) (by decide +kernel)) rfl) ce_X11_expression (zw_RvK g8 rfl rfl) (Nat.le_of_ble_eq_true rfl) rfl (Nat.le_of_ble_eq_true rfl) (by decide) (c_X11_expression X v0 q7.2 R J _ hq10 ⟨rfl, rfl⟩) ?_
  rintro _ _ ⟨rfl, rfl⟩
  show zy_V X M_X11_literal 4 P (34 + 3) [.ref v0, .int v1, .int q7.1, .int x9, .null, .null] [] (q10, R, J)
  refine zv_aload_n (pc := 37) d_X11_literal_37 rfl ?_
  refine zx_getI (pc := 38) d_X11_literal_38 lk_CutStonesModel_218 (by decide) g8 ?_
  rcases zw_ifE hf with ⟨c11, hf⟩ | ⟨c11, hf⟩
  · refine zv_if_le (pc := 41) (tg := 48) d_X11_literal_41 (by decide) (fun _ => ?_) (fun q => absurd c11 q)
    refine zv_aload_n (pc := 48) d_X11_literal_48 rfl ?_
    obtain ⟨g12, hf⟩ := zw_gcE hf (by decide)
    refine zx_getR (pc := 49) d_X11_literal_49 lk_CutStonesModel_20 (by decide) g8 g12 ?_
    refine zv_aload_n (pc := 52) d_X11_literal_52 rfl ?_
    refine zx_getI (pc := 53) d_X11_literal_53 lk_CutStonesModel_221 (by decide) g8 ?_
    obtain ⟨i13, hf⟩ := zw_inE hf
    refine zx_iald (pc := 56) d_X11_literal_56 g12 i13 ?_
    refine zv_bipush (pc := 57) d_X11_literal_57 zc_b_11 ?_
    refine zv_isub (pc := 59) d_X11_literal_59 ?_
    exact zx_weak (zw_leS (zw_leS (zw_leS (zw_leS (zw_leN (zw_leN zw_leZ)))))) (j_X11_literal_60_ok X P v0 v1 q7.1 x9 ((q10 (R v0 5) (Int32.toNatClampNeg (q10 v0 11))) - 11) q10 R J _ hf hk)
  · refine zv_if_le (pc := 41) (tg := 48) d_X11_literal_41 (by decide) (fun q => absurd q c11) (fun _ => ?_)
    refine zv_iconst (pc := 44) d_X11_literal_44 zc_i_0 ?_
    refine zv_goto (pc := 45) (tg := 60) d_X11_literal_45 (by decide) ?_
    exact zx_weak (zw_leS (zw_leS (zw_leS (zw_leS (zw_leN (zw_leN zw_leZ)))))) (j_X11_literal_60_ok X P v0 v1 q7.1 x9 0 q10 R J _ hf hk)
abbrev M_X11_price : zw_M := (⟨"CutStonesModel", "price", "()I"⟩, prog_13_method_67_code, 1, (Option.some Jvm.ClassFile.FieldType.int))
theorem d_X11_price_0 : decode M_X11_price.2.1 0 = .ok (.aload_n 0, 1) := by decide +kernel
theorem d_X11_price_1 : decode M_X11_price.2.1 1 = .ok (.getfield 267, 3) := by decide +kernel
theorem d_X11_price_4 : decode M_X11_price.2.1 4 = .ok (.ifCond .ne 5, 3) := by decide +kernel
theorem d_X11_price_7 : decode M_X11_price.2.1 7 = .ok (.iconst (-1), 1) := by decide +kernel
theorem d_X11_price_8 : decode M_X11_price.2.1 8 = .ok (.ireturn, 1) := by decide +kernel
theorem d_X11_price_9 : decode M_X11_price.2.1 9 = .ok (.aload_n 0, 1) := by decide +kernel
theorem d_X11_price_10 : decode M_X11_price.2.1 10 = .ok (.invokevirtual 419, 3) := by decide +kernel
theorem d_X11_price_13 : decode M_X11_price.2.1 13 = .ok (.aload_n 0, 1) := by decide +kernel
theorem d_X11_price_14 : decode M_X11_price.2.1 14 = .ok (.invokevirtual 426, 3) := by decide +kernel
theorem d_X11_price_17 : decode M_X11_price.2.1 17 = .ok (.ireturn, 1) := by decide +kernel
theorem ce_X11_price : zw_CeV M_X11_price 0 := ⟨⟨⟨by decide +kernel, by decide +kernel, by decide +kernel⟩, (zw_mG (List.mem_of_getElem? (i := 1639) (by decide +kernel)) rfl), (zw_mG (List.mem_of_getElem? (i := 108) (by decide +kernel)) rfl), by decide, by decide +kernel⟩, (zw_mG (List.mem_of_getElem? (i := 1637) (by decide +kernel)) rfl), (zw_mG (List.mem_of_getElem? (i := 1638) (by decide +kernel)) rfl)⟩
def f_X11_price (v0 : Nat) (I : zI) (R : zR) : Option (Int32 × zI) :=
  zw_g (zw_gc v0 11) (if ¬ (I v0 65) = 0 then (f_X11_again v0 I R).bind fun q3 => ((f_X11_priceNow v0 q3 R).bind fun q4 => (some (q4.1, q4.2))) else some ((-1), I))
theorem c_X11_price (X : zw_X) (v0 : Nat) (I : zI) (R : zR) (J : zJ) {P : Option Value → aS → Prop} (o : Int32 × zI) (hf : f_X11_price v0 I R = some o) (hk : P (some (.int o.1)) (o.2, R, J)) : zw_C X M_X11_price 4 0 0 199 [.ref v0] (I, R, J) P := by
  show zy_V X M_X11_price 4 P 0 [.ref v0] [] (I, R, J)
  unfold f_X11_price at hf
  refine zv_aload_n (pc := 0) d_X11_price_0 rfl ?_
  obtain ⟨g1, hf⟩ := zw_gcE hf (by decide)
  refine zx_getI (pc := 1) d_X11_price_1 lk_CutStonesModel_267 (by decide) g1 ?_
  rcases zw_ifE hf with ⟨c2, hf⟩ | ⟨c2, hf⟩
  · refine zv_if_ne (pc := 4) (tg := 9) d_X11_price_4 (by decide) (fun _ => ?_) (fun q => absurd q c2)
    refine zv_aload_n (pc := 9) d_X11_price_9 rfl ?_
    obtain ⟨q3, hq3, hf⟩ := zw_bdE hf
    refine zx_callV (pc := 10) (As := []) (o := v0) (st := []) (d2 := 0) (M2 := M_X11_again) (P2 := (fun r S => r = none ∧ S = (q3, R, J))) d_X11_price_10 (zw_mG (List.mem_of_getElem? (i := 1620) (by decide +kernel)) rfl) ce_X11_again (zw_RvK g1 rfl rfl) (Nat.le_of_ble_eq_true rfl) rfl (Nat.le_of_ble_eq_true rfl) (by decide) (c_X11_again X v0 I R J _ hq3 ⟨rfl, rfl⟩) ?_
    rintro _ _ ⟨rfl, rfl⟩
    show zy_V X M_X11_price 4 P (10 + 3) [.ref v0] [] (q3, R, J)
    refine zv_aload_n (pc := 13) d_X11_price_13 rfl ?_
    obtain ⟨q4, hq4, hf⟩ := zw_bdE hf
    refine zx_callV (pc := 14) (As := []) (o := v0) (st := []) (d2 := 3) (M2 := M_X11_priceNow) (P2 := (fun r S => r = (some (.int q4.1)) ∧ S = (q4.2, R, J))) d_X11_price_14 (zw_mG (List.mem_of_getElem? (i := 1640) (by decide +kernel)) rfl) ce_X11_priceNow (zw_RvK g1 rfl rfl) (Nat.le_of_ble_eq_true rfl) rfl (Nat.le_of_ble_eq_true rfl) (by decide) (c_X11_priceNow X v0 q3 R J _ hq4 ⟨rfl, rfl⟩) ?_
    rintro _ _ ⟨rfl, rfl⟩
    show zy_V X M_X11_price 4 P (14 + 3) [.ref v0] [.int q4.1] (q4.2, R, J)
    cases hf
    exact zx_iret (pc := 17) d_X11_price_17 rfl hk
  · refine zv_if_ne (pc := 4) (tg := 9) d_X11_price_4 (by decide) (fun q => absurd q c2) (fun _ => ?_)
    refine zv_iconst (pc := 7) d_X11_price_7 zc_i_m1 ?_
    cases hf
    exact zx_iret (pc := 8) d_X11_price_8 rfl hk
abbrev M_X11_ray : zw_M := (⟨"CutStonesModel", "ray", "(IIIIII)I"⟩, prog_13_method_57_code, 10, (Option.some Jvm.ClassFile.FieldType.int))
theorem d_X11_ray_0 : decode M_X11_ray.2.1 0 = .ok (.aload_n 0, 1) := by decide +kernel
theorem d_X11_ray_1 : decode M_X11_ray.2.1 1 = .ok (.iload_n 1, 1) := by decide +kernel
theorem d_X11_ray_2 : decode M_X11_ray.2.1 2 = .ok (.invokevirtual 380, 3) := by decide +kernel
theorem d_X11_ray_5 : decode M_X11_ray.2.1 5 = .ok (.istore 7, 2) := by decide +kernel
theorem d_X11_ray_7 : decode M_X11_ray.2.1 7 = .ok (.aload_n 0, 1) := by decide +kernel
theorem d_X11_ray_8 : decode M_X11_ray.2.1 8 = .ok (.iload_n 2, 1) := by decide +kernel
theorem d_X11_ray_9 : decode M_X11_ray.2.1 9 = .ok (.invokevirtual 393, 3) := by decide +kernel
theorem d_X11_ray_12 : decode M_X11_ray.2.1 12 = .ok (.istore 8, 2) := by decide +kernel
theorem d_X11_ray_14 : decode M_X11_ray.2.1 14 = .ok (.iload 7, 2) := by decide +kernel
theorem d_X11_ray_16 : decode M_X11_ray.2.1 16 = .ok (.iconst (-1), 1) := by decide +kernel
theorem d_X11_ray_17 : decode M_X11_ray.2.1 17 = .ok (.if_icmp .eq 78, 3) := by decide +kernel
theorem d_X11_ray_20 : decode M_X11_ray.2.1 20 = .ok (.iload 8, 2) := by decide +kernel
theorem d_X11_ray_22 : decode M_X11_ray.2.1 22 = .ok (.iconst (-1), 1) := by decide +kernel
theorem d_X11_ray_23 : decode M_X11_ray.2.1 23 = .ok (.if_icmp .eq 72, 3) := by decide +kernel
theorem d_X11_ray_26 : decode M_X11_ray.2.1 26 = .ok (.iload_n 3, 1) := by decide +kernel
theorem d_X11_ray_27 : decode M_X11_ray.2.1 27 = .ok (.invokestatic 396, 3) := by decide +kernel
theorem d_X11_ray_30 : decode M_X11_ray.2.1 30 = .ok (.ifCond .eq 65, 3) := by decide +kernel
theorem d_X11_ray_33 : decode M_X11_ray.2.1 33 = .ok (.iload 4, 2) := by decide +kernel
theorem d_X11_ray_35 : decode M_X11_ray.2.1 35 = .ok (.ifCond .eq 15, 3) := by decide +kernel
theorem d_X11_ray_38 : decode M_X11_ray.2.1 38 = .ok (.iload 4, 2) := by decide +kernel
theorem d_X11_ray_40 : decode M_X11_ray.2.1 40 = .ok (.iconst 1, 1) := by decide +kernel
theorem d_X11_ray_41 : decode M_X11_ray.2.1 41 = .ok (.if_icmp .eq 9, 3) := by decide +kernel
theorem d_X11_ray_44 : decode M_X11_ray.2.1 44 = .ok (.iload 4, 2) := by decide +kernel
theorem d_X11_ray_46 : decode M_X11_ray.2.1 46 = .ok (.iconst 3, 1) := by decide +kernel
theorem d_X11_ray_47 : decode M_X11_ray.2.1 47 = .ok (.if_icmp .ne 48, 3) := by decide +kernel
theorem d_X11_ray_50 : decode M_X11_ray.2.1 50 = .ok (.iload 5, 2) := by decide +kernel
theorem d_X11_ray_52 : decode M_X11_ray.2.1 52 = .ok (.iconst 0, 1) := by decide +kernel
theorem d_X11_ray_53 : decode M_X11_ray.2.1 53 = .ok (.iload 4, 2) := by decide +kernel
theorem d_X11_ray_55 : decode M_X11_ray.2.1 55 = .ok (.ifCond .ne 13, 3) := by decide +kernel
theorem d_X11_ray_58 : decode M_X11_ray.2.1 58 = .ok (.aload_n 0, 1) := by decide +kernel
theorem d_X11_ray_59 : decode M_X11_ray.2.1 59 = .ok (.getfield 64, 3) := by decide +kernel
theorem d_X11_ray_62 : decode M_X11_ray.2.1 62 = .ok (.iload 7, 2) := by decide +kernel
theorem d_X11_ray_64 : decode M_X11_ray.2.1 64 = .ok (.iaload, 1) := by decide +kernel
theorem d_X11_ray_65 : decode M_X11_ray.2.1 65 = .ok (.goto 10, 3) := by decide +kernel
theorem d_X11_ray_68 : decode M_X11_ray.2.1 68 = .ok (.aload_n 0, 1) := by decide +kernel
theorem d_X11_ray_69 : decode M_X11_ray.2.1 69 = .ok (.getfield 67, 3) := by decide +kernel
theorem d_X11_ray_72 : decode M_X11_ray.2.1 72 = .ok (.iload 7, 2) := by decide +kernel
theorem d_X11_ray_74 : decode M_X11_ray.2.1 74 = .ok (.iaload, 1) := by decide +kernel
theorem d_X11_ray_75 : decode M_X11_ray.2.1 75 = .ok (.iconst 1, 1) := by decide +kernel
theorem d_X11_ray_76 : decode M_X11_ray.2.1 76 = .ok (.isub, 1) := by decide +kernel
theorem d_X11_ray_77 : decode M_X11_ray.2.1 77 = .ok (.invokestatic 373, 3) := by decide +kernel
theorem d_X11_ray_80 : decode M_X11_ray.2.1 80 = .ok (.ifCond .eq 15, 3) := by decide +kernel
theorem d_X11_ray_83 : decode M_X11_ray.2.1 83 = .ok (.iload 6, 2) := by decide +kernel
theorem d_X11_ray_85 : decode M_X11_ray.2.1 85 = .ok (.iconst 1, 1) := by decide +kernel
theorem d_X11_ray_86 : decode M_X11_ray.2.1 86 = .ok (.ldc_w 399, 3) := by decide +kernel
theorem d_X11_ray_89 : decode M_X11_ray.2.1 89 = .ok (.invokestatic 373, 3) := by decide +kernel
theorem d_X11_ray_92 : decode M_X11_ray.2.1 92 = .ok (.ifCond .ne 5, 3) := by decide +kernel
theorem d_X11_ray_95 : decode M_X11_ray.2.1 95 = .ok (.iconst (-1), 1) := by decide +kernel
theorem d_X11_ray_96 : decode M_X11_ray.2.1 96 = .ok (.ireturn, 1) := by decide +kernel
theorem d_X11_ray_97 : decode M_X11_ray.2.1 97 = .ok (.aload_n 0, 1) := by decide +kernel
theorem d_X11_ray_98 : decode M_X11_ray.2.1 98 = .ok (.invokevirtual 400, 3) := by decide +kernel
theorem d_X11_ray_101 : decode M_X11_ray.2.1 101 = .ok (.aload_n 0, 1) := by decide +kernel
theorem d_X11_ray_102 : decode M_X11_ray.2.1 102 = .ok (.iload 7, 2) := by decide +kernel
theorem d_X11_ray_104 : decode M_X11_ray.2.1 104 = .ok (.iload 8, 2) := by decide +kernel
theorem d_X11_ray_106 : decode M_X11_ray.2.1 106 = .ok (.iload_n 3, 1) := by decide +kernel
theorem d_X11_ray_107 : decode M_X11_ray.2.1 107 = .ok (.iload 4, 2) := by decide +kernel
theorem d_X11_ray_109 : decode M_X11_ray.2.1 109 = .ok (.iload 5, 2) := by decide +kernel
theorem d_X11_ray_111 : decode M_X11_ray.2.1 111 = .ok (.iload 6, 2) := by decide +kernel
theorem d_X11_ray_113 : decode M_X11_ray.2.1 113 = .ok (.invokevirtual 403, 3) := by decide +kernel
theorem d_X11_ray_116 : decode M_X11_ray.2.1 116 = .ok (.aload_n 0, 1) := by decide +kernel
theorem d_X11_ray_117 : decode M_X11_ray.2.1 117 = .ok (.iconst 1, 1) := by decide +kernel
theorem d_X11_ray_118 : decode M_X11_ray.2.1 118 = .ok (.putfield 263, 3) := by decide +kernel
theorem d_X11_ray_121 : decode M_X11_ray.2.1 121 = .ok (.aload_n 0, 1) := by decide +kernel
theorem d_X11_ray_122 : decode M_X11_ray.2.1 122 = .ok (.aload_n 0, 1) := by decide +kernel
theorem d_X11_ray_123 : decode M_X11_ray.2.1 123 = .ok (.getfield 337, 3) := by decide +kernel
theorem d_X11_ray_126 : decode M_X11_ray.2.1 126 = .ok (.putfield 407, 3) := by decide +kernel
theorem d_X11_ray_129 : decode M_X11_ray.2.1 129 = .ok (.iconst 0, 1) := by decide +kernel
theorem d_X11_ray_130 : decode M_X11_ray.2.1 130 = .ok (.istore 9, 2) := by decide +kernel
theorem d_X11_ray_132 : decode M_X11_ray.2.1 132 = .ok (.iload 9, 2) := by decide +kernel
theorem d_X11_ray_134 : decode M_X11_ray.2.1 134 = .ok (.aload_n 0, 1) := by decide +kernel
theorem d_X11_ray_135 : decode M_X11_ray.2.1 135 = .ok (.getfield 337, 3) := by decide +kernel
theorem d_X11_ray_138 : decode M_X11_ray.2.1 138 = .ok (.if_icmp .ge 23, 3) := by decide +kernel
theorem d_X11_ray_141 : decode M_X11_ray.2.1 141 = .ok (.aload_n 0, 1) := by decide +kernel
theorem d_X11_ray_142 : decode M_X11_ray.2.1 142 = .ok (.getfield 134, 3) := by decide +kernel
theorem d_X11_ray_145 : decode M_X11_ray.2.1 145 = .ok (.iload 9, 2) := by decide +kernel
theorem d_X11_ray_147 : decode M_X11_ray.2.1 147 = .ok (.aload_n 0, 1) := by decide +kernel
theorem d_X11_ray_148 : decode M_X11_ray.2.1 148 = .ok (.getfield 131, 3) := by decide +kernel
theorem d_X11_ray_151 : decode M_X11_ray.2.1 151 = .ok (.iload 9, 2) := by decide +kernel
theorem d_X11_ray_153 : decode M_X11_ray.2.1 153 = .ok (.iaload, 1) := by decide +kernel
theorem d_X11_ray_154 : decode M_X11_ray.2.1 154 = .ok (.iastore, 1) := by decide +kernel
theorem d_X11_ray_155 : decode M_X11_ray.2.1 155 = .ok (.iinc 9 1, 3) := by decide +kernel
theorem d_X11_ray_158 : decode M_X11_ray.2.1 158 = .ok (.goto (-26), 3) := by decide +kernel
theorem d_X11_ray_161 : decode M_X11_ray.2.1 161 = .ok (.iconst 0, 1) := by decide +kernel
theorem d_X11_ray_162 : decode M_X11_ray.2.1 162 = .ok (.istore 9, 2) := by decide +kernel
theorem d_X11_ray_164 : decode M_X11_ray.2.1 164 = .ok (.iload 9, 2) := by decide +kernel
theorem d_X11_ray_166 : decode M_X11_ray.2.1 166 = .ok (.iconst 4, 1) := by decide +kernel
theorem d_X11_ray_167 : decode M_X11_ray.2.1 167 = .ok (.if_icmp .ge 23, 3) := by decide +kernel
theorem d_X11_ray_170 : decode M_X11_ray.2.1 170 = .ok (.aload_n 0, 1) := by decide +kernel
theorem d_X11_ray_171 : decode M_X11_ray.2.1 171 = .ok (.getfield 137, 3) := by decide +kernel
theorem d_X11_ray_174 : decode M_X11_ray.2.1 174 = .ok (.iload 9, 2) := by decide +kernel
theorem d_X11_ray_176 : decode M_X11_ray.2.1 176 = .ok (.aload_n 0, 1) := by decide +kernel
theorem d_X11_ray_177 : decode M_X11_ray.2.1 177 = .ok (.getfield 125, 3) := by decide +kernel
theorem d_X11_ray_180 : decode M_X11_ray.2.1 180 = .ok (.iload 9, 2) := by decide +kernel
theorem d_X11_ray_182 : decode M_X11_ray.2.1 182 = .ok (.iaload, 1) := by decide +kernel
theorem d_X11_ray_183 : decode M_X11_ray.2.1 183 = .ok (.iastore, 1) := by decide +kernel
theorem d_X11_ray_184 : decode M_X11_ray.2.1 184 = .ok (.iinc 9 1, 3) := by decide +kernel
theorem d_X11_ray_187 : decode M_X11_ray.2.1 187 = .ok (.goto (-23), 3) := by decide +kernel
theorem d_X11_ray_190 : decode M_X11_ray.2.1 190 = .ok (.aload_n 0, 1) := by decide +kernel
theorem d_X11_ray_191 : decode M_X11_ray.2.1 191 = .ok (.getfield 137, 3) := by decide +kernel
theorem d_X11_ray_194 : decode M_X11_ray.2.1 194 = .ok (.iconst 4, 1) := by decide +kernel
theorem d_X11_ray_195 : decode M_X11_ray.2.1 195 = .ok (.aload_n 0, 1) := by decide +kernel
theorem d_X11_ray_196 : decode M_X11_ray.2.1 196 = .ok (.getfield 328, 3) := by decide +kernel
theorem d_X11_ray_199 : decode M_X11_ray.2.1 199 = .ok (.iastore, 1) := by decide +kernel
theorem d_X11_ray_200 : decode M_X11_ray.2.1 200 = .ok (.aload_n 0, 1) := by decide +kernel
theorem d_X11_ray_201 : decode M_X11_ray.2.1 201 = .ok (.getfield 137, 3) := by decide +kernel
theorem d_X11_ray_204 : decode M_X11_ray.2.1 204 = .ok (.iconst 5, 1) := by decide +kernel
theorem d_X11_ray_205 : decode M_X11_ray.2.1 205 = .ok (.aload_n 0, 1) := by decide +kernel
theorem d_X11_ray_206 : decode M_X11_ray.2.1 206 = .ok (.getfield 331, 3) := by decide +kernel
theorem d_X11_ray_209 : decode M_X11_ray.2.1 209 = .ok (.iastore, 1) := by decide +kernel
theorem d_X11_ray_210 : decode M_X11_ray.2.1 210 = .ok (.aload_n 0, 1) := by decide +kernel
theorem d_X11_ray_211 : decode M_X11_ray.2.1 211 = .ok (.getfield 137, 3) := by decide +kernel
theorem d_X11_ray_214 : decode M_X11_ray.2.1 214 = .ok (.bipush 6, 2) := by decide +kernel
theorem d_X11_ray_216 : decode M_X11_ray.2.1 216 = .ok (.aload_n 0, 1) := by decide +kernel
theorem d_X11_ray_217 : decode M_X11_ray.2.1 217 = .ok (.getfield 334, 3) := by decide +kernel
theorem d_X11_ray_220 : decode M_X11_ray.2.1 220 = .ok (.iastore, 1) := by decide +kernel
theorem d_X11_ray_221 : decode M_X11_ray.2.1 221 = .ok (.aload_n 0, 1) := by decide +kernel
theorem d_X11_ray_222 : decode M_X11_ray.2.1 222 = .ok (.getfield 337, 3) := by decide +kernel
theorem d_X11_ray_225 : decode M_X11_ray.2.1 225 = .ok (.ireturn, 1) := by decide +kernel
theorem ce_X11_ray : zw_CeV M_X11_ray 6 := ⟨⟨⟨by decide +kernel, by decide +kernel, by decide +kernel⟩, (zw_mG (List.mem_of_getElem? (i := 1551) (by decide +kernel)) rfl), (zw_mG (List.mem_of_getElem? (i := 108) (by decide +kernel)) rfl), by decide, by decide +kernel⟩, (zw_mG (List.mem_of_getElem? (i := 1549) (by decide +kernel)) rfl), (zw_mG (List.mem_of_getElem? (i := 1550) (by decide +kernel)) rfl)⟩
def s_X11_ray_132 (v0 : Nat) (R : zR) (s : Int32 × zI) : Option ((Int32 × zI) ⊕ (zI)) :=
  zw_g (zw_gc v0 11) (if (s.2 v0 57) ≤ s.1 then some (.inr s.2) else zw_g (zw_gc (R v0 63) 13) (zw_g (zw_gc (R v0 60) 13) (zw_g (zw_in s.1 (zw_SH (R v0 60)).2) (zw_g (zw_in s.1 (zw_SH (R v0 63)).2) (zw_let (zw_u s.2 (R v0 63) (Int32.toNatClampNeg s.1) (s.2 (R v0 60) (Int32.toNatClampNeg s.1)) : zI) fun I28 => (zw_let (s.1 + 1 : Int32) fun x29 => (some (.inl (x29, I28)))))))))
theorem s_X11_ray_132_ok (X : zw_X) (P : Option Value → aS → Prop) (v0 : Nat) (R : zR) (J : zJ) (s : Int32 × zI) (o : (Int32 × zI) ⊕ (zI)) (hf : s_X11_ray_132 v0 R s = some o) (hk : (zw_se (fun t => zy_V X M_X11_ray 4 P 132 [.ref v0, .null, .null, .null, .null, .null, .null, .null, .null, .int t.1] [] (t.2, R, J)) (fun r => zy_V X M_X11_ray 4 P 161 [.ref v0, .null, .null, .null, .null, .null, .null, .null, .null, .null] [] (r, R, J)) o)) : zy_V X M_X11_ray 4 P 132 [.ref v0, .null, .null, .null, .null, .null, .null, .null, .null, .int s.1] [] (s.2, R, J) := by
  unfold s_X11_ray_132 at hf
  refine zv_iload (pc := 132) d_X11_ray_132 rfl ?_
  refine zv_aload_n (pc := 134) d_X11_ray_134 rfl ?_
  obtain ⟨g22, hf⟩ := zw_gcE hf (by decide)
  refine zx_getI (pc := 135) d_X11_ray_135 lk_CutStonesModel_337 (by decide) g22 ?_
  rcases zw_ifE hf with ⟨c23, hf⟩ | ⟨c23, hf⟩
  · refine zv_icmp_ge (pc := 138) (tg := 161) d_X11_ray_138 (by decide) (fun _ => ?_) (fun q => absurd c23 q)
    cases hf
    exact zx_weak (zw_leS (zw_leN (zw_leN (zw_leN (zw_leN (zw_leN (zw_leN (zw_leN (zw_leN (zw_leN zw_leZ)))))))))) hk
  · refine zv_icmp_ge (pc := 138) (tg := 161) d_X11_ray_138 (by decide) (fun q => absurd q c23) (fun _ => ?_)
    refine zv_aload_n (pc := 141) d_X11_ray_141 rfl ?_
    obtain ⟨g24, hf⟩ := zw_gcE hf (by decide)
    refine zx_getR (pc := 142) d_X11_ray_142 lk_CutStonesModel_134 (by decide) g22 g24 ?_
    refine zv_iload (pc := 145) d_X11_ray_145 rfl ?_
    refine zv_aload_n (pc := 147) d_X11_ray_147 rfl ?_
    obtain ⟨g25, hf⟩ := zw_gcE hf (by decide)
    refine zx_getR (pc := 148) d_X11_ray_148 lk_CutStonesModel_131 (by decide) g22 g25 ?_
    refine zv_iload (pc := 151) d_X11_ray_151 rfl ?_
    obtain ⟨i26, hf⟩ := zw_inE hf
    refine zx_iald (pc := 153) d_X11_ray_153 g25 i26 ?_
    obtain ⟨i27, hf⟩ := zw_inE hf
    obtain ⟨I28, eI28, hf⟩ := zw_letE hf
    refine zx_iast (pc := 154) (I2 := I28) d_X11_ray_154 g24 i27 eI28 ?_
    obtain ⟨x29, ex29, hf⟩ := zw_letE hf
    refine zx_iinc (pc := 155) (x2 := x29) (L2 := [.ref v0, .null, .null, .null, .null, .null, .null, .null, .null, .int x29]) d_X11_ray_155 (by decide) rfl zc_i_1 ex29 rfl ?_
    refine zv_goto (pc := 158) (tg := 132) d_X11_ray_158 (by decide) ?_
    cases hf
    exact zx_weak (zw_leS (zw_leN (zw_leN (zw_leN (zw_leN (zw_leN (zw_leN (zw_leN (zw_leN (zw_leS zw_leZ)))))))))) hk
theorem s_X11_ray_132_lp (X : zw_X) (P : Option Value → aS → Prop) (v0 : Nat) (R : zR) (J : zJ) (n : Nat) (s : Int32 × zI) (r : zI) (h : zw_it (s_X11_ray_132 v0 R) n s = some r) (hq : zy_V X M_X11_ray 4 P 161 [.ref v0, .null, .null, .null, .null, .null, .null, .null, .null, .null] [] (r, R, J)) : zy_V X M_X11_ray 4 P 132 [.ref v0, .null, .null, .null, .null, .null, .null, .null, .null, .int s.1] [] (s.2, R, J) :=
  zw_itE (A := (fun t : Int32 × zI => zy_V X M_X11_ray 4 P 132 [.ref v0, .null, .null, .null, .null, .null, .null, .null, .null, .int t.1] [] (t.2, R, J))) (Q := (fun r : zI => zy_V X M_X11_ray 4 P 161 [.ref v0, .null, .null, .null, .null, .null, .null, .null, .null, .null] [] (r, R, J))) (fun s o h1 h2 => s_X11_ray_132_ok X P v0 R J s o h1 h2) n s r h hq
def s_X11_ray_164 (v0 : Nat) (R : zR) (s : Int32 × zI) : Option ((Int32 × zI) ⊕ (zI)) :=
  if 4 ≤ s.1 then some (.inr s.2) else zw_g (zw_gc v0 11) (zw_g (zw_gc (R v0 64) 13) (zw_g (zw_gc (R v0 52) 13) (zw_g (zw_in s.1 (zw_SH (R v0 52)).2) (zw_g (zw_in s.1 (zw_SH (R v0 64)).2) (zw_let (zw_u s.2 (R v0 64) (Int32.toNatClampNeg s.1) (s.2 (R v0 52) (Int32.toNatClampNeg s.1)) : zI) fun I37 => (zw_let (s.1 + 1 : Int32) fun x38 => (some (.inl (x38, I37)))))))))
theorem s_X11_ray_164_ok (X : zw_X) (P : Option Value → aS → Prop) (v0 : Nat) (R : zR) (J : zJ) (s : Int32 × zI) (o : (Int32 × zI) ⊕ (zI)) (hf : s_X11_ray_164 v0 R s = some o) (hk : (zw_se (fun t => zy_V X M_X11_ray 4 P 164 [.ref v0, .null, .null, .null, .null, .null, .null, .null, .null, .int t.1] [] (t.2, R, J)) (fun r => zy_V X M_X11_ray 4 P 190 [.ref v0, .null, .null, .null, .null, .null, .null, .null, .null, .null] [] (r, R, J)) o)) : zy_V X M_X11_ray 4 P 164 [.ref v0, .null, .null, .null, .null, .null, .null, .null, .null, .int s.1] [] (s.2, R, J) := by
  unfold s_X11_ray_164 at hf
  refine zv_iload (pc := 164) d_X11_ray_164 rfl ?_
  refine zv_iconst (pc := 166) d_X11_ray_166 zc_i_4 ?_
  rcases zw_ifE hf with ⟨c31, hf⟩ | ⟨c31, hf⟩
  · refine zv_icmp_ge (pc := 167) (tg := 190) d_X11_ray_167 (by decide) (fun _ => ?_) (fun q => absurd c31 q)
    cases hf
    exact zx_weak (zw_leS (zw_leN (zw_leN (zw_leN (zw_leN (zw_leN (zw_leN (zw_leN (zw_leN (zw_leN zw_leZ)))))))))) hk
  · refine zv_icmp_ge (pc := 167) (tg := 190) d_X11_ray_167 (by decide) (fun q => absurd q c31) (fun _ => ?_)
    refine zv_aload_n (pc := 170) d_X11_ray_170 rfl ?_
    obtain ⟨g32, hf⟩ := zw_gcE hf (by decide)
    obtain ⟨g33, hf⟩ := zw_gcE hf (by decide)
    refine zx_getR (pc := 171) d_X11_ray_171 lk_CutStonesModel_137 (by decide) g32 g33 ?_
    refine zv_iload (pc := 174) d_X11_ray_174 rfl ?_
    refine zv_aload_n (pc := 176) d_X11_ray_176 rfl ?_
    obtain ⟨g34, hf⟩ := zw_gcE hf (by decide)
    refine zx_getR (pc := 177) d_X11_ray_177 lk_CutStonesModel_125 (by decide) g32 g34 ?_
    refine zv_iload (pc := 180) d_X11_ray_180 rfl ?_
    obtain ⟨i35, hf⟩ := zw_inE hf
    refine zx_iald (pc := 182) d_X11_ray_182 g34 i35 ?_
    obtain ⟨i36, hf⟩ := zw_inE hf
    obtain ⟨I37, eI37, hf⟩ := zw_letE hf
    refine zx_iast (pc := 183) (I2 := I37) d_X11_ray_183 g33 i36 eI37 ?_
    obtain ⟨x38, ex38, hf⟩ := zw_letE hf
    refine zx_iinc (pc := 184) (x2 := x38) (L2 := [.ref v0, .null, .null, .null, .null, .null, .null, .null, .null, .int x38]) d_X11_ray_184 (by decide) rfl zc_i_1 ex38 rfl ?_
    refine zv_goto (pc := 187) (tg := 164) d_X11_ray_187 (by decide) ?_
    cases hf
    exact zx_weak (zw_leS (zw_leN (zw_leN (zw_leN (zw_leN (zw_leN (zw_leN (zw_leN (zw_leN (zw_leS zw_leZ)))))))))) hk
theorem s_X11_ray_164_lp (X : zw_X) (P : Option Value → aS → Prop) (v0 : Nat) (R : zR) (J : zJ) (n : Nat) (s : Int32 × zI) (r : zI) (h : zw_it (s_X11_ray_164 v0 R) n s = some r) (hq : zy_V X M_X11_ray 4 P 190 [.ref v0, .null, .null, .null, .null, .null, .null, .null, .null, .null] [] (r, R, J)) : zy_V X M_X11_ray 4 P 164 [.ref v0, .null, .null, .null, .null, .null, .null, .null, .null, .int s.1] [] (s.2, R, J) :=
  zw_itE (A := (fun t : Int32 × zI => zy_V X M_X11_ray 4 P 164 [.ref v0, .null, .null, .null, .null, .null, .null, .null, .null, .int t.1] [] (t.2, R, J))) (Q := (fun r : zI => zy_V X M_X11_ray 4 P 190 [.ref v0, .null, .null, .null, .null, .null, .null, .null, .null, .null] [] (r, R, J))) (fun s o h1 h2 => s_X11_ray_164_ok X P v0 R J s o h1 h2) n s r h hq
def j_X11_ray_75 (v0 : Nat) (v3 : Int32) (v4 : Int32) (v5 : Int32) (v6 : Int32) (v7 : Int32) (v8 : Int32) (s0 : Int32) (s1 : Int32) (s2 : Int32) (I : zI) (R : zR) : Option (Int32 × zI) :=
  (f_X11_in s0 s1 (s2 - 1)).bind fun q13 => (if q13 = 0 then some ((-1), I) else (f_X11_in v6 1 100000).bind fun q15 => (if ¬ q15 = 0 then zw_g (zw_gc v0 11) ((f_X11_darkens v0 I R).bind fun q18 => ((f_X11_lamp v0 v7 v8 v3 v4 v5 v6 q18 R).bind fun q19 => (zw_let (zw_u q19 v0 61 1 : zI) fun I20 => (zw_let (zw_u I20 v0 62 (I20 v0 57) : zI) fun I21 => ((zw_it (s_X11_ray_132 v0 R) 1000000 (0, I21)).bind fun q30 => ((zw_it (s_X11_ray_164 v0 R) 1000000 (0, q30)).bind fun q39 => (zw_g (zw_gc (R v0 64) 13) (zw_g (zw_in 4 (zw_SH (R v0 64)).2) (zw_let (zw_u q39 (R v0 64) (Int32.toNatClampNeg 4) (q39 v0 54) : zI) fun I42 => (zw_g (zw_in 5 (zw_SH (R v0 64)).2) (zw_let (zw_u I42 (R v0 64) (Int32.toNatClampNeg 5) (I42 v0 55) : zI) fun I44 => (zw_g (zw_in 6 (zw_SH (R v0 64)).2) (zw_let (zw_u I44 (R v0 64) (Int32.toNatClampNeg 6) (I44 v0 56) : zI) fun I46 => (some ((I46 v0 57), I46))))))))))))))) else some ((-1), I)))
theorem j_X11_ray_75_ok (X : zw_X) (P : Option Value → aS → Prop) (v0 : Nat) (v3 : Int32) (v4 : Int32) (v5 : Int32) (v6 : Int32) (v7 : Int32) (v8 : Int32) (s0 : Int32) (s1 : Int32) (s2 : Int32) (I : zI) (R : zR) (J : zJ) (o : Int32 × zI) (hf : j_X11_ray_75 v0 v3 v4 v5 v6 v7 v8 s0 s1 s2 I R = some o) (hk : P (some (.int o.1)) (o.2, R, J)) : zy_V X M_X11_ray 4 P 75 [.ref v0, .null, .null, .int v3, .int v4, .int v5, .int v6, .int v7, .int v8, .null] [.int s2, .int s1, .int s0] (I, R, J) := by
  unfold j_X11_ray_75 at hf
  refine zv_iconst (pc := 75) d_X11_ray_75 zc_i_1 ?_
  refine zv_isub (pc := 76) d_X11_ray_76 ?_
  obtain ⟨q13, hq13, hf⟩ := zw_bdE hf
  refine zx_callS (pc := 77) (As := [.int s0, .int s1, .int (s2 - 1)]) (st := []) (d2 := 0) (M2 := M_X11_in) (P2 := (fun r S => r = (some (.int q13)) ∧ S = (I, R, J))) d_X11_ray_77 (zw_mG (List.mem_of_getElem? (i := 1522) (by decide +kernel)) rfl) ce_X11_in (Nat.le_of_ble_eq_true rfl) rfl (Nat.le_of_ble_eq_true rfl) (by decide) (c_X11_in X s0 s1 (s2 - 1) I R J _ hq13 ⟨rfl, rfl⟩) ?_
  rintro _ _ ⟨rfl, rfl⟩
  show zy_V X M_X11_ray 4 P (77 + 3) [.ref v0, .null, .null, .int v3, .int v4, .int v5, .int v6, .int v7, .int v8, .null] [.int q13] (I, R, J)
  rcases zw_ifE hf with ⟨c14, hf⟩ | ⟨c14, hf⟩
  · refine zv_if_eq (pc := 80) (tg := 95) d_X11_ray_80 (by decide) (fun _ => ?_) (fun q => absurd c14 q)
    refine zv_iconst (pc := 95) d_X11_ray_95 zc_i_m1 ?_
    cases hf
    exact zx_iret (pc := 96) d_X11_ray_96 rfl hk
  · refine zv_if_eq (pc := 80) (tg := 95) d_X11_ray_80 (by decide) (fun q => absurd q c14) (fun _ => ?_)
    refine zv_iload (pc := 83) d_X11_ray_83 rfl ?_
    refine zv_iconst (pc := 85) d_X11_ray_85 zc_i_1 ?_
    refine zv_ldcw (pc := 86) (v := 100000) d_X11_ray_86 (zw_mG (List.mem_of_getElem? (i := 1559) (by decide +kernel)) rfl) ?_
    obtain ⟨q15, hq15, hf⟩ := zw_bdE hf
    refine zx_callS (pc := 89) (As := [.int v6, .int 1, .int 100000]) (st := []) (d2 := 0) (M2 := M_X11_in) (P2 := (fun r S => r = (some (.int q15)) ∧ S = (I, R, J))) d_X11_ray_89 (zw_mG (List.mem_of_getElem? (i := 1522) (by decide +kernel)) rfl) ce_X11_in (Nat.le_of_ble_eq_true rfl) rfl (Nat.le_of_ble_eq_true rfl) (by decide) (c_X11_in X v6 1 100000 I R J _ hq15 ⟨rfl, rfl⟩) ?_
    rintro _ _ ⟨rfl, rfl⟩
    show zy_V X M_X11_ray 4 P (89 + 3) [.ref v0, .null, .null, .int v3, .int v4, .int v5, .int v6, .int v7, .int v8, .null] [.int q15] (I, R, J)
    rcases zw_ifE hf with ⟨c16, hf⟩ | ⟨c16, hf⟩
    · refine zv_if_ne (pc := 92) (tg := 97) d_X11_ray_92 (by decide) (fun _ => ?_) (fun q => absurd q c16)
      refine zv_aload_n (pc := 97) d_X11_ray_97 rfl ?_
      obtain ⟨g17, hf⟩ := zw_gcE hf (by decide)
      obtain ⟨q18, hq18, hf⟩ := zw_bdE hf
      refine zx_callV (pc := 98) (As := []) (o := v0) (st := []) (d2 := 0) (M2 := M_X11_darkens) (P2 := (fun r S => r = none ∧ S = (q18, R, J))) d_X11_ray_98 (zw_mG (List.mem_of_getElem? (i := 1560) (by decide +kernel)) rfl) ce_X11_darkens (zw_RvK g17 rfl rfl) (Nat.le_of_ble_eq_true rfl) rfl (Nat.le_of_ble_eq_true rfl) (by decide) (c_X11_darkens X v0 I R J _ hq18 ⟨rfl, rfl⟩) ?_
      rintro _ _ ⟨rfl, rfl⟩
      show zy_V X M_X11_ray 4 P (98 + 3) [.ref v0, .null, .null, .int v3, .int v4, .int v5, .int v6, .int v7, .int v8, .null] [] (q18, R, J)
      refine zv_aload_n (pc := 101) d_X11_ray_101 rfl ?_
      refine zv_iload (pc := 102) d_X11_ray_102 rfl ?_
      refine zv_iload (pc := 104) d_X11_ray_104 rfl ?_
      refine zv_iload_n (pc := 106) d_X11_ray_106 rfl ?_
      refine zv_iload (pc := 107) d_X11_ray_107 rfl ?_
      refine zv_iload (pc := 109) d_X11_ray_109 rfl ?_
      refine zv_iload (pc := 111) d_X11_ray_111 rfl ?_
      obtain ⟨q19, hq19, hf⟩ := zw_bdE hf
      refine zx_callV (pc := 113) (As := [.int v7, .int v8, .int v3, .int v4, .int v5, .int v6]) (o := v0) (st := []) (d2 := 3) (M2 := M_X11_lamp) (P2 := (fun r S => r = none ∧ S = (q19, R, J))) d_X11_ray_113 (zw_mG (List.mem_of_getElem? (i := 1564) (by decide +kernel)) rfl) ce_X11_lamp (zw_RvK g17 rfl rfl) (Nat.le_of_ble_eq_true rfl) rfl (Nat.le_of_ble_eq_true rfl) (by decide) (c_X11_lamp X v0 v7 v8 v3 v4 v5 v6 q18 R J _ hq19 ⟨rfl, rfl⟩) ?_
      rintro _ _ ⟨rfl, rfl⟩
      show zy_V X M_X11_ray 4 P (113 + 3) [.ref v0, .null, .null, .int v3, .int v4, .int v5, .int v6, .int v7, .int v8, .null] [] (q19, R, J)
      refine zv_aload_n (pc := 116) d_X11_ray_116 rfl ?_
      refine zv_iconst (pc := 117) d_X11_ray_117 zc_i_1 ?_
      obtain ⟨I20, eI20, hf⟩ := zw_letE hf
      refine zx_putZ (pc := 118) (I2 := I20) d_X11_ray_118 lk_CutStonesModel_263 rfl (Or.inr rfl) g17 eI20 ?_
      refine zv_aload_n (pc := 121) d_X11_ray_121 rfl ?_
      refine zv_aload_n (pc := 122) d_X11_ray_122 rfl ?_
      refine zx_getI (pc := 123) d_X11_ray_123 lk_CutStonesModel_337 (by decide) g17 ?_
      obtain ⟨I21, eI21, hf⟩ := zw_letE hf
      refine zx_putI (pc := 126) (I2 := I21) d_X11_ray_126 lk_CutStonesModel_407 rfl g17 eI21 ?_
      refine zv_iconst (pc := 129) d_X11_ray_129 zc_i_0 ?_
      refine zx_istore (pc := 130) (x2 := 0) (L2 := [.ref v0, .null, .null, .int v3, .int v4, .int v5, .int v6, .int v7, .int v8, .int 0]) d_X11_ray_130 (by decide) rfl rfl ?_
      obtain ⟨q30, hq30, hf⟩ := zw_bdE hf
      refine zx_weak (L' := [.ref v0, .null, .null, .null, .null, .null, .null, .null, .null, .int 0]) (zw_leS (zw_leN (zw_leN (zw_leN (zw_leN (zw_leN (zw_leN (zw_leN (zw_leN (zw_leS zw_leZ)))))))))) (s_X11_ray_132_lp X P v0 R J _ _ _ hq30 ?_)
      show zy_V X M_X11_ray 4 P 161 [.ref v0, .null, .null, .null, .null, .null, .null, .null, .null, .null] [] (q30, R, J)
      refine zv_iconst (pc := 161) d_X11_ray_161 zc_i_0 ?_
      refine zx_istore (pc := 162) (x2 := 0) (L2 := [.ref v0, .null, .null, .null, .null, .null, .null, .null, .null, .int 0]) d_X11_ray_162 (by decide) rfl rfl ?_
      obtain ⟨q39, hq39, hf⟩ := zw_bdE hf
      refine zx_weak (L' := [.ref v0, .null, .null, .null, .null, .null, .null, .null, .null, .int 0]) (zw_leS (zw_leN (zw_leN (zw_leN (zw_leN (zw_leN (zw_leN (zw_leN (zw_leN (zw_leS zw_leZ)))))))))) (s_X11_ray_164_lp X P v0 R J _ _ _ hq39 ?_)
      show zy_V X M_X11_ray 4 P 190 [.ref v0, .null, .null, .null, .null, .null, .null, .null, .null, .null] [] (q39, R, J)
      refine zv_aload_n (pc := 190) d_X11_ray_190 rfl ?_
      obtain ⟨g40, hf⟩ := zw_gcE hf (by decide)
      refine zx_getR (pc := 191) d_X11_ray_191 lk_CutStonesModel_137 (by decide) g17 g40 ?_
      refine zv_iconst (pc := 194) d_X11_ray_194 zc_i_4 ?_
      refine zv_aload_n (pc := 195) d_X11_ray_195 rfl ?_
      refine zx_getI (pc := 196) d_X11_ray_196 lk_CutStonesModel_328 (by decide) g17 ?_
      obtain ⟨i41, hf⟩ := zw_inE hf
      obtain ⟨I42, eI42, hf⟩ := zw_letE hf
      refine zx_iast (pc := 199) (I2 := I42) d_X11_ray_199 g40 i41 eI42 ?_
      refine zv_aload_n (pc := 200) d_X11_ray_200 rfl ?_
      refine zx_getR (pc := 201) d_X11_ray_201 lk_CutStonesModel_137 (by decide) g17 g40 ?_
      refine zv_iconst (pc := 204) d_X11_ray_204 zc_i_5 ?_
      refine zv_aload_n (pc := 205) d_X11_ray_205 rfl ?_
      refine zx_getI (pc := 206) d_X11_ray_206 lk_CutStonesModel_331 (by decide) g17 ?_
      obtain ⟨i43, hf⟩ := zw_inE hf
      obtain ⟨I44, eI44, hf⟩ := zw_letE hf
      refine zx_iast (pc := 209) (I2 := I44) d_X11_ray_209 g40 i43 eI44 ?_
      refine zv_aload_n (pc := 210) d_X11_ray_210 rfl ?_
      refine zx_getR (pc := 211) d_X11_ray_211 lk_CutStonesModel_137 (by decide) g17 g40 ?_
      refine zv_bipush (pc := 214) d_X11_ray_214 zc_b_6 ?_
      refine zv_aload_n (pc := 216) d_X11_ray_216 rfl ?_
      refine zx_getI (pc := 217) d_X11_ray_217 lk_CutStonesModel_334 (by decide) g17 ?_
      obtain ⟨i45, hf⟩ := zw_inE hf
      obtain ⟨I46, eI46, hf⟩ := zw_letE hf
      refine zx_iast (pc := 220) (I2 := I46) d_X11_ray_220 g40 i45 eI46 ?_
      refine zv_aload_n (pc := 221) d_X11_ray_221 rfl ?_
      refine zx_getI (pc := 222) d_X11_ray_222 lk_CutStonesModel_337 (by decide) g17 ?_
      cases hf
      exact zx_iret (pc := 225) d_X11_ray_225 rfl hk
    · refine zv_if_ne (pc := 92) (tg := 97) d_X11_ray_92 (by decide) (fun q => absurd q c16) (fun _ => ?_)
      refine zv_iconst (pc := 95) d_X11_ray_95 zc_i_m1 ?_
      cases hf
      exact zx_iret (pc := 96) d_X11_ray_96 rfl hk
def j_X11_ray_50 (v0 : Nat) (v3 : Int32) (v4 : Int32) (v5 : Int32) (v6 : Int32) (v7 : Int32) (v8 : Int32) (I : zI) (R : zR) : Option (Int32 × zI) :=
  if ¬ v4 = 0 then zw_g (zw_gc v0 11) (zw_g (zw_gc (R v0 29) 13) (zw_g (zw_in v7 (zw_SH (R v0 29)).2) (j_X11_ray_75 v0 v3 v4 v5 v6 v7 v8 v5 0 (I (R v0 29) (Int32.toNatClampNeg v7)) I R))) else zw_g (zw_gc v0 11) (zw_g (zw_gc (R v0 28) 13) (zw_g (zw_in v7 (zw_SH (R v0 28)).2) (j_X11_ray_75 v0 v3 v4 v5 v6 v7 v8 v5 0 (I (R v0 28) (Int32.toNatClampNeg v7)) I R)))
theorem j_X11_ray_50_ok (X : zw_X) (P : Option Value → aS → Prop) (v0 : Nat) (v3 : Int32) (v4 : Int32) (v5 : Int32) (v6 : Int32) (v7 : Int32) (v8 : Int32) (I : zI) (R : zR) (J : zJ) (o : Int32 × zI) (hf : j_X11_ray_50 v0 v3 v4 v5 v6 v7 v8 I R = some o) (hk : P (some (.int o.1)) (o.2, R, J)) : zy_V X M_X11_ray 4 P 50 [.ref v0, .null, .null, .int v3, .int v4, .int v5, .int v6, .int v7, .int v8, .null] [] (I, R, J) := by
  unfold j_X11_ray_50 at hf
  refine zv_iload (pc := 50) d_X11_ray_50 rfl ?_
  refine zv_iconst (pc := 52) d_X11_ray_52 zc_i_0 ?_
  refine zv_iload (pc := 53) d_X11_ray_53 rfl ?_
  rcases zw_ifE hf with ⟨c9, hf⟩ | ⟨c9, hf⟩
  · refine zv_if_ne (pc := 55) (tg := 68) d_X11_ray_55 (by decide) (fun _ => ?_) (fun q => absurd q c9)
    refine zv_aload_n (pc := 68) d_X11_ray_68 rfl ?_
    obtain ⟨g10, hf⟩ := zw_gcE hf (by decide)
    obtain ⟨g11, hf⟩ := zw_gcE hf (by decide)
    refine zx_getR (pc := 69) d_X11_ray_69 lk_CutStonesModel_67 (by decide) g10 g11 ?_
    refine zv_iload (pc := 72) d_X11_ray_72 rfl ?_
    obtain ⟨i12, hf⟩ := zw_inE hf
    refine zx_iald (pc := 74) d_X11_ray_74 g11 i12 ?_
    exact zx_weak (zw_leS (zw_leN (zw_leN (zw_leS (zw_leS (zw_leS (zw_leS (zw_leS (zw_leS (zw_leN zw_leZ)))))))))) (j_X11_ray_75_ok X P v0 v3 v4 v5 v6 v7 v8 v5 0 (I (R v0 29) (Int32.toNatClampNeg v7)) I R J _ hf hk)
  · refine zv_if_ne (pc := 55) (tg := 68) d_X11_ray_55 (by decide) (fun q => absurd q c9) (fun _ => ?_)
    refine zv_aload_n (pc := 58) d_X11_ray_58 rfl ?_
    obtain ⟨g47, hf⟩ := zw_gcE hf (by decide)
    obtain ⟨g48, hf⟩ := zw_gcE hf (by decide)
    refine zx_getR (pc := 59) d_X11_ray_59 lk_CutStonesModel_64 (by decide) g47 g48 ?_
    refine zv_iload (pc := 62) d_X11_ray_62 rfl ?_
    obtain ⟨i49, hf⟩ := zw_inE hf
    refine zx_iald (pc := 64) d_X11_ray_64 g48 i49 ?_
    refine zv_goto (pc := 65) (tg := 75) d_X11_ray_65 (by decide) ?_
    exact zx_weak (zw_leS (zw_leN (zw_leN (zw_leS (zw_leS (zw_leS (zw_leS (zw_leS (zw_leS (zw_leN zw_leZ)))))))))) (j_X11_ray_75_ok X P v0 v3 v4 v5 v6 v7 v8 v5 0 (I (R v0 28) (Int32.toNatClampNeg v7)) I R J _ hf hk)
def f_X11_ray (v0 : Nat) (v1 : Int32) (v2 : Int32) (v3 : Int32) (v4 : Int32) (v5 : Int32) (v6 : Int32) (I : zI) (R : zR) : Option (Int32 × zI) :=
  zw_g (zw_gc v0 11) ((f_X11_cutRow v0 v1 I R).bind fun q2 => ((f_X11_stuffRow v0 v2 I R).bind fun q3 => (if q2 = (-1) then some ((-1), I) else if q3 = (-1) then some ((-1), I) else (f_X11_isColour v3).bind fun q6 => (if q6 = 0 then some ((-1), I) else if v4 = 0 then j_X11_ray_50 v0 v3 v4 v5 v6 q2 q3 I R else if v4 = 1 then j_X11_ray_50 v0 v3 v4 v5 v6 q2 q3 I R else if ¬ v4 = 3 then some ((-1), I) else j_X11_ray_50 v0 v3 v4 v5 v6 q2 q3 I R))))
theorem c_X11_ray (X : zw_X) (v0 : Nat) (v1 : Int32) (v2 : Int32) (v3 : Int32) (v4 : Int32) (v5 : Int32) (v6 : Int32) (I : zI) (R : zR) (J : zJ) {P : Option Value → aS → Prop} (o : Int32 × zI) (hf : f_X11_ray v0 v1 v2 v3 v4 v5 v6 I R = some o) (hk : P (some (.int o.1)) (o.2, R, J)) : zw_C X M_X11_ray 4 0 0 199 [.ref v0, .int v1, .int v2, .int v3, .int v4, .int v5, .int v6] (I, R, J) P := by
  show zy_V X M_X11_ray 4 P 0 [.ref v0, .int v1, .int v2, .int v3, .int v4, .int v5, .int v6, .null, .null, .null] [] (I, R, J)
  unfold f_X11_ray at hf
  refine zv_aload_n (pc := 0) d_X11_ray_0 rfl ?_
  refine zv_iload_n (pc := 1) d_X11_ray_1 rfl ?_
  obtain ⟨g1, hf⟩ := zw_gcE hf (by decide)
  obtain ⟨q2, hq2, hf⟩ := zw_bdE hf
  refine zx_callV (pc := 2) (As := [.int v1]) (o := v0) (st := []) (d2 := 1) (M2 := M_X11_cutRow) (P2 := (fun r S => r = (some (.int q2)) ∧ S = (I, R, J))) d_X11_ray_2 (zw_mG (List.mem_of_getElem? (i := 1525) (by decide +kernel)) rfl) ce_X11_cutRow (zw_RvK g1 rfl rfl) (Nat.le_of_ble_eq_true rfl) rfl (Nat.le_of_ble_eq_true rfl) (by decide) (c_X11_cutRow X v0 v1 I R J _ hq2 ⟨rfl, rfl⟩) ?_
  rintro _ _ ⟨rfl, rfl⟩
  show zy_V X M_X11_ray 4 P (2 + 3) [.ref v0, .int v1, .int v2, .int v3, .int v4, .int v5, .int v6, .null, .null, .null] [.int q2] (I, R, J)
  refine zx_istore (pc := 5) (x2 := q2) (L2 := [.ref v0, .int v1, .int v2, .int v3, .int v4, .int v5, .int v6, .int q2, .null, .null]) d_X11_ray_5 (by decide) rfl rfl ?_
  refine zv_aload_n (pc := 7) d_X11_ray_7 rfl ?_
  refine zv_iload_n (pc := 8) d_X11_ray_8 rfl ?_
  obtain ⟨q3, hq3, hf⟩ := zw_bdE hf
  refine zx_callV (pc := 9) (As := [.int v2]) (o := v0) (st := []) (d2 := 1) (M2 := M_X11_stuffRow) (P2 := (fun r S => r = (some (.int q3)) ∧ S = (I, R, J))) d_X11_ray_9 (zw_mG (List.mem_of_getElem? (i := 1552) (by decide +kernel)) rfl) ce_X11_stuffRow (zw_RvK g1 rfl rfl) (Nat.le_of_ble_eq_true rfl) rfl (Nat.le_of_ble_eq_true rfl) (by decide) (c_X11_stuffRow X v0 v2 I R J _ hq3 ⟨rfl, rfl⟩) ?_
  rintro _ _ ⟨rfl, rfl⟩
  show zy_V X M_X11_ray 4 P (9 + 3) [.ref v0, .int v1, .int v2, .int v3, .int v4, .int v5, .int v6, .int q2, .null, .null] [.int q3] (I, R, J)
  refine zx_istore (pc := 12) (x2 := q3) (L2 := [.ref v0, .int v1, .int v2, .int v3, .int v4, .int v5, .int v6, .int q2, .int q3, .null]) d_X11_ray_12 (by decide) rfl rfl ?_
  refine zv_iload (pc := 14) d_X11_ray_14 rfl ?_
  refine zv_iconst (pc := 16) d_X11_ray_16 zc_i_m1 ?_
  rcases zw_ifE hf with ⟨c4, hf⟩ | ⟨c4, hf⟩
  · refine zv_icmp_eq (pc := 17) (tg := 95) d_X11_ray_17 (by decide) (fun _ => ?_) (fun q => absurd c4 q)
    refine zv_iconst (pc := 95) d_X11_ray_95 zc_i_m1 ?_
    cases hf
    exact zx_iret (pc := 96) d_X11_ray_96 rfl hk
  · refine zv_icmp_eq (pc := 17) (tg := 95) d_X11_ray_17 (by decide) (fun q => absurd q c4) (fun _ => ?_)
    refine zv_iload (pc := 20) d_X11_ray_20 rfl ?_
    refine zv_iconst (pc := 22) d_X11_ray_22 zc_i_m1 ?_
    rcases zw_ifE hf with ⟨c5, hf⟩ | ⟨c5, hf⟩
    · refine zv_icmp_eq (pc := 23) (tg := 95) d_X11_ray_23 (by decide) (fun _ => ?_) (fun q => absurd c5 q)
      refine zv_iconst (pc := 95) d_X11_ray_95 zc_i_m1 ?_
      cases hf
      exact zx_iret (pc := 96) d_X11_ray_96 rfl hk
    · refine zv_icmp_eq (pc := 23) (tg := 95) d_X11_ray_23 (by decide) (fun q => absurd q c5) (fun _ => ?_)
      refine zv_iload_n (pc := 26) d_X11_ray_26 rfl ?_
      obtain ⟨q6, hq6, hf⟩ := zw_bdE hf
      refine zx_callS (pc := 27) (As := [.int v3]) (st := []) (d2 := 0) (M2 := M_X11_isColour) (P2 := (fun r S => r = (some (.int q6)) ∧ S = (I, R, J))) d_X11_ray_27 (zw_mG (List.mem_of_getElem? (i := 1556) (by decide +kernel)) rfl) ce_X11_isColour (Nat.le_of_ble_eq_true rfl) rfl (Nat.le_of_ble_eq_true rfl) (by decide) (c_X11_isColour X v3 I R J _ hq6 ⟨rfl, rfl⟩) ?_
      rintro _ _ ⟨rfl, rfl⟩
      show zy_V X M_X11_ray 4 P (27 + 3) [.ref v0, .int v1, .int v2, .int v3, .int v4, .int v5, .int v6, .int q2, .int q3, .null] [.int q6] (I, R, J)
      rcases zw_ifE hf with ⟨c7, hf⟩ | ⟨c7, hf⟩
      · refine zv_if_eq (pc := 30) (tg := 95) d_X11_ray_30 (by decide) (fun _ => ?_) (fun q => absurd c7 q)
        refine zv_iconst (pc := 95) d_X11_ray_95 zc_i_m1 ?_
        cases hf
        exact zx_iret (pc := 96) d_X11_ray_96 rfl hk
      · refine zv_if_eq (pc := 30) (tg := 95) d_X11_ray_30 (by decide) (fun q => absurd q c7) (fun _ => ?_)
        refine zv_iload (pc := 33) d_X11_ray_33 rfl ?_
        rcases zw_ifE hf with ⟨c8, hf⟩ | ⟨c8, hf⟩
        · refine zv_if_eq (pc := 35) (tg := 50) d_X11_ray_35 (by decide) (fun _ => ?_) (fun q => absurd c8 q)
          exact zx_weak (zw_leS (zw_leN (zw_leN (zw_leS (zw_leS (zw_leS (zw_leS (zw_leS (zw_leS (zw_leN zw_leZ)))))))))) (j_X11_ray_50_ok X P v0 v3 v4 v5 v6 q2 q3 I R J _ hf hk)
        · refine zv_if_eq (pc := 35) (tg := 50) d_X11_ray_35 (by decide) (fun q => absurd q c8) (fun _ => ?_)
          refine zv_iload (pc := 38) d_X11_ray_38 rfl ?_
          refine zv_iconst (pc := 40) d_X11_ray_40 zc_i_1 ?_
          rcases zw_ifE hf with ⟨c50, hf⟩ | ⟨c50, hf⟩
          · refine zv_icmp_eq (pc := 41) (tg := 50) d_X11_ray_41 (by decide) (fun _ => ?_) (fun q => absurd c50 q)
            exact zx_weak (zw_leS (zw_leN (zw_leN (zw_leS (zw_leS (zw_leS (zw_leS (zw_leS (zw_leS (zw_leN zw_leZ)))))))))) (j_X11_ray_50_ok X P v0 v3 v4 v5 v6 q2 q3 I R J _ hf hk)
          · refine zv_icmp_eq (pc := 41) (tg := 50) d_X11_ray_41 (by decide) (fun q => absurd q c50) (fun _ => ?_)
            refine zv_iload (pc := 44) d_X11_ray_44 rfl ?_
            refine zv_iconst (pc := 46) d_X11_ray_46 zc_i_3 ?_
            rcases zw_ifE hf with ⟨c51, hf⟩ | ⟨c51, hf⟩
            · refine zv_icmp_ne (pc := 47) (tg := 95) d_X11_ray_47 (by decide) (fun _ => ?_) (fun q => absurd q c51)
              refine zv_iconst (pc := 95) d_X11_ray_95 zc_i_m1 ?_
              cases hf
              exact zx_iret (pc := 96) d_X11_ray_96 rfl hk
            · refine zv_icmp_ne (pc := 47) (tg := 95) d_X11_ray_47 (by decide) (fun q => absurd q c51) (fun _ => ?_)
              exact zx_weak (zw_leS (zw_leN (zw_leN (zw_leS (zw_leS (zw_leS (zw_leS (zw_leS (zw_leS (zw_leN zw_leZ)))))))))) (j_X11_ray_50_ok X P v0 v3 v4 v5 v6 q2 q3 I R J _ hf hk)
