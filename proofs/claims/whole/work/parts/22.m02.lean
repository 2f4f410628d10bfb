abbrev M_X11_emit : zw_M := (⟨"CutStonesModel", "emit", "(II)V"⟩, prog_13_method_29_code, 3, (Option.none : Option Jvm.ClassFile.FieldType))
theorem d_X11_emit_0 : decode M_X11_emit.2.1 0 = .ok (.aload_n 0, 1) := by decide +kernel
theorem d_X11_emit_1 : decode M_X11_emit.2.1 1 = .ok (.getfield 110, 3) := by decide +kernel
theorem d_X11_emit_4 : decode M_X11_emit.2.1 4 = .ok (.aload_n 0, 1) := by decide +kernel
theorem d_X11_emit_5 : decode M_X11_emit.2.1 5 = .ok (.getfield 257, 3) := by decide +kernel
theorem d_X11_emit_8 : decode M_X11_emit.2.1 8 = .ok (.iload_n 1, 1) := by decide +kernel
theorem d_X11_emit_9 : decode M_X11_emit.2.1 9 = .ok (.iastore, 1) := by decide +kernel
theorem d_X11_emit_10 : decode M_X11_emit.2.1 10 = .ok (.aload_n 0, 1) := by decide +kernel
theorem d_X11_emit_11 : decode M_X11_emit.2.1 11 = .ok (.getfield 113, 3) := by decide +kernel
theorem d_X11_emit_14 : decode M_X11_emit.2.1 14 = .ok (.aload_n 0, 1) := by decide +kernel
theorem d_X11_emit_15 : decode M_X11_emit.2.1 15 = .ok (.getfield 257, 3) := by decide +kernel
theorem d_X11_emit_18 : decode M_X11_emit.2.1 18 = .ok (.iload_n 2, 1) := by decide +kernel
theorem d_X11_emit_19 : decode M_X11_emit.2.1 19 = .ok (.iastore, 1) := by decide +kernel
theorem d_X11_emit_20 : decode M_X11_emit.2.1 20 = .ok (.aload_n 0, 1) := by decide +kernel
theorem d_X11_emit_21 : decode M_X11_emit.2.1 21 = .ok (.dup, 1) := by decide +kernel
theorem d_X11_emit_22 : decode M_X11_emit.2.1 22 = .ok (.getfield 257, 3) := by decide +kernel
theorem d_X11_emit_25 : decode M_X11_emit.2.1 25 = .ok (.iconst 1, 1) := by decide +kernel
theorem d_X11_emit_26 : decode M_X11_emit.2.1 26 = .ok (.iadd, 1) := by decide +kernel
theorem d_X11_emit_27 : decode M_X11_emit.2.1 27 = .ok (.putfield 257, 3) := by decide +kernel
theorem d_X11_emit_30 : decode M_X11_emit.2.1 30 = .ok (.return_, 1) := by decide +kernel
theorem ce_X11_emit : zw_CeV M_X11_emit 2 := ⟨⟨⟨by decide +kernel, by decide +kernel, by decide +kernel⟩, (zw_mG (List.mem_of_getElem? (i := 1497) (by decide +kernel)) rfl), (zw_mG (List.mem_of_getElem? (i := 108) (by decide +kernel)) rfl), by decide, by decide +kernel⟩, (zw_mG (List.mem_of_getElem? (i := 1496) (by decide +kernel)) rfl), (zw_mG (List.mem_of_getElem? (i := 67) (by decide +kernel)) rfl)⟩
def f_X11_emit (v0 : Nat) (v1 : Int32) (v2 : Int32) (I : zI) (R : zR) : Option (zI) :=
  zw_g (zw_gc v0 11) (zw_g (zw_gc (R v0 45) 13) (zw_g (zw_in (I v0 44) (zw_SH (R v0 45)).2) (zw_let (zw_u I (R v0 45) (Int32.toNatClampNeg (I v0 44)) v1 : zI) fun I4 => (zw_g (zw_gc (R v0 46) 13) (zw_g (zw_in (I4 v0 44) (zw_SH (R v0 46)).2) (zw_let (zw_u I4 (R v0 46) (Int32.toNatClampNeg (I4 v0 44)) v2 : zI) fun I7 => (zw_let (zw_u I7 v0 44 ((I7 v0 44) + 1) : zI) fun I8 => (some I8))))))))
theorem c_X11_emit (X : zw_X) (v0 : Nat) (v1 : Int32) (v2 : Int32) (I : zI) (R : zR) (J : zJ) {P : Option Value → aS → Prop} (o : zI) (hf : f_X11_emit v0 v1 v2 I R = some o) (hk : P none (o, R, J)) : zw_C X M_X11_emit 0 0 0 199 [.ref v0, .int v1, .int v2] (I, R, J) P := by
  show zy_V X M_X11_emit 0 P 0 [.ref v0, .int v1, .int v2] [] (I, R, J)
  unfold f_X11_emit at hf
  refine zv_aload_n (pc := 0) d_X11_emit_0 rfl ?_
  obtain ⟨g1, hf⟩ := zw_gcE hf (by decide)
  obtain ⟨g2, hf⟩ := zw_gcE hf (by decide)
  refine zx_getR (pc := 1) d_X11_emit_1 lk_CutStonesModel_110 (by decide) g1 g2 ?_
  refine zv_aload_n (pc := 4) d_X11_emit_4 rfl ?_
  refine zx_getI (pc := 5) d_X11_emit_5 lk_CutStonesModel_257 (by decide) g1 ?_
  refine zv_iload_n (pc := 8) d_X11_emit_8 rfl ?_
  obtain ⟨i3, hf⟩ := zw_inE hf
  obtain ⟨I4, eI4, hf⟩ := zw_letE hf
  refine zx_iast (pc := 9) (I2 := I4) d_X11_emit_9 g2 i3 eI4 ?_
  refine zv_aload_n (pc := 10) d_X11_emit_10 rfl ?_
  obtain ⟨g5, hf⟩ := zw_gcE hf (by decide)
  refine zx_getR (pc := 11) d_X11_emit_11 lk_CutStonesModel_113 (by decide) g1 g5 ?_
  refine zv_aload_n (pc := 14) d_X11_emit_14 rfl ?_
  refine zx_getI (pc := 15) d_X11_emit_15 lk_CutStonesModel_257 (by decide) g1 ?_
  refine zv_iload_n (pc := 18) d_X11_emit_18 rfl ?_
  obtain ⟨i6, hf⟩ := zw_inE hf
  obtain ⟨I7, eI7, hf⟩ := zw_letE hf
  refine zx_iast (pc := 19) (I2 := I7) d_X11_emit_19 g5 i6 eI7 ?_
  refine zv_aload_n (pc := 20) d_X11_emit_20 rfl ?_
  refine zv_dup (pc := 21) d_X11_emit_21 rfl ?_
  refine zx_getI (pc := 22) d_X11_emit_22 lk_CutStonesModel_257 (by decide) g1 ?_
  refine zv_iconst (pc := 25) d_X11_emit_25 zc_i_1 ?_
  refine zv_iadd (pc := 26) d_X11_emit_26 ?_
  obtain ⟨I8, eI8, hf⟩ := zw_letE hf
  refine zx_putI (pc := 27) (I2 := I8) d_X11_emit_27 lk_CutStonesModel_257 rfl g1 eI8 ?_
  cases hf
  exact zx_vret (pc := 30) d_X11_emit_30 rfl hk
abbrev M_X11_fail : zw_M := (⟨"CutStonesModel", "fail", "(I)V"⟩, prog_13_method_16_code, 2, (Option.none : Option Jvm.ClassFile.FieldType))
theorem d_X11_fail_0 : decode M_X11_fail.2.1 0 = .ok (.aload_n 0, 1) := by decide +kernel
theorem d_X11_fail_1 : decode M_X11_fail.2.1 1 = .ok (.getfield 218, 3) := by decide +kernel
theorem d_X11_fail_4 : decode M_X11_fail.2.1 4 = .ok (.ifCond .le 4, 3) := by decide +kernel
theorem d_X11_fail_7 : decode M_X11_fail.2.1 7 = .ok (.return_, 1) := by decide +kernel
theorem d_X11_fail_8 : decode M_X11_fail.2.1 8 = .ok (.aload_n 0, 1) := by decide +kernel
theorem d_X11_fail_9 : decode M_X11_fail.2.1 9 = .ok (.iload_n 1, 1) := by decide +kernel
theorem d_X11_fail_10 : decode M_X11_fail.2.1 10 = .ok (.putfield 218, 3) := by decide +kernel
theorem d_X11_fail_13 : decode M_X11_fail.2.1 13 = .ok (.aload_n 0, 1) := by decide +kernel
theorem d_X11_fail_14 : decode M_X11_fail.2.1 14 = .ok (.aload_n 0, 1) := by decide +kernel
theorem d_X11_fail_15 : decode M_X11_fail.2.1 15 = .ok (.getfield 24, 3) := by decide +kernel
theorem d_X11_fail_18 : decode M_X11_fail.2.1 18 = .ok (.aload_n 0, 1) := by decide +kernel
theorem d_X11_fail_19 : decode M_X11_fail.2.1 19 = .ok (.getfield 221, 3) := by decide +kernel
theorem d_X11_fail_22 : decode M_X11_fail.2.1 22 = .ok (.iaload, 1) := by decide +kernel
theorem d_X11_fail_23 : decode M_X11_fail.2.1 23 = .ok (.putfield 224, 3) := by decide +kernel
theorem d_X11_fail_26 : decode M_X11_fail.2.1 26 = .ok (.return_, 1) := by decide +kernel
theorem ce_X11_fail : zw_CeV M_X11_fail 1 := ⟨⟨⟨by decide +kernel, by decide +kernel, by decide +kernel⟩, (zw_mG (List.mem_of_getElem? (i := 1453) (by decide +kernel)) rfl), (zw_mG (List.mem_of_getElem? (i := 108) (by decide +kernel)) rfl), by decide, by decide +kernel⟩, (zw_mG (List.mem_of_getElem? (i := 1452) (by decide +kernel)) rfl), (zw_mG (List.mem_of_getElem? (i := 56) (by decide +kernel)) rfl)⟩
def f_X11_fail (v0 : Nat) (v1 : Int32) (I : zI) (R : zR) : Option (zI) :=
  zw_g (zw_gc v0 11) (if (I v0 13) ≤ 0 then zw_let (zw_u I v0 13 v1 : zI) fun I3 => (zw_g (zw_gc (R v0 6) 13) (zw_g (zw_in (I3 v0 11) (zw_SH (R v0 6)).2) (zw_let (zw_u I3 v0 14 (I3 (R v0 6) (Int32.toNatClampNeg (I3 v0 11))) : zI) fun I6 => (some I6)))) else some I)
theorem c_X11_fail (X : zw_X) (v0 : Nat) (v1 : Int32) (I : zI) (R : zR) (J : zJ) {P : Option Value → aS → Prop} (o : zI) (hf : f_X11_fail v0 v1 I R = some o) (hk : P none (o, R, J)) : zw_C X M_X11_fail 0 0 0 199 [.ref v0, .int v1] (I, R, J) P := by
  show zy_V X M_X11_fail 0 P 0 [.ref v0, .int v1] [] (I, R, J)
  unfold f_X11_fail at hf
  refine zv_aload_n (pc := 0) d_X11_fail_0 rfl ?_
  obtain ⟨g1, hf⟩ := zw_gcE hf (by decide)
  refine zx_getI (pc := 1) d_X11_fail_1 lk_CutStonesModel_218 (by decide) g1 ?_
  rcases zw_ifE hf with ⟨c2, hf⟩ | ⟨c2, hf⟩
  · refine zv_if_le (pc := 4) (tg := 8) d_X11_fail_4 (by decide) (fun _ => ?_) (fun q => absurd c2 q)
    refine zv_aload_n (pc := 8) d_X11_fail_8 rfl ?_
    refine zv_iload_n (pc := 9) d_X11_fail_9 rfl ?_
    obtain ⟨I3, eI3, hf⟩ := zw_letE hf
    refine zx_putI (pc := 10) (I2 := I3) d_X11_fail_10 lk_CutStonesModel_218 rfl g1 eI3 ?_
    refine zv_aload_n (pc := 13) d_X11_fail_13 rfl ?_
    refine zv_aload_n (pc := 14) d_X11_fail_14 rfl ?_
    obtain ⟨g4, hf⟩ := zw_gcE hf (by decide)
    refine zx_getR (pc := 15) d_X11_fail_15 lk_CutStonesModel_24 (by decide) g1 g4 ?_
    refine zv_aload_n (pc := 18) d_X11_fail_18 rfl ?_
    refine zx_getI (pc := 19) d_X11_fail_19 lk_CutStonesModel_221 (by decide) g1 ?_
    obtain ⟨i5, hf⟩ := zw_inE hf
    refine zx_iald (pc := 22) d_X11_fail_22 g4 i5 ?_
    obtain ⟨I6, eI6, hf⟩ := zw_letE hf
    refine zx_putI (pc := 23) (I2 := I6) d_X11_fail_23 lk_CutStonesModel_224 rfl g1 eI6 ?_
    cases hf
    exact zx_vret (pc := 26) d_X11_fail_26 rfl hk
  · refine zv_if_le (pc := 4) (tg := 8) d_X11_fail_4 (by decide) (fun q => absurd q c2) (fun _ => ?_)
    cases hf
    exact zx_vret (pc := 7) d_X11_fail_7 rfl hk
abbrev M_X11_goesOut : zw_M := (⟨"CutStonesModel", "goesOut", "(III)V"⟩, prog_13_method_44_code, 4, (Option.none : Option Jvm.ClassFile.FieldType))
theorem d_X11_goesOut_0 : decode M_X11_goesOut.2.1 0 = .ok (.aload_n 0, 1) := by decide +kernel
theorem d_X11_goesOut_1 : decode M_X11_goesOut.2.1 1 = .ok (.getfield 125, 3) := by decide +kernel
theorem d_X11_goesOut_4 : decode M_X11_goesOut.2.1 4 = .ok (.iload_n 1, 1) := by decide +kernel
theorem d_X11_goesOut_5 : decode M_X11_goesOut.2.1 5 = .ok (.dup2, 1) := by decide +kernel
theorem d_X11_goesOut_6 : decode M_X11_goesOut.2.1 6 = .ok (.iaload, 1) := by decide +kernel
theorem d_X11_goesOut_7 : decode M_X11_goesOut.2.1 7 = .ok (.iload_n 3, 1) := by decide +kernel
theorem d_X11_goesOut_8 : decode M_X11_goesOut.2.1 8 = .ok (.iadd, 1) := by decide +kernel
theorem d_X11_goesOut_9 : decode M_X11_goesOut.2.1 9 = .ok (.iastore, 1) := by decide +kernel
theorem d_X11_goesOut_10 : decode M_X11_goesOut.2.1 10 = .ok (.iload_n 1, 1) := by decide +kernel
theorem d_X11_goesOut_11 : decode M_X11_goesOut.2.1 11 = .ok (.ifCond .ne 13, 3) := by decide +kernel
theorem d_X11_goesOut_14 : decode M_X11_goesOut.2.1 14 = .ok (.aload_n 0, 1) := by decide +kernel
theorem d_X11_goesOut_15 : decode M_X11_goesOut.2.1 15 = .ok (.getfield 128, 3) := by decide +kernel
theorem d_X11_goesOut_18 : decode M_X11_goesOut.2.1 18 = .ok (.iload_n 2, 1) := by decide +kernel
theorem d_X11_goesOut_19 : decode M_X11_goesOut.2.1 19 = .ok (.dup2, 1) := by decide +kernel
theorem d_X11_goesOut_20 : decode M_X11_goesOut.2.1 20 = .ok (.iaload, 1) := by decide +kernel
theorem d_X11_goesOut_21 : decode M_X11_goesOut.2.1 21 = .ok (.iload_n 3, 1) := by decide +kernel
theorem d_X11_goesOut_22 : decode M_X11_goesOut.2.1 22 = .ok (.iadd, 1) := by decide +kernel
theorem d_X11_goesOut_23 : decode M_X11_goesOut.2.1 23 = .ok (.iastore, 1) := by decide +kernel
theorem d_X11_goesOut_24 : decode M_X11_goesOut.2.1 24 = .ok (.return_, 1) := by decide +kernel
theorem ce_X11_goesOut : zw_CeV M_X11_goesOut 3 := ⟨⟨⟨by decide +kernel, by decide +kernel, by decide +kernel⟩, (zw_mG (List.mem_of_getElem? (i := 1590) (by decide +kernel)) rfl), (zw_mG (List.mem_of_getElem? (i := 108) (by decide +kernel)) rfl), by decide, by decide +kernel⟩, (zw_mG (List.mem_of_getElem? (i := 1589) (by decide +kernel)) rfl), (zw_mG (List.mem_of_getElem? (i := 79) (by decide +kernel)) rfl)⟩
def f_X11_goesOut (v0 : Nat) (v1 : Int32) (v2 : Int32) (v3 : Int32) (I : zI) (R : zR) : Option (zI) :=
  zw_g (zw_gc v0 11) (zw_g (zw_gc (R v0 52) 13) (zw_g (zw_in v1 (zw_SH (R v0 52)).2) (zw_g (zw_in v1 (zw_SH (R v0 52)).2) (zw_let (zw_u I (R v0 52) (Int32.toNatClampNeg v1) ((I (R v0 52) (Int32.toNatClampNeg v1)) + v3) : zI) fun I5 => (if ¬ v1 = 0 then some I5 else zw_g (zw_gc (R v0 53) 13) (zw_g (zw_in v2 (zw_SH (R v0 53)).2) (zw_g (zw_in v2 (zw_SH (R v0 53)).2) (zw_let (zw_u I5 (R v0 53) (Int32.toNatClampNeg v2) ((I5 (R v0 53) (Int32.toNatClampNeg v2)) + v3) : zI) fun I10 => (some I10)))))))))
theorem c_X11_goesOut (X : zw_X) (v0 : Nat) (v1 : Int32) (v2 : Int32) (v3 : Int32) (I : zI) (R : zR) (J : zJ) {P : Option Value → aS → Prop} (o : zI) (hf : f_X11_goesOut v0 v1 v2 v3 I R = some o) (hk : P none (o, R, J)) : zw_C X M_X11_goesOut 0 0 0 199 [.ref v0, .int v1, .int v2, .int v3] (I, R, J) P := by
  show zy_V X M_X11_goesOut 0 P 0 [.ref v0, .int v1, .int v2, .int v3] [] (I, R, J)
  unfold f_X11_goesOut at hf
  refine zv_aload_n (pc := 0) d_X11_goesOut_0 rfl ?_
  obtain ⟨g1, hf⟩ := zw_gcE hf (by decide)
  obtain ⟨g2, hf⟩ := zw_gcE hf (by decide)
  refine zx_getR (pc := 1) d_X11_goesOut_1 lk_CutStonesModel_125 (by decide) g1 g2 ?_
  refine zv_iload_n (pc := 4) d_X11_goesOut_4 rfl ?_
  refine zv_dup2 (pc := 5) d_X11_goesOut_5 rfl rfl ?_
  obtain ⟨i3, hf⟩ := zw_inE hf
  refine zx_iald (pc := 6) d_X11_goesOut_6 g2 i3 ?_
  refine zv_iload_n (pc := 7) d_X11_goesOut_7 rfl ?_
  refine zv_iadd (pc := 8) d_X11_goesOut_8 ?_
  obtain ⟨i4, hf⟩ := zw_inE hf
  obtain ⟨I5, eI5, hf⟩ := zw_letE hf
  refine zx_iast (pc := 9) (I2 := I5) d_X11_goesOut_9 g2 i4 eI5 ?_
  refine zv_iload_n (pc := 10) d_X11_goesOut_10 rfl ?_
  rcases zw_ifE hf with ⟨c6, hf⟩ | ⟨c6, hf⟩
  · refine zv_if_ne (pc := 11) (tg := 24) d_X11_goesOut_11 (by decide) (fun _ => ?_) (fun q => absurd q c6)
    cases hf
    exact zx_vret (pc := 24) d_X11_goesOut_24 rfl hk
  · refine zv_if_ne (pc := 11) (tg := 24) d_X11_goesOut_11 (by decide) (fun q => absurd q c6) (fun _ => ?_)
    refine zv_aload_n (pc := 14) d_X11_goesOut_14 rfl ?_
    obtain ⟨g7, hf⟩ := zw_gcE hf (by decide)
    refine zx_getR (pc := 15) d_X11_goesOut_15 lk_CutStonesModel_128 (by decide) g1 g7 ?_
    refine zv_iload_n (pc := 18) d_X11_goesOut_18 rfl ?_
    refine zv_dup2 (pc := 19) d_X11_goesOut_19 rfl rfl ?_
    obtain ⟨i8, hf⟩ := zw_inE hf
    refine zx_iald (pc := 20) d_X11_goesOut_20 g7 i8 ?_
    refine zv_iload_n (pc := 21) d_X11_goesOut_21 rfl ?_
    refine zv_iadd (pc := 22) d_X11_goesOut_22 ?_
    obtain ⟨i9, hf⟩ := zw_inE hf
    obtain ⟨I10, eI10, hf⟩ := zw_letE hf
    refine zx_iast (pc := 23) (I2 := I10) d_X11_goesOut_23 g7 i9 eI10 ?_
    cases hf
    exact zx_vret (pc := 24) d_X11_goesOut_24 rfl hk
abbrev M_X11_in : zw_M := (⟨"CutStonesModel", "in", "(III)Z"⟩, prog_13_method_36_code, 3, (Option.some Jvm.ClassFile.FieldType.boolean))
theorem d_X11_in_0 : decode M_X11_in.2.1 0 = .ok (.iload_n 0, 1) := by decide +kernel
theorem d_X11_in_1 : decode M_X11_in.2.1 1 = .ok (.iload_n 1, 1) := by decide +kernel
theorem d_X11_in_2 : decode M_X11_in.2.1 2 = .ok (.if_icmp .lt 12, 3) := by decide +kernel
theorem d_X11_in_5 : decode M_X11_in.2.1 5 = .ok (.iload_n 0, 1) := by decide +kernel
theorem d_X11_in_6 : decode M_X11_in.2.1 6 = .ok (.iload_n 2, 1) := by decide +kernel
theorem d_X11_in_7 : decode M_X11_in.2.1 7 = .ok (.if_icmp .gt 7, 3) := by decide +kernel
theorem d_X11_in_10 : decode M_X11_in.2.1 10 = .ok (.iconst 1, 1) := by decide +kernel
theorem d_X11_in_11 : decode M_X11_in.2.1 11 = .ok (.goto 4, 3) := by decide +kernel
theorem d_X11_in_14 : decode M_X11_in.2.1 14 = .ok (.iconst 0, 1) := by decide +kernel
theorem d_X11_in_15 : decode M_X11_in.2.1 15 = .ok (.ireturn, 1) := by decide +kernel
theorem ce_X11_in : zw_CeS M_X11_in 3 := ⟨⟨⟨by decide +kernel, by decide +kernel, by decide +kernel⟩, (zw_mG (List.mem_of_getElem? (i := 1524) (by decide +kernel)) rfl), (zw_mG (List.mem_of_getElem? (i := 108) (by decide +kernel)) rfl), by decide, by decide +kernel⟩, (zw_mG (List.mem_of_getElem? (i := 1523) (by decide +kernel)) rfl)⟩
def f_X11_in (v0 : Int32) (v1 : Int32) (v2 : Int32)  : Option (Int32) :=
  if v0 < v1 then some 0 else if v2 < v0 then some 0 else some 1
theorem c_X11_in (X : zw_X) (v0 : Int32) (v1 : Int32) (v2 : Int32) (I : zI) (R : zR) (J : zJ) {P : Option Value → aS → Prop} (o : Int32) (hf : f_X11_in v0 v1 v2  = some o) (hk : P (some (.int o)) (I, R, J)) : zw_C X M_X11_in 0 0 0 199 [.int v0, .int v1, .int v2] (I, R, J) P := by
  show zy_V X M_X11_in 0 P 0 [.int v0, .int v1, .int v2] [] (I, R, J)
  unfold f_X11_in at hf
  refine zv_iload_n (pc := 0) d_X11_in_0 rfl ?_
  refine zv_iload_n (pc := 1) d_X11_in_1 rfl ?_
  rcases zw_ifE hf with ⟨c1, hf⟩ | ⟨c1, hf⟩
  · refine zv_icmp_lt (pc := 2) (tg := 14) d_X11_in_2 (by decide) (fun _ => ?_) (fun q => absurd c1 q)
    refine zv_iconst (pc := 14) d_X11_in_14 zc_i_0 ?_
    cases hf
    exact zx_zret (pc := 15) d_X11_in_15 rfl (Or.inl rfl) hk
  · refine zv_icmp_lt (pc := 2) (tg := 14) d_X11_in_2 (by decide) (fun q => absurd q c1) (fun _ => ?_)
    refine zv_iload_n (pc := 5) d_X11_in_5 rfl ?_
    refine zv_iload_n (pc := 6) d_X11_in_6 rfl ?_
    rcases zw_ifE hf with ⟨c2, hf⟩ | ⟨c2, hf⟩
    · refine zv_icmp_gt (pc := 7) (tg := 14) d_X11_in_7 (by decide) (fun _ => ?_) (fun q => absurd c2 q)
      refine zv_iconst (pc := 14) d_X11_in_14 zc_i_0 ?_
      cases hf
      exact zx_zret (pc := 15) d_X11_in_15 rfl (Or.inl rfl) hk
    · refine zv_icmp_gt (pc := 7) (tg := 14) d_X11_in_7 (by decide) (fun q => absurd q c2) (fun _ => ?_)
      refine zv_iconst (pc := 10) d_X11_in_10 zc_i_1 ?_
      refine zv_goto (pc := 11) (tg := 15) d_X11_in_11 (by decide) ?_
      cases hf
      exact zx_zret (pc := 15) d_X11_in_15 rfl (Or.inr rfl) hk
abbrev M_X11_is : zw_M := (⟨"CutStonesModel", "is", "(I)Z"⟩, prog_13_method_15_code, 2, (Option.some Jvm.ClassFile.FieldType.boolean))
theorem d_X11_is_0 : decode M_X11_is.2.1 0 = .ok (.aload_n 0, 1) := by decide +kernel
theorem d_X11_is_1 : decode M_X11_is.2.1 1 = .ok (.getfield 218, 3) := by decide +kernel
theorem d_X11_is_4 : decode M_X11_is.2.1 4 = .ok (.ifCond .ne 20, 3) := by decide +kernel
theorem d_X11_is_7 : decode M_X11_is.2.1 7 = .ok (.aload_n 0, 1) := by decide +kernel
theorem d_X11_is_8 : decode M_X11_is.2.1 8 = .ok (.getfield 20, 3) := by decide +kernel
theorem d_X11_is_11 : decode M_X11_is.2.1 11 = .ok (.aload_n 0, 1) := by decide +kernel
theorem d_X11_is_12 : decode M_X11_is.2.1 12 = .ok (.getfield 221, 3) := by decide +kernel
theorem d_X11_is_15 : decode M_X11_is.2.1 15 = .ok (.iaload, 1) := by decide +kernel
theorem d_X11_is_16 : decode M_X11_is.2.1 16 = .ok (.iload_n 1, 1) := by decide +kernel
theorem d_X11_is_17 : decode M_X11_is.2.1 17 = .ok (.if_icmp .ne 7, 3) := by decide +kernel
theorem d_X11_is_20 : decode M_X11_is.2.1 20 = .ok (.iconst 1, 1) := by decide +kernel
theorem d_X11_is_21 : decode M_X11_is.2.1 21 = .ok (.goto 4, 3) := by decide +kernel
theorem d_X11_is_24 : decode M_X11_is.2.1 24 = .ok (.iconst 0, 1) := by decide +kernel
theorem d_X11_is_25 : decode M_X11_is.2.1 25 = .ok (.ireturn, 1) := by decide +kernel
theorem ce_X11_is : zw_CeV M_X11_is 1 := ⟨⟨⟨by decide +kernel, by decide +kernel, by decide +kernel⟩, (zw_mG (List.mem_of_getElem? (i := 1445) (by decide +kernel)) rfl), (zw_mG (List.mem_of_getElem? (i := 108) (by decide +kernel)) rfl), by decide, by decide +kernel⟩, (zw_mG (List.mem_of_getElem? (i := 1444) (by decide +kernel)) rfl), (zw_mG (List.mem_of_getElem? (i := 54) (by decide +kernel)) rfl)⟩
def f_X11_is (v0 : Nat) (v1 : Int32) (I : zI) (R : zR) : Option (Int32) :=
  zw_g (zw_gc v0 11) (if ¬ (I v0 13) = 0 then some 0 else zw_g (zw_gc (R v0 5) 13) (zw_g (zw_in (I v0 11) (zw_SH (R v0 5)).2) (if ¬ (I (R v0 5) (Int32.toNatClampNeg (I v0 11))) = v1 then some 0 else some 1)))
theorem c_X11_is (X : zw_X) (v0 : Nat) (v1 : Int32) (I : zI) (R : zR) (J : zJ) {P : Option Value → aS → Prop} (o : Int32) (hf : f_X11_is v0 v1 I R = some o) (hk : P (some (.int o)) (I, R, J)) : zw_C X M_X11_is 0 0 0 199 [.ref v0, .int v1] (I, R, J) P := by
  show zy_V X M_X11_is 0 P 0 [.ref v0, .int v1] [] (I, R, J)
  unfold f_X11_is at hf
  refine zv_aload_n (pc := 0) d_X11_is_0 rfl ?_
  obtain ⟨g1, hf⟩ := zw_gcE hf (by decide)
  refine zx_getI (pc := 1) d_X11_is_1 lk_CutStonesModel_218 (by decide) g1 ?_
  rcases zw_ifE hf with ⟨c2, hf⟩ | ⟨c2, hf⟩
  · refine zv_if_ne (pc := 4) (tg := 24) d_X11_is_4 (by decide) (fun _ => ?_) (fun q => absurd q c2)
    refine zv_iconst (pc := 24) d_X11_is_24 zc_i_0 ?_
    cases hf
    exact zx_zret (pc := 25) d_X11_is_25 rfl (Or.inl rfl) hk
  · refine zv_if_ne (pc := 4) (tg := 24) d_X11_is_4 (by decide) (fun q => absurd q c2) (fun _ => ?_)
    refine zv_aload_n (pc := 7) d_X11_is_7 rfl ?_
    obtain ⟨g3, hf⟩ := zw_gcE hf (by decide)
    refine zx_getR (pc := 8) d_X11_is_8 lk_CutStonesModel_20 (by decide) g1 g3 ?_
    refine zv_aload_n (pc := 11) d_X11_is_11 rfl ?_
    refine zx_getI (pc := 12) d_X11_is_12 lk_CutStonesModel_221 (by decide) g1 ?_
    obtain ⟨i4, hf⟩ := zw_inE hf
    refine zx_iald (pc := 15) d_X11_is_15 g3 i4 ?_
    refine zv_iload_n (pc := 16) d_X11_is_16 rfl ?_
    rcases zw_ifE hf with ⟨c5, hf⟩ | ⟨c5, hf⟩
    · refine zv_icmp_ne (pc := 17) (tg := 24) d_X11_is_17 (by decide) (fun _ => ?_) (fun q => absurd q c5)
      refine zv_iconst (pc := 24) d_X11_is_24 zc_i_0 ?_
      cases hf
      exact zx_zret (pc := 25) d_X11_is_25 rfl (Or.inl rfl) hk
    · refine zv_icmp_ne (pc := 17) (tg := 24) d_X11_is_17 (by decide) (fun q => absurd q c5) (fun _ => ?_)
      refine zv_iconst (pc := 20) d_X11_is_20 zc_i_1 ?_
      refine zv_goto (pc := 21) (tg := 25) d_X11_is_21 (by decide) ?_
      cases hf
      exact zx_zret (pc := 25) d_X11_is_25 rfl (Or.inr rfl) hk
abbrev M_X11_isColour : zw_M := (⟨"CutStonesModel", "isColour", "(I)Z"⟩, prog_13_method_56_code, 1, (Option.some Jvm.ClassFile.FieldType.boolean))
theorem d_X11_isColour_0 : decode M_X11_isColour.2.1 0 = .ok (.iload_n 0, 1) := by decide +kernel
theorem d_X11_isColour_1 : decode M_X11_isColour.2.1 1 = .ok (.ifCond .lt 12, 3) := by decide +kernel
theorem d_X11_isColour_4 : decode M_X11_isColour.2.1 4 = .ok (.iload_n 0, 1) := by decide +kernel
theorem d_X11_isColour_5 : decode M_X11_isColour.2.1 5 = .ok (.iconst 4, 1) := by decide +kernel
theorem d_X11_isColour_6 : decode M_X11_isColour.2.1 6 = .ok (.if_icmp .ge 7, 3) := by decide +kernel
theorem d_X11_isColour_9 : decode M_X11_isColour.2.1 9 = .ok (.iconst 1, 1) := by decide +kernel
theorem d_X11_isColour_10 : decode M_X11_isColour.2.1 10 = .ok (.goto 4, 3) := by decide +kernel
theorem d_X11_isColour_13 : decode M_X11_isColour.2.1 13 = .ok (.iconst 0, 1) := by decide +kernel
theorem d_X11_isColour_14 : decode M_X11_isColour.2.1 14 = .ok (.ireturn, 1) := by decide +kernel
theorem ce_X11_isColour : zw_CeS M_X11_isColour 1 := ⟨⟨⟨by decide +kernel, by decide +kernel, by decide +kernel⟩, (zw_mG (List.mem_of_getElem? (i := 1558) (by decide +kernel)) rfl), (zw_mG (List.mem_of_getElem? (i := 108) (by decide +kernel)) rfl), by decide, by decide +kernel⟩, (zw_mG (List.mem_of_getElem? (i := 1557) (by decide +kernel)) rfl)⟩
def f_X11_isColour (v0 : Int32)  : Option (Int32) :=
  if v0 < 0 then some 0 else if 4 ≤ v0 then some 0 else some 1
theorem c_X11_isColour (X : zw_X) (v0 : Int32) (I : zI) (R : zR) (J : zJ) {P : Option Value → aS → Prop} (o : Int32) (hf : f_X11_isColour v0  = some o) (hk : P (some (.int o)) (I, R, J)) : zw_C X M_X11_isColour 0 0 0 199 [.int v0] (I, R, J) P := by
  show zy_V X M_X11_isColour 0 P 0 [.int v0] [] (I, R, J)
  unfold f_X11_isColour at hf
  refine zv_iload_n (pc := 0) d_X11_isColour_0 rfl ?_
  rcases zw_ifE hf with ⟨c1, hf⟩ | ⟨c1, hf⟩
  · refine zv_if_lt (pc := 1) (tg := 13) d_X11_isColour_1 (by decide) (fun _ => ?_) (fun q => absurd c1 q)
    refine zv_iconst (pc := 13) d_X11_isColour_13 zc_i_0 ?_
    cases hf
    exact zx_zret (pc := 14) d_X11_isColour_14 rfl (Or.inl rfl) hk
  · refine zv_if_lt (pc := 1) (tg := 13) d_X11_isColour_1 (by decide) (fun q => absurd q c1) (fun _ => ?_)
    refine zv_iload_n (pc := 4) d_X11_isColour_4 rfl ?_
    refine zv_iconst (pc := 5) d_X11_isColour_5 zc_i_4 ?_
    rcases zw_ifE hf with ⟨c2, hf⟩ | ⟨c2, hf⟩
    · refine zv_icmp_ge (pc := 6) (tg := 13) d_X11_isColour_6 (by decide) (fun _ => ?_) (fun q => absurd c2 q)
      refine zv_iconst (pc := 13) d_X11_isColour_13 zc_i_0 ?_
      cases hf
      exact zx_zret (pc := 14) d_X11_isColour_14 rfl (Or.inl rfl) hk
    · refine zv_icmp_ge (pc := 6) (tg := 13) d_X11_isColour_6 (by decide) (fun q => absurd q c2) (fun _ => ?_)
      refine zv_iconst (pc := 9) d_X11_isColour_9 zc_i_1 ?_
      refine zv_goto (pc := 10) (tg := 14) d_X11_isColour_10 (by decide) ?_
      cases hf
      exact zx_zret (pc := 14) d_X11_isColour_14 rfl (Or.inr rfl) hk
abbrev M_X11_isDigit : zw_M := (⟨"CutStonesModel", "isDigit", "(I)Z"⟩, prog_13_method_7_code, 1, (Option.some Jvm.ClassFile.FieldType.boolean))
theorem d_X11_isDigit_0 : decode M_X11_isDigit.2.1 0 = .ok (.iload_n 0, 1) := by decide +kernel
theorem d_X11_isDigit_1 : decode M_X11_isDigit.2.1 1 = .ok (.bipush 48, 2) := by decide +kernel
theorem d_X11_isDigit_3 : decode M_X11_isDigit.2.1 3 = .ok (.if_icmp .lt 13, 3) := by decide +kernel
theorem d_X11_isDigit_6 : decode M_X11_isDigit.2.1 6 = .ok (.iload_n 0, 1) := by decide +kernel
theorem d_X11_isDigit_7 : decode M_X11_isDigit.2.1 7 = .ok (.bipush 57, 2) := by decide +kernel
theorem d_X11_isDigit_9 : decode M_X11_isDigit.2.1 9 = .ok (.if_icmp .gt 7, 3) := by decide +kernel
theorem d_X11_isDigit_12 : decode M_X11_isDigit.2.1 12 = .ok (.iconst 1, 1) := by decide +kernel
theorem d_X11_isDigit_13 : decode M_X11_isDigit.2.1 13 = .ok (.goto 4, 3) := by decide +kernel
theorem d_X11_isDigit_16 : decode M_X11_isDigit.2.1 16 = .ok (.iconst 0, 1) := by decide +kernel
theorem d_X11_isDigit_17 : decode M_X11_isDigit.2.1 17 = .ok (.ireturn, 1) := by decide +kernel
theorem ce_X11_isDigit : zw_CeS M_X11_isDigit 1 := ⟨⟨⟨by decide +kernel, by decide +kernel, by decide +kernel⟩, (zw_mG (List.mem_of_getElem? (i := 1437) (by decide +kernel)) rfl), (zw_mG (List.mem_of_getElem? (i := 108) (by decide +kernel)) rfl), by decide, by decide +kernel⟩, (zw_mG (List.mem_of_getElem? (i := 1436) (by decide +kernel)) rfl)⟩
def f_X11_isDigit (v0 : Int32)  : Option (Int32) :=
  if v0 < 48 then some 0 else if 57 < v0 then some 0 else some 1
theorem c_X11_isDigit (X : zw_X) (v0 : Int32) (I : zI) (R : zR) (J : zJ) {P : Option Value → aS → Prop} (o : Int32) (hf : f_X11_isDigit v0  = some o) (hk : P (some (.int o)) (I, R, J)) : zw_C X M_X11_isDigit 0 0 0 199 [.int v0] (I, R, J) P := by
  show zy_V X M_X11_isDigit 0 P 0 [.int v0] [] (I, R, J)
  unfold f_X11_isDigit at hf
  refine zv_iload_n (pc := 0) d_X11_isDigit_0 rfl ?_
  refine zv_bipush (pc := 1) d_X11_isDigit_1 zc_b_48 ?_
  rcases zw_ifE hf with ⟨c1, hf⟩ | ⟨c1, hf⟩
  · refine zv_icmp_lt (pc := 3) (tg := 16) d_X11_isDigit_3 (by decide) (fun _ => ?_) (fun q => absurd c1 q)
    refine zv_iconst (pc := 16) d_X11_isDigit_16 zc_i_0 ?_
    cases hf
    exact zx_zret (pc := 17) d_X11_isDigit_17 rfl (Or.inl rfl) hk
  · refine zv_icmp_lt (pc := 3) (tg := 16) d_X11_isDigit_3 (by decide) (fun q => absurd q c1) (fun _ => ?_)
    refine zv_iload_n (pc := 6) d_X11_isDigit_6 rfl ?_
    refine zv_bipush (pc := 7) d_X11_isDigit_7 zc_b_57 ?_
    rcases zw_ifE hf with ⟨c2, hf⟩ | ⟨c2, hf⟩
    · refine zv_icmp_gt (pc := 9) (tg := 16) d_X11_isDigit_9 (by decide) (fun _ => ?_) (fun q => absurd c2 q)
      refine zv_iconst (pc := 16) d_X11_isDigit_16 zc_i_0 ?_
      cases hf
      exact zx_zret (pc := 17) d_X11_isDigit_17 rfl (Or.inl rfl) hk
    · refine zv_icmp_gt (pc := 9) (tg := 16) d_X11_isDigit_9 (by decide) (fun q => absurd q c2) (fun _ => ?_)
      refine zv_iconst (pc := 12) d_X11_isDigit_12 zc_i_1 ?_
      refine zv_goto (pc := 13) (tg := 17) d_X11_isDigit_13 (by decide) ?_
      cases hf
      exact zx_zret (pc := 17) d_X11_isDigit_17 rfl (Or.inr rfl) hk
abbrev M_X11_isLetter : zw_M := (⟨"CutStonesModel", "isLetter", "(I)Z"⟩, prog_13_method_8_code, 1, (Option.some Jvm.ClassFile.FieldType.boolean))
theorem d_X11_isLetter_0 : decode M_X11_isLetter.2.1 0 = .ok (.iload_n 0, 1) := by decide +kernel
theorem d_X11_isLetter_1 : decode M_X11_isLetter.2.1 1 = .ok (.bipush 97, 2) := by decide +kernel
theorem d_X11_isLetter_3 : decode M_X11_isLetter.2.1 3 = .ok (.if_icmp .lt 13, 3) := by decide +kernel
theorem d_X11_isLetter_6 : decode M_X11_isLetter.2.1 6 = .ok (.iload_n 0, 1) := by decide +kernel
theorem d_X11_isLetter_7 : decode M_X11_isLetter.2.1 7 = .ok (.bipush 122, 2) := by decide +kernel
theorem d_X11_isLetter_9 : decode M_X11_isLetter.2.1 9 = .ok (.if_icmp .gt 7, 3) := by decide +kernel
theorem d_X11_isLetter_12 : decode M_X11_isLetter.2.1 12 = .ok (.iconst 1, 1) := by decide +kernel
theorem d_X11_isLetter_13 : decode M_X11_isLetter.2.1 13 = .ok (.goto 4, 3) := by decide +kernel
theorem d_X11_isLetter_16 : decode M_X11_isLetter.2.1 16 = .ok (.iconst 0, 1) := by decide +kernel
theorem d_X11_isLetter_17 : decode M_X11_isLetter.2.1 17 = .ok (.ireturn, 1) := by decide +kernel
theorem ce_X11_isLetter : zw_CeS M_X11_isLetter 1 := ⟨⟨⟨by decide +kernel, by decide +kernel, by decide +kernel⟩, (zw_mG (List.mem_of_getElem? (i := 1431) (by decide +kernel)) rfl), (zw_mG (List.mem_of_getElem? (i := 108) (by decide +kernel)) rfl), by decide, by decide +kernel⟩, (zw_mG (List.mem_of_getElem? (i := 1430) (by decide +kernel)) rfl)⟩
def f_X11_isLetter (v0 : Int32)  : Option (Int32) :=
  if v0 < 97 then some 0 else if 122 < v0 then some 0 else some 1
theorem c_X11_isLetter (X : zw_X) (v0 : Int32) (I : zI) (R : zR) (J : zJ) {P : Option Value → aS → Prop} (o : Int32) (hf : f_X11_isLetter v0  = some o) (hk : P (some (.int o)) (I, R, J)) : zw_C X M_X11_isLetter 0 0 0 199 [.int v0] (I, R, J) P := by
  show zy_V X M_X11_isLetter 0 P 0 [.int v0] [] (I, R, J)
  unfold f_X11_isLetter at hf
  refine zv_iload_n (pc := 0) d_X11_isLetter_0 rfl ?_
  refine zv_bipush (pc := 1) d_X11_isLetter_1 zc_b_97 ?_
  rcases zw_ifE hf with ⟨c1, hf⟩ | ⟨c1, hf⟩
  · refine zv_icmp_lt (pc := 3) (tg := 16) d_X11_isLetter_3 (by decide) (fun _ => ?_) (fun q => absurd c1 q)
    refine zv_iconst (pc := 16) d_X11_isLetter_16 zc_i_0 ?_
    cases hf
    exact zx_zret (pc := 17) d_X11_isLetter_17 rfl (Or.inl rfl) hk
  · refine zv_icmp_lt (pc := 3) (tg := 16) d_X11_isLetter_3 (by decide) (fun q => absurd q c1) (fun _ => ?_)
    refine zv_iload_n (pc := 6) d_X11_isLetter_6 rfl ?_
    refine zv_bipush (pc := 7) d_X11_isLetter_7 zc_b_122 ?_
    rcases zw_ifE hf with ⟨c2, hf⟩ | ⟨c2, hf⟩
    · refine zv_icmp_gt (pc := 9) (tg := 16) d_X11_isLetter_9 (by decide) (fun _ => ?_) (fun q => absurd c2 q)
      refine zv_iconst (pc := 16) d_X11_isLetter_16 zc_i_0 ?_
      cases hf
      exact zx_zret (pc := 17) d_X11_isLetter_17 rfl (Or.inl rfl) hk
    · refine zv_icmp_gt (pc := 9) (tg := 16) d_X11_isLetter_9 (by decide) (fun q => absurd q c2) (fun _ => ?_)
      refine zv_iconst (pc := 12) d_X11_isLetter_12 zc_i_1 ?_
      refine zv_goto (pc := 13) (tg := 17) d_X11_isLetter_13 (by decide) ?_
      cases hf
      exact zx_zret (pc := 17) d_X11_isLetter_17 rfl (Or.inr rfl) hk
abbrev M_X11_isVoid : zw_M := (⟨"CutStonesModel", "isVoid", "(II)Z"⟩, prog_13_method_81_code, 4, (Option.some Jvm.ClassFile.FieldType.boolean))
theorem d_X11_isVoid_0 : decode M_X11_isVoid.2.1 0 = .ok (.iload_n 1, 1) := by decide +kernel
theorem d_X11_isVoid_1 : decode M_X11_isVoid.2.1 1 = .ok (.iconst 1, 1) := by decide +kernel
theorem d_X11_isVoid_2 : decode M_X11_isVoid.2.1 2 = .ok (.iadd, 1) := by decide +kernel
theorem d_X11_isVoid_3 : decode M_X11_isVoid.2.1 3 = .ok (.istore_n 3, 1) := by decide +kernel
theorem d_X11_isVoid_4 : decode M_X11_isVoid.2.1 4 = .ok (.iload_n 3, 1) := by decide +kernel
theorem d_X11_isVoid_5 : decode M_X11_isVoid.2.1 5 = .ok (.iload_n 2, 1) := by decide +kernel
theorem d_X11_isVoid_6 : decode M_X11_isVoid.2.1 6 = .ok (.if_icmp .ge 21, 3) := by decide +kernel
theorem d_X11_isVoid_9 : decode M_X11_isVoid.2.1 9 = .ok (.aload_n 0, 1) := by decide +kernel
theorem d_X11_isVoid_10 : decode M_X11_isVoid.2.1 10 = .ok (.getfield 161, 3) := by decide +kernel
theorem d_X11_isVoid_13 : decode M_X11_isVoid.2.1 13 = .ok (.iload_n 3, 1) := by decide +kernel
theorem d_X11_isVoid_14 : decode M_X11_isVoid.2.1 14 = .ok (.iaload, 1) := by decide +kernel
theorem d_X11_isVoid_15 : decode M_X11_isVoid.2.1 15 = .ok (.iload_n 1, 1) := by decide +kernel
theorem d_X11_isVoid_16 : decode M_X11_isVoid.2.1 16 = .ok (.if_icmp .ne 5, 3) := by decide +kernel
theorem d_X11_isVoid_19 : decode M_X11_isVoid.2.1 19 = .ok (.iconst 1, 1) := by decide +kernel
theorem d_X11_isVoid_20 : decode M_X11_isVoid.2.1 20 = .ok (.ireturn, 1) := by decide +kernel
theorem d_X11_isVoid_21 : decode M_X11_isVoid.2.1 21 = .ok (.iinc 3 1, 3) := by decide +kernel
theorem d_X11_isVoid_24 : decode M_X11_isVoid.2.1 24 = .ok (.goto (-20), 3) := by decide +kernel
theorem d_X11_isVoid_27 : decode M_X11_isVoid.2.1 27 = .ok (.iconst 0, 1) := by decide +kernel
theorem d_X11_isVoid_28 : decode M_X11_isVoid.2.1 28 = .ok (.ireturn, 1) := by decide +kernel
theorem ce_X11_isVoid : zw_CeV M_X11_isVoid 2 := ⟨⟨⟨by decide +kernel, by decide +kernel, by decide +kernel⟩, (zw_mG (List.mem_of_getElem? (i := 1712) (by decide +kernel)) rfl), (zw_mG (List.mem_of_getElem? (i := 108) (by decide +kernel)) rfl), by decide, by decide +kernel⟩, (zw_mG (List.mem_of_getElem? (i := 1711) (by decide +kernel)) rfl), (zw_mG (List.mem_of_getElem? (i := 93) (by decide +kernel)) rfl)⟩
def s_X11_isVoid_4 (v0 : Nat) (v1 : Int32) (v2 : Int32) (I : zI) (R : zR) (s : Int32) : Option ((Int32) ⊕ ((Unit) ⊕ (Unit))) :=
  if v2 ≤ s then some (.inr (.inl ())) else zw_g (zw_gc v0 11) (zw_g (zw_gc (R v0 76) 13) (zw_g (zw_in s (zw_SH (R v0 76)).2) (if ¬ (I (R v0 76) (Int32.toNatClampNeg s)) = v1 then zw_let (s + 1 : Int32) fun x7 => (some (.inl x7)) else some (.inr (.inr ())))))
theorem s_X11_isVoid_4_ok (X : zw_X) (P : Option Value → aS → Prop) (v0 : Nat) (v1 : Int32) (v2 : Int32) (I : zI) (R : zR) (J : zJ) (s : Int32) (o : (Int32) ⊕ ((Unit) ⊕ (Unit))) (hf : s_X11_isVoid_4 v0 v1 v2 I R s = some o) (hk : (zw_se (fun t => zy_V X M_X11_isVoid 0 P 4 [.ref v0, .int v1, .int v2, .int t] [] (I, R, J)) (fun r => (zw_se (fun r0 => zy_V X M_X11_isVoid 0 P 27 [.null, .null, .null, .null] [] (I, R, J)) (fun t0 => zy_V X M_X11_isVoid 0 P 19 [.null, .null, .null, .null] [] (I, R, J)) r)) o)) : zy_V X M_X11_isVoid 0 P 4 [.ref v0, .int v1, .int v2, .int s] [] (I, R, J) := by
  unfold s_X11_isVoid_4 at hf
  refine zv_iload_n (pc := 4) d_X11_isVoid_4 rfl ?_
  refine zv_iload_n (pc := 5) d_X11_isVoid_5 rfl ?_
  rcases zw_ifE hf with ⟨c2, hf⟩ | ⟨c2, hf⟩
  · refine zv_icmp_ge (pc := 6) (tg := 27) d_X11_isVoid_6 (by decide) (fun _ => ?_) (fun q => absurd c2 q)
    cases hf
    exact zx_weak (zw_leN (zw_leN (zw_leN (zw_leN zw_leZ)))) hk
  · refine zv_icmp_ge (pc := 6) (tg := 27) d_X11_isVoid_6 (by decide) (fun q => absurd q c2) (fun _ => ?_)
    refine zv_aload_n (pc := 9) d_X11_isVoid_9 rfl ?_
    obtain ⟨g3, hf⟩ := zw_gcE hf (by decide)
    obtain ⟨g4, hf⟩ := zw_gcE hf (by decide)
    refine zx_getR (pc := 10) d_X11_isVoid_10 lk_CutStonesModel_161 (by decide) g3 g4 ?_
    refine zv_iload_n (pc := 13) d_X11_isVoid_13 rfl ?_
    obtain ⟨i5, hf⟩ := zw_inE hf
    refine zx_iald (pc := 14) d_X11_isVoid_14 g4 i5 ?_
    refine zv_iload_n (pc := 15) d_X11_isVoid_15 rfl ?_
    rcases zw_ifE hf with ⟨c6, hf⟩ | ⟨c6, hf⟩
    · refine zv_icmp_ne (pc := 16) (tg := 21) d_X11_isVoid_16 (by decide) (fun _ => ?_) (fun q => absurd q c6)
      obtain ⟨x7, ex7, hf⟩ := zw_letE hf
      refine zx_iinc (pc := 21) (x2 := x7) (L2 := [.ref v0, .int v1, .int v2, .int x7]) d_X11_isVoid_21 (by decide) rfl zc_i_1 ex7 rfl ?_
      refine zv_goto (pc := 24) (tg := 4) d_X11_isVoid_24 (by decide) ?_
      cases hf
      exact zx_weak (zw_leS (zw_leS (zw_leS (zw_leS zw_leZ)))) hk
    · refine zv_icmp_ne (pc := 16) (tg := 21) d_X11_isVoid_16 (by decide) (fun q => absurd q c6) (fun _ => ?_)
      cases hf
      exact zx_weak (zw_leN (zw_leN (zw_leN (zw_leN zw_leZ)))) hk
theorem s_X11_isVoid_4_lp (X : zw_X) (P : Option Value → aS → Prop) (v0 : Nat) (v1 : Int32) (v2 : Int32) (I : zI) (R : zR) (J : zJ) (n : Nat) (s : Int32) (r : (Unit) ⊕ (Unit)) (h : zw_it (s_X11_isVoid_4 v0 v1 v2 I R) n s = some r) (hq : (zw_se (fun r0 => zy_V X M_X11_isVoid 0 P 27 [.null, .null, .null, .null] [] (I, R, J)) (fun t0 => zy_V X M_X11_isVoid 0 P 19 [.null, .null, .null, .null] [] (I, R, J)) r)) : zy_V X M_X11_isVoid 0 P 4 [.ref v0, .int v1, .int v2, .int s] [] (I, R, J) :=
  zw_itE (A := (fun t : Int32 => zy_V X M_X11_isVoid 0 P 4 [.ref v0, .int v1, .int v2, .int t] [] (I, R, J))) (Q := (fun r : (Unit) ⊕ (Unit) => (zw_se (fun r0 => zy_V X M_X11_isVoid 0 P 27 [.null, .null, .null, .null] [] (I, R, J)) (fun t0 => zy_V X M_X11_isVoid 0 P 19 [.null, .null, .null, .null] [] (I, R, J)) r))) (fun s o h1 h2 => s_X11_isVoid_4_ok X P v0 v1 v2 I R J s o h1 h2) n s r h hq
def f_X11_isVoid (v0 : Nat) (v1 : Int32) (v2 : Int32) (I : zI) (R : zR) : Option (Int32) :=
  zw_let ((v1 + 1) : Int32) fun x1 => ((zw_it (s_X11_isVoid_4 v0 v1 v2 I R) 1000000 x1).bind fun q8 => (match q8 with | .inl a9 => (some 0) | .inr a10 => (some 1)))
theorem c_X11_isVoid (X : zw_X) (v0 : Nat) (v1 : Int32) (v2 : Int32) (I : zI) (R : zR) (J : zJ) {P : Option Value → aS → Prop} (o : Int32) (hf : f_X11_isVoid v0 v1 v2 I R = some o) (hk : P (some (.int o)) (I, R, J)) : zw_C X M_X11_isVoid 0 0 0 199 [.ref v0, .int v1, .int v2] (I, R, J) P := by
  show zy_V X M_X11_isVoid 0 P 0 [.ref v0, .int v1, .int v2, .null] [] (I, R, J)
  unfold f_X11_isVoid at hf
  refine zv_iload_n (pc := 0) d_X11_isVoid_0 rfl ?_
  refine zv_iconst (pc := 1) d_X11_isVoid_1 zc_i_1 ?_
  refine zv_iadd (pc := 2) d_X11_isVoid_2 ?_
  obtain ⟨x1, ex1, hf⟩ := zw_letE hf
  refine zx_istore_n (pc := 3) (x2 := x1) (L2 := [.ref v0, .int v1, .int v2, .int x1]) d_X11_isVoid_3 (by decide) ex1 rfl ?_
  obtain ⟨q8, hq8, hf⟩ := zw_bdE hf
  refine zx_weak (L' := [.ref v0, .int v1, .int v2, .int x1]) (zw_leS (zw_leS (zw_leS (zw_leS zw_leZ)))) (s_X11_isVoid_4_lp X P v0 v1 v2 I R J _ _ _ hq8 ?_)
  rcases q8 with a9 | a10
  ·
    show zy_V X M_X11_isVoid 0 P 27 [.null, .null, .null, .null] [] (I, R, J)
    refine zv_iconst (pc := 27) d_X11_isVoid_27 zc_i_0 ?_
    cases hf
    exact zx_zret (pc := 28) d_X11_isVoid_28 rfl (Or.inl rfl) hk
  ·
    show zy_V X M_X11_isVoid 0 P 19 [.null, .null, .null, .null] [] (I, R, J)
    refine zv_iconst (pc := 19) d_X11_isVoid_19 zc_i_1 ?_
    cases hf
    exact zx_zret (pc := 20) d_X11_isVoid_20 rfl (Or.inr rfl) hk
abbrev M_X11_mirrored : zw_M := (⟨"CutStonesModel", "mirrored", "(I)I"⟩, prog_13_method_54_code, 1, (Option.some Jvm.ClassFile.FieldType.int))
theorem d_X11_mirrored_0 : decode M_X11_mirrored.2.1 0 = .ok (.iload_n 0, 1) := by decide +kernel
theorem d_X11_mirrored_1 : decode M_X11_mirrored.2.1 1 = .ok (.iconst 1, 1) := by decide +kernel
theorem d_X11_mirrored_2 : decode M_X11_mirrored.2.1 2 = .ok (.if_icmp .ne 7, 3) := by decide +kernel
theorem d_X11_mirrored_5 : decode M_X11_mirrored.2.1 5 = .ok (.iconst 2, 1) := by decide +kernel
theorem d_X11_mirrored_6 : decode M_X11_mirrored.2.1 6 = .ok (.goto 31, 3) := by decide +kernel
theorem d_X11_mirrored_9 : decode M_X11_mirrored.2.1 9 = .ok (.iload_n 0, 1) := by decide +kernel
theorem d_X11_mirrored_10 : decode M_X11_mirrored.2.1 10 = .ok (.iconst 2, 1) := by decide +kernel
theorem d_X11_mirrored_11 : decode M_X11_mirrored.2.1 11 = .ok (.if_icmp .ne 7, 3) := by decide +kernel
theorem d_X11_mirrored_14 : decode M_X11_mirrored.2.1 14 = .ok (.iconst 1, 1) := by decide +kernel
theorem d_X11_mirrored_15 : decode M_X11_mirrored.2.1 15 = .ok (.goto 22, 3) := by decide +kernel
theorem d_X11_mirrored_18 : decode M_X11_mirrored.2.1 18 = .ok (.iload_n 0, 1) := by decide +kernel
theorem d_X11_mirrored_19 : decode M_X11_mirrored.2.1 19 = .ok (.iconst 3, 1) := by decide +kernel
theorem d_X11_mirrored_20 : decode M_X11_mirrored.2.1 20 = .ok (.if_icmp .ne 7, 3) := by decide +kernel
theorem d_X11_mirrored_23 : decode M_X11_mirrored.2.1 23 = .ok (.iconst 4, 1) := by decide +kernel
theorem d_X11_mirrored_24 : decode M_X11_mirrored.2.1 24 = .ok (.goto 13, 3) := by decide +kernel
theorem d_X11_mirrored_27 : decode M_X11_mirrored.2.1 27 = .ok (.iload_n 0, 1) := by decide +kernel
theorem d_X11_mirrored_28 : decode M_X11_mirrored.2.1 28 = .ok (.iconst 4, 1) := by decide +kernel
theorem d_X11_mirrored_29 : decode M_X11_mirrored.2.1 29 = .ok (.if_icmp .ne 7, 3) := by decide +kernel
theorem d_X11_mirrored_32 : decode M_X11_mirrored.2.1 32 = .ok (.iconst 3, 1) := by decide +kernel
theorem d_X11_mirrored_33 : decode M_X11_mirrored.2.1 33 = .ok (.goto 4, 3) := by decide +kernel
theorem d_X11_mirrored_36 : decode M_X11_mirrored.2.1 36 = .ok (.iload_n 0, 1) := by decide +kernel
theorem d_X11_mirrored_37 : decode M_X11_mirrored.2.1 37 = .ok (.ireturn, 1) := by decide +kernel
theorem ce_X11_mirrored : zw_CeS M_X11_mirrored 1 := ⟨⟨⟨by decide +kernel, by decide +kernel, by decide +kernel⟩, (zw_mG (List.mem_of_getElem? (i := 1547) (by decide +kernel)) rfl), (zw_mG (List.mem_of_getElem? (i := 108) (by decide +kernel)) rfl), by decide, by decide +kernel⟩, (zw_mG (List.mem_of_getElem? (i := 1546) (by decide +kernel)) rfl)⟩
def f_X11_mirrored (v0 : Int32)  : Option (Int32) :=
  if ¬ v0 = 1 then if ¬ v0 = 2 then if ¬ v0 = 3 then if ¬ v0 = 4 then some v0 else some 3 else some 4 else some 1 else some 2
theorem c_X11_mirrored (X : zw_X) (v0 : Int32) (I : zI) (R : zR) (J : zJ) {P : Option Value → aS → Prop} (o : Int32) (hf : f_X11_mirrored v0  = some o) (hk : P (some (.int o)) (I, R, J)) : zw_C X M_X11_mirrored 0 0 0 199 [.int v0] (I, R, J) P := by
  show zy_V X M_X11_mirrored 0 P 0 [.int v0] [] (I, R, J)
  unfold f_X11_mirrored at hf
  refine zv_iload_n (pc := 0) d_X11_mirrored_0 rfl ?_
  refine zv_iconst (pc := 1) d_X11_mirrored_1 zc_i_1 ?_
  rcases zw_ifE hf with ⟨c1, hf⟩ | ⟨c1, hf⟩
  · refine zv_icmp_ne (pc := 2) (tg := 9) d_X11_mirrored_2 (by decide) (fun _ => ?_) (fun q => absurd q c1)
    refine zv_iload_n (pc := 9) d_X11_mirrored_9 rfl ?_
    refine zv_iconst (pc := 10) d_X11_mirrored_10 zc_i_2 ?_
    rcases zw_ifE hf with ⟨c2, hf⟩ | ⟨c2, hf⟩
    · refine zv_icmp_ne (pc := 11) (tg := 18) d_X11_mirrored_11 (by decide) (fun _ => ?_) (fun q => absurd q c2)
      refine zv_iload_n (pc := 18) d_X11_mirrored_18 rfl ?_
      refine zv_iconst (pc := 19) d_X11_mirrored_19 zc_i_3 ?_
      rcases zw_ifE hf with ⟨c3, hf⟩ | ⟨c3, hf⟩
      · refine zv_icmp_ne (pc := 20) (tg := 27) d_X11_mirrored_20 (by decide) (fun _ => ?_) (fun q => absurd q c3)
        refine zv_iload_n (pc := 27) d_X11_mirrored_27 rfl ?_
        refine zv_iconst (pc := 28) d_X11_mirrored_28 zc_i_4 ?_
        rcases zw_ifE hf with ⟨c4, hf⟩ | ⟨c4, hf⟩
        · refine zv_icmp_ne (pc := 29) (tg := 36) d_X11_mirrored_29 (by decide) (fun _ => ?_) (fun q => absurd q c4)
          refine zv_iload_n (pc := 36) d_X11_mirrored_36 rfl ?_
          cases hf
          exact zx_iret (pc := 37) d_X11_mirrored_37 rfl hk
        · refine zv_icmp_ne (pc := 29) (tg := 36) d_X11_mirrored_29 (by decide) (fun q => absurd q c4) (fun _ => ?_)
          refine zv_iconst (pc := 32) d_X11_mirrored_32 zc_i_3 ?_
          refine zv_goto (pc := 33) (tg := 37) d_X11_mirrored_33 (by decide) ?_
          cases hf
          exact zx_iret (pc := 37) d_X11_mirrored_37 rfl hk
      · refine zv_icmp_ne (pc := 20) (tg := 27) d_X11_mirrored_20 (by decide) (fun q => absurd q c3) (fun _ => ?_)
        refine zv_iconst (pc := 23) d_X11_mirrored_23 zc_i_4 ?_
        refine zv_goto (pc := 24) (tg := 37) d_X11_mirrored_24 (by decide) ?_
        cases hf
        exact zx_iret (pc := 37) d_X11_mirrored_37 rfl hk
    · refine zv_icmp_ne (pc := 11) (tg := 18) d_X11_mirrored_11 (by decide) (fun q => absurd q c2) (fun _ => ?_)
      refine zv_iconst (pc := 14) d_X11_mirrored_14 zc_i_1 ?_
      refine zv_goto (pc := 15) (tg := 37) d_X11_mirrored_15 (by decide) ?_
      cases hf
      exact zx_iret (pc := 37) d_X11_mirrored_37 rfl hk
  · refine zv_icmp_ne (pc := 2) (tg := 9) d_X11_mirrored_2 (by decide) (fun q => absurd q c1) (fun _ => ?_)
    refine zv_iconst (pc := 5) d_X11_mirrored_5 zc_i_2 ?_
    refine zv_goto (pc := 6) (tg := 37) d_X11_mirrored_6 (by decide) ?_
    cases hf
    exact zx_iret (pc := 37) d_X11_mirrored_37 rfl hk
abbrev M_X11_more : zw_M := (⟨"CutStonesModel", "more", "(JI)J"⟩, prog_13_method_9_code, 3, (Option.some Jvm.ClassFile.FieldType.long))
theorem d_X11_more_0 : decode M_X11_more.2.1 0 = .ok (.iload_n 2, 1) := by decide +kernel
theorem d_X11_more_1 : decode M_X11_more.2.1 1 = .ok (.ifCond .ne 7, 3) := by decide +kernel
theorem d_X11_more_4 : decode M_X11_more.2.1 4 = .ok (.lload_n 0, 1) := by decide +kernel
theorem d_X11_more_5 : decode M_X11_more.2.1 5 = .ok (.goto 16, 3) := by decide +kernel
theorem d_X11_more_8 : decode M_X11_more.2.1 8 = .ok (.ldc2_w 187, 3) := by decide +kernel
theorem d_X11_more_11 : decode M_X11_more.2.1 11 = .ok (.lload_n 0, 1) := by decide +kernel
theorem d_X11_more_12 : decode M_X11_more.2.1 12 = .ok (.lmul, 1) := by decide +kernel
theorem d_X11_more_13 : decode M_X11_more.2.1 13 = .ok (.iload_n 2, 1) := by decide +kernel
theorem d_X11_more_14 : decode M_X11_more.2.1 14 = .ok (.bipush 97, 2) := by decide +kernel
theorem d_X11_more_16 : decode M_X11_more.2.1 16 = .ok (.isub, 1) := by decide +kernel
theorem d_X11_more_17 : decode M_X11_more.2.1 17 = .ok (.iconst 1, 1) := by decide +kernel
theorem d_X11_more_18 : decode M_X11_more.2.1 18 = .ok (.iadd, 1) := by decide +kernel
theorem d_X11_more_19 : decode M_X11_more.2.1 19 = .ok (.i2l, 1) := by decide +kernel
theorem d_X11_more_20 : decode M_X11_more.2.1 20 = .ok (.ladd, 1) := by decide +kernel
theorem d_X11_more_21 : decode M_X11_more.2.1 21 = .ok (.lreturn, 1) := by decide +kernel
theorem ce_X11_more : zw_CeS M_X11_more 2 := ⟨⟨⟨by decide +kernel, by decide +kernel, by decide +kernel⟩, (zw_mG (List.mem_of_getElem? (i := 1158) (by decide +kernel)) rfl), (zw_mG (List.mem_of_getElem? (i := 108) (by decide +kernel)) rfl), by decide, by decide +kernel⟩, (zw_mG (List.mem_of_getElem? (i := 1157) (by decide +kernel)) rfl)⟩
def f_X11_more (v0 : Int64) (v2 : Int32)  : Option (Int64) :=
  if ¬ v2 = 0 then some ((27 * v0) + (Int32.toInt64 ((v2 - 97) + 1))) else some v0
theorem c_X11_more (X : zw_X) (v0 : Int64) (v2 : Int32) (I : zI) (R : zR) (J : zJ) {P : Option Value → aS → Prop} (o : Int64) (hf : f_X11_more v0 v2  = some o) (hk : P (some (.long o)) (I, R, J)) : zw_C X M_X11_more 0 0 0 199 [.long v0, .int v2] (I, R, J) P := by
  show zy_V X M_X11_more 0 P 0 [.long v0, .null, .int v2] [] (I, R, J)
  unfold f_X11_more at hf
  refine zv_iload_n (pc := 0) d_X11_more_0 rfl ?_
  rcases zw_ifE hf with ⟨c1, hf⟩ | ⟨c1, hf⟩
  · refine zv_if_ne (pc := 1) (tg := 8) d_X11_more_1 (by decide) (fun _ => ?_) (fun q => absurd q c1)
    refine zv_ldc2 (pc := 8) (v := 27) d_X11_more_8 (zw_mG (List.mem_of_getElem? (i := 1159) (by decide +kernel)) rfl) ?_
    refine zv_lload_n (pc := 11) d_X11_more_11 rfl ?_
    refine zv_lmul (pc := 12) d_X11_more_12 ?_
    refine zv_iload_n (pc := 13) d_X11_more_13 rfl ?_
    refine zv_bipush (pc := 14) d_X11_more_14 zc_b_97 ?_
    refine zv_isub (pc := 16) d_X11_more_16 ?_
    refine zv_iconst (pc := 17) d_X11_more_17 zc_i_1 ?_
    refine zv_iadd (pc := 18) d_X11_more_18 ?_
    refine zv_i2l (pc := 19) d_X11_more_19 ?_
    refine zv_ladd (pc := 20) d_X11_more_20 ?_
    cases hf
    exact zx_lret (pc := 21) d_X11_more_21 rfl hk
  · refine zv_if_ne (pc := 1) (tg := 8) d_X11_more_1 (by decide) (fun q => absurd q c1) (fun _ => ?_)
    refine zv_lload_n (pc := 4) d_X11_more_4 rfl ?_
    refine zv_goto (pc := 5) (tg := 21) d_X11_more_5 (by decide) ?_
    cases hf
    exact zx_lret (pc := 21) d_X11_more_21 rfl hk
abbrev M_X11_place : zw_M := (⟨"CutStonesModel", "place", "()I"⟩, prog_13_method_21_code, 1, (Option.some Jvm.ClassFile.FieldType.int))
theorem d_X11_place_0 : decode M_X11_place.2.1 0 = .ok (.aload_n 0, 1) := by decide +kernel
theorem d_X11_place_1 : decode M_X11_place.2.1 1 = .ok (.getfield 37, 3) := by decide +kernel
theorem d_X11_place_4 : decode M_X11_place.2.1 4 = .ok (.ireturn, 1) := by decide +kernel
theorem ce_X11_place : zw_CeV M_X11_place 0 := ⟨⟨⟨by decide +kernel, by decide +kernel, by decide +kernel⟩, (zw_mG (List.mem_of_getElem? (i := 1509) (by decide +kernel)) rfl), (zw_mG (List.mem_of_getElem? (i := 108) (by decide +kernel)) rfl), by decide, by decide +kernel⟩, (zw_mG (List.mem_of_getElem? (i := 1507) (by decide +kernel)) rfl), (zw_mG (List.mem_of_getElem? (i := 1508) (by decide +kernel)) rfl)⟩
def f_X11_place (v0 : Nat) (I : zI) : Option (Int32) :=
  zw_g (zw_gc v0 11) (some (I v0 17))
theorem c_X11_place (X : zw_X) (v0 : Nat) (I : zI) (R : zR) (J : zJ) {P : Option Value → aS → Prop} (o : Int32) (hf : f_X11_place v0 I = some o) (hk : P (some (.int o)) (I, R, J)) : zw_C X M_X11_place 0 0 0 199 [.ref v0] (I, R, J) P := by
  show zy_V X M_X11_place 0 P 0 [.ref v0] [] (I, R, J)
  unfold f_X11_place at hf
  refine zv_aload_n (pc := 0) d_X11_place_0 rfl ?_
  obtain ⟨g1, hf⟩ := zw_gcE hf (by decide)
  refine zx_getI (pc := 1) d_X11_place_1 lk_CutStonesModel_37 (by decide) g1 ?_
  cases hf
  exact zx_iret (pc := 4) d_X11_place_4 rfl hk
abbrev M_X11_put : zw_M := (⟨"CutStonesModel", "put", "(I)V"⟩, prog_13_method_4_code, 3, (Option.none : Option Jvm.ClassFile.FieldType))
theorem d_X11_put_0 : decode M_X11_put.2.1 0 = .ok (.bipush 24, 2) := by decide +kernel
theorem d_X11_put_2 : decode M_X11_put.2.1 2 = .ok (.istore_n 2, 1) := by decide +kernel
theorem d_X11_put_3 : decode M_X11_put.2.1 3 = .ok (.iload_n 2, 1) := by decide +kernel
theorem d_X11_put_4 : decode M_X11_put.2.1 4 = .ok (.ifCond .lt 32, 3) := by decide +kernel
theorem d_X11_put_7 : decode M_X11_put.2.1 7 = .ok (.aload_n 0, 1) := by decide +kernel
theorem d_X11_put_8 : decode M_X11_put.2.1 8 = .ok (.getfield 13, 3) := by decide +kernel
theorem d_X11_put_11 : decode M_X11_put.2.1 11 = .ok (.aload_n 0, 1) := by decide +kernel
theorem d_X11_put_12 : decode M_X11_put.2.1 12 = .ok (.getfield 177, 3) := by decide +kernel
theorem d_X11_put_15 : decode M_X11_put.2.1 15 = .ok (.iload_n 1, 1) := by decide +kernel
theorem d_X11_put_16 : decode M_X11_put.2.1 16 = .ok (.iload_n 2, 1) := by decide +kernel
theorem d_X11_put_17 : decode M_X11_put.2.1 17 = .ok (.ishr, 1) := by decide +kernel
theorem d_X11_put_18 : decode M_X11_put.2.1 18 = .ok (.i2b, 1) := by decide +kernel
theorem d_X11_put_19 : decode M_X11_put.2.1 19 = .ok (.bastore, 1) := by decide +kernel
theorem d_X11_put_20 : decode M_X11_put.2.1 20 = .ok (.aload_n 0, 1) := by decide +kernel
theorem d_X11_put_21 : decode M_X11_put.2.1 21 = .ok (.dup, 1) := by decide +kernel
theorem d_X11_put_22 : decode M_X11_put.2.1 22 = .ok (.getfield 177, 3) := by decide +kernel
theorem d_X11_put_25 : decode M_X11_put.2.1 25 = .ok (.iconst 1, 1) := by decide +kernel
theorem d_X11_put_26 : decode M_X11_put.2.1 26 = .ok (.iadd, 1) := by decide +kernel
theorem d_X11_put_27 : decode M_X11_put.2.1 27 = .ok (.putfield 177, 3) := by decide +kernel
theorem d_X11_put_30 : decode M_X11_put.2.1 30 = .ok (.iinc 2 (-8), 3) := by decide +kernel
theorem d_X11_put_33 : decode M_X11_put.2.1 33 = .ok (.goto (-30), 3) := by decide +kernel
theorem d_X11_put_36 : decode M_X11_put.2.1 36 = .ok (.return_, 1) := by decide +kernel
theorem ce_X11_put : zw_CeV M_X11_put 1 := ⟨⟨⟨by decide +kernel, by decide +kernel, by decide +kernel⟩, (zw_mG (List.mem_of_getElem? (i := 1408) (by decide +kernel)) rfl), (zw_mG (List.mem_of_getElem? (i := 108) (by decide +kernel)) rfl), by decide, by decide +kernel⟩, (zw_mG (List.mem_of_getElem? (i := 1407) (by decide +kernel)) rfl), (zw_mG (List.mem_of_getElem? (i := 49) (by decide +kernel)) rfl)⟩
def s_X11_put_3 (v0 : Nat) (v1 : Int32) (R : zR) (s : Int32 × zI) : Option ((Int32 × zI) ⊕ (zI)) :=
  if s.1 < 0 then some (.inr s.2) else zw_g (zw_gc v0 11) (zw_g (zw_gc (R v0 1) 12) (zw_g (zw_in (s.2 v0 2) (zw_SH (R v0 1)).2) (zw_let (zw_u s.2 (R v0 1) (Int32.toNatClampNeg (s.2 v0 2)) (Int8.toInt32 (Int32.toInt8 (Int8.toInt32 (Int32.toInt8 (v1 >>> (s.1 &&& 31)))))) : zI) fun I5 => (zw_let (zw_u I5 v0 2 ((I5 v0 2) + 1) : zI) fun I6 => (zw_let (s.1 + (-8) : Int32) fun x7 => (some (.inl (x7, I6))))))))
theorem s_X11_put_3_ok (X : zw_X) (P : Option Value → aS → Prop) (v0 : Nat) (v1 : Int32) (R : zR) (J : zJ) (s : Int32 × zI) (o : (Int32 × zI) ⊕ (zI)) (hf : s_X11_put_3 v0 v1 R s = some o) (hk : (zw_se (fun t => zy_V X M_X11_put 0 P 3 [.ref v0, .int v1, .int t.1] [] (t.2, R, J)) (fun r => zy_V X M_X11_put 0 P 36 [.null, .null, .null] [] (r, R, J)) o)) : zy_V X M_X11_put 0 P 3 [.ref v0, .int v1, .int s.1] [] (s.2, R, J) := by
  unfold s_X11_put_3 at hf
  refine zv_iload_n (pc := 3) d_X11_put_3 rfl ?_
  rcases zw_ifE hf with ⟨c1, hf⟩ | ⟨c1, hf⟩
  · refine zv_if_lt (pc := 4) (tg := 36) d_X11_put_4 (by decide) (fun _ => ?_) (fun q => absurd c1 q)
    cases hf
    exact zx_weak (zw_leN (zw_leN (zw_leN zw_leZ))) hk
  · refine zv_if_lt (pc := 4) (tg := 36) d_X11_put_4 (by decide) (fun q => absurd q c1) (fun _ => ?_)
    refine zv_aload_n (pc := 7) d_X11_put_7 rfl ?_
    obtain ⟨g2, hf⟩ := zw_gcE hf (by decide)
    obtain ⟨g3, hf⟩ := zw_gcE hf (by decide)
    refine zx_getR (pc := 8) d_X11_put_8 lk_CutStonesModel_13 (by decide) g2 g3 ?_
    refine zv_aload_n (pc := 11) d_X11_put_11 rfl ?_
    refine zx_getI (pc := 12) d_X11_put_12 lk_CutStonesModel_177 (by decide) g2 ?_
    refine zv_iload_n (pc := 15) d_X11_put_15 rfl ?_
    refine zv_iload_n (pc := 16) d_X11_put_16 rfl ?_
    refine zv_ishr (pc := 17) d_X11_put_17 ?_
    refine zv_i2b (pc := 18) d_X11_put_18 ?_
    obtain ⟨i4, hf⟩ := zw_inE hf
    obtain ⟨I5, eI5, hf⟩ := zw_letE hf
    refine zx_bast (pc := 19) (I2 := I5) d_X11_put_19 g3 i4 eI5 ?_
    refine zv_aload_n (pc := 20) d_X11_put_20 rfl ?_
    refine zv_dup (pc := 21) d_X11_put_21 rfl ?_
    refine zx_getI (pc := 22) d_X11_put_22 lk_CutStonesModel_177 (by decide) g2 ?_
    refine zv_iconst (pc := 25) d_X11_put_25 zc_i_1 ?_
    refine zv_iadd (pc := 26) d_X11_put_26 ?_
    obtain ⟨I6, eI6, hf⟩ := zw_letE hf
    refine zx_putI (pc := 27) (I2 := I6) d_X11_put_27 lk_CutStonesModel_177 rfl g2 eI6 ?_
    obtain ⟨x7, ex7, hf⟩ := zw_letE hf
    refine zx_iinc (pc := 30) (x2 := x7) (L2 := [.ref v0, .int v1, .int x7]) d_X11_put_30 (by decide) rfl zc_i_m8 ex7 rfl ?_
    refine zv_goto (pc := 33) (tg := 3) d_X11_put_33 (by decide) ?_
    cases hf
    exact zx_weak (zw_leS (zw_leS (zw_leS zw_leZ))) hk
theorem s_X11_put_3_lp (X : zw_X) (P : Option Value → aS → Prop) (v0 : Nat) (v1 : Int32) (R : zR) (J : zJ) (n : Nat) (s : Int32 × zI) (r : zI) (h : zw_it (s_X11_put_3 v0 v1 R) n s = some r) (hq : zy_V X M_X11_put 0 P 36 [.null, .null, .null] [] (r, R, J)) : zy_V X M_X11_put 0 P 3 [.ref v0, .int v1, .int s.1] [] (s.2, R, J) :=
  zw_itE (A := (fun t : Int32 × zI => zy_V X M_X11_put 0 P 3 [.ref v0, .int v1, .int t.1] [] (t.2, R, J))) (Q := (fun r : zI => zy_V X M_X11_put 0 P 36 [.null, .null, .null] [] (r, R, J))) (fun s o h1 h2 => s_X11_put_3_ok X P v0 v1 R J s o h1 h2) n s r h hq
def f_X11_put (v0 : Nat) (v1 : Int32) (I : zI) (R : zR) : Option (zI) :=
  (zw_it (s_X11_put_3 v0 v1 R) 1000000 (24, I)).bind fun q8 => (some q8)
theorem c_X11_put (X : zw_X) (v0 : Nat) (v1 : Int32) (I : zI) (R : zR) (J : zJ) {P : Option Value → aS → Prop} (o : zI) (hf : f_X11_put v0 v1 I R = some o) (hk : P none (o, R, J)) : zw_C X M_X11_put 0 0 0 199 [.ref v0, .int v1] (I, R, J) P := by
  show zy_V X M_X11_put 0 P 0 [.ref v0, .int v1, .null] [] (I, R, J)
  unfold f_X11_put at hf
  refine zv_bipush (pc := 0) d_X11_put_0 zc_b_24 ?_
  refine zx_istore_n (pc := 2) (x2 := 24) (L2 := [.ref v0, .int v1, .int 24]) d_X11_put_2 (by decide) rfl rfl ?_
  obtain ⟨q8, hq8, hf⟩ := zw_bdE hf
  refine zx_weak (L' := [.ref v0, .int v1, .int 24]) (zw_leS (zw_leS (zw_leS zw_leZ))) (s_X11_put_3_lp X P v0 v1 R J _ _ _ hq8 ?_)
  show zy_V X M_X11_put 0 P 36 [.null, .null, .null] [] (q8, R, J)
  cases hf
  exact zx_vret (pc := 36) d_X11_put_36 rfl hk
abbrev M_X11_stepX : zw_M := (⟨"CutStonesModel", "stepX", "(I)I"⟩, prog_13_method_42_code, 1, (Option.some Jvm.ClassFile.FieldType.int))
theorem d_X11_stepX_0 : decode M_X11_stepX.2.1 0 = .ok (.iload_n 0, 1) := by decide +kernel
theorem d_X11_stepX_1 : decode M_X11_stepX.2.1 1 = .ok (.iconst 1, 1) := by decide +kernel
theorem d_X11_stepX_2 : decode M_X11_stepX.2.1 2 = .ok (.if_icmp .ne 7, 3) := by decide +kernel
theorem d_X11_stepX_5 : decode M_X11_stepX.2.1 5 = .ok (.iconst 1, 1) := by decide +kernel
theorem d_X11_stepX_6 : decode M_X11_stepX.2.1 6 = .ok (.goto 13, 3) := by decide +kernel
theorem d_X11_stepX_9 : decode M_X11_stepX.2.1 9 = .ok (.iload_n 0, 1) := by decide +kernel
theorem d_X11_stepX_10 : decode M_X11_stepX.2.1 10 = .ok (.iconst 3, 1) := by decide +kernel
theorem d_X11_stepX_11 : decode M_X11_stepX.2.1 11 = .ok (.if_icmp .ne 7, 3) := by decide +kernel
theorem d_X11_stepX_14 : decode M_X11_stepX.2.1 14 = .ok (.iconst (-1), 1) := by decide +kernel
theorem d_X11_stepX_15 : decode M_X11_stepX.2.1 15 = .ok (.goto 4, 3) := by decide +kernel
theorem d_X11_stepX_18 : decode M_X11_stepX.2.1 18 = .ok (.iconst 0, 1) := by decide +kernel
theorem d_X11_stepX_19 : decode M_X11_stepX.2.1 19 = .ok (.ireturn, 1) := by decide +kernel
theorem ce_X11_stepX : zw_CeS M_X11_stepX 1 := ⟨⟨⟨by decide +kernel, by decide +kernel, by decide +kernel⟩, (zw_mG (List.mem_of_getElem? (i := 1570) (by decide +kernel)) rfl), (zw_mG (List.mem_of_getElem? (i := 108) (by decide +kernel)) rfl), by decide, by decide +kernel⟩, (zw_mG (List.mem_of_getElem? (i := 1569) (by decide +kernel)) rfl)⟩
def f_X11_stepX (v0 : Int32)  : Option (Int32) :=
  if ¬ v0 = 1 then if ¬ v0 = 3 then some 0 else some (-1) else some 1
theorem c_X11_stepX (X : zw_X) (v0 : Int32) (I : zI) (R : zR) (J : zJ) {P : Option Value → aS → Prop} (o : Int32) (hf : f_X11_stepX v0  = some o) (hk : P (some (.int o)) (I, R, J)) : zw_C X M_X11_stepX 0 0 0 199 [.int v0] (I, R, J) P := by
  show zy_V X M_X11_stepX 0 P 0 [.int v0] [] (I, R, J)
  unfold f_X11_stepX at hf
  refine zv_iload_n (pc := 0) d_X11_stepX_0 rfl ?_
  refine zv_iconst (pc := 1) d_X11_stepX_1 zc_i_1 ?_
  rcases zw_ifE hf with ⟨c1, hf⟩ | ⟨c1, hf⟩
  · refine zv_icmp_ne (pc := 2) (tg := 9) d_X11_stepX_2 (by decide) (fun _ => ?_) (fun q => absurd q c1)
    refine zv_iload_n (pc := 9) d_X11_stepX_9 rfl ?_
    refine zv_iconst (pc := 10) d_X11_stepX_10 zc_i_3 ?_
    rcases zw_ifE hf with ⟨c2, hf⟩ | ⟨c2, hf⟩
    · refine zv_icmp_ne (pc := 11) (tg := 18) d_X11_stepX_11 (by decide) (fun _ => ?_) (fun q => absurd q c2)
      refine zv_iconst (pc := 18) d_X11_stepX_18 zc_i_0 ?_
      cases hf
      exact zx_iret (pc := 19) d_X11_stepX_19 rfl hk
    · refine zv_icmp_ne (pc := 11) (tg := 18) d_X11_stepX_11 (by decide) (fun q => absurd q c2) (fun _ => ?_)
      refine zv_iconst (pc := 14) d_X11_stepX_14 zc_i_m1 ?_
      refine zv_goto (pc := 15) (tg := 19) d_X11_stepX_15 (by decide) ?_
      cases hf
      exact zx_iret (pc := 19) d_X11_stepX_19 rfl hk
  · refine zv_icmp_ne (pc := 2) (tg := 9) d_X11_stepX_2 (by decide) (fun q => absurd q c1) (fun _ => ?_)
    refine zv_iconst (pc := 5) d_X11_stepX_5 zc_i_1 ?_
    refine zv_goto (pc := 6) (tg := 19) d_X11_stepX_6 (by decide) ?_
    cases hf
    exact zx_iret (pc := 19) d_X11_stepX_19 rfl hk
abbrev M_X11_stepY : zw_M := (⟨"CutStonesModel", "stepY", "(I)I"⟩, prog_13_method_43_code, 1, (Option.some Jvm.ClassFile.FieldType.int))
theorem d_X11_stepY_0 : decode M_X11_stepY.2.1 0 = .ok (.iload_n 0, 1) := by decide +kernel
theorem d_X11_stepY_1 : decode M_X11_stepY.2.1 1 = .ok (.iconst 2, 1) := by decide +kernel
theorem d_X11_stepY_2 : decode M_X11_stepY.2.1 2 = .ok (.if_icmp .ne 7, 3) := by decide +kernel
theorem d_X11_stepY_5 : decode M_X11_stepY.2.1 5 = .ok (.iconst 1, 1) := by decide +kernel
theorem d_X11_stepY_6 : decode M_X11_stepY.2.1 6 = .ok (.goto 12, 3) := by decide +kernel
theorem d_X11_stepY_9 : decode M_X11_stepY.2.1 9 = .ok (.iload_n 0, 1) := by decide +kernel
theorem d_X11_stepY_10 : decode M_X11_stepY.2.1 10 = .ok (.ifCond .ne 7, 3) := by decide +kernel
theorem d_X11_stepY_13 : decode M_X11_stepY.2.1 13 = .ok (.iconst (-1), 1) := by decide +kernel
theorem d_X11_stepY_14 : decode M_X11_stepY.2.1 14 = .ok (.goto 4, 3) := by decide +kernel
theorem d_X11_stepY_17 : decode M_X11_stepY.2.1 17 = .ok (.iconst 0, 1) := by decide +kernel
theorem d_X11_stepY_18 : decode M_X11_stepY.2.1 18 = .ok (.ireturn, 1) := by decide +kernel
theorem ce_X11_stepY : zw_CeS M_X11_stepY 1 := ⟨⟨⟨by decide +kernel, by decide +kernel, by decide +kernel⟩, (zw_mG (List.mem_of_getElem? (i := 1573) (by decide +kernel)) rfl), (zw_mG (List.mem_of_getElem? (i := 108) (by decide +kernel)) rfl), by decide, by decide +kernel⟩, (zw_mG (List.mem_of_getElem? (i := 1572) (by decide +kernel)) rfl)⟩
def f_X11_stepY (v0 : Int32)  : Option (Int32) :=
  if ¬ v0 = 2 then if ¬ v0 = 0 then some 0 else some (-1) else some 1
theorem c_X11_stepY (X : zw_X) (v0 : Int32) (I : zI) (R : zR) (J : zJ) {P : Option Value → aS → Prop} (o : Int32) (hf : f_X11_stepY v0  = some o) (hk : P (some (.int o)) (I, R, J)) : zw_C X M_X11_stepY 0 0 0 199 [.int v0] (I, R, J) P := by
  show zy_V X M_X11_stepY 0 P 0 [.int v0] [] (I, R, J)
  unfold f_X11_stepY at hf
  refine zv_iload_n (pc := 0) d_X11_stepY_0 rfl ?_
  refine zv_iconst (pc := 1) d_X11_stepY_1 zc_i_2 ?_
  rcases zw_ifE hf with ⟨c1, hf⟩ | ⟨c1, hf⟩
  · refine zv_icmp_ne (pc := 2) (tg := 9) d_X11_stepY_2 (by decide) (fun _ => ?_) (fun q => absurd q c1)
    refine zv_iload_n (pc := 9) d_X11_stepY_9 rfl ?_
    rcases zw_ifE hf with ⟨c2, hf⟩ | ⟨c2, hf⟩
    · refine zv_if_ne (pc := 10) (tg := 17) d_X11_stepY_10 (by decide) (fun _ => ?_) (fun q => absurd q c2)
      refine zv_iconst (pc := 17) d_X11_stepY_17 zc_i_0 ?_
      cases hf
      exact zx_iret (pc := 18) d_X11_stepY_18 rfl hk
    · refine zv_if_ne (pc := 10) (tg := 17) d_X11_stepY_10 (by decide) (fun q => absurd q c2) (fun _ => ?_)
      refine zv_iconst (pc := 13) d_X11_stepY_13 zc_i_m1 ?_
      refine zv_goto (pc := 14) (tg := 18) d_X11_stepY_14 (by decide) ?_
      cases hf
      exact zx_iret (pc := 18) d_X11_stepY_18 rfl hk
  · refine zv_icmp_ne (pc := 2) (tg := 9) d_X11_stepY_2 (by decide) (fun q => absurd q c1) (fun _ => ?_)
    refine zv_iconst (pc := 5) d_X11_stepY_5 zc_i_1 ?_
    refine zv_goto (pc := 6) (tg := 18) d_X11_stepY_6 (by decide) ?_
    cases hf
    exact zx_iret (pc := 18) d_X11_stepY_18 rfl hk
abbrev M_X11_termOf : zw_M := (⟨"CutStonesModel", "termOf", "(II)I"⟩, prog_13_method_33_code, 8, (Option.some Jvm.ClassFile.FieldType.int))
theorem d_X11_termOf_0 : decode M_X11_termOf.2.1 0 = .ok (.iconst 0, 1) := by decide +kernel
theorem d_X11_termOf_1 : decode M_X11_termOf.2.1 1 = .ok (.istore_n 3, 1) := by decide +kernel
theorem d_X11_termOf_2 : decode M_X11_termOf.2.1 2 = .ok (.aload_n 0, 1) := by decide +kernel
theorem d_X11_termOf_3 : decode M_X11_termOf.2.1 3 = .ok (.iconst 0, 1) := by decide +kernel
theorem d_X11_termOf_4 : decode M_X11_termOf.2.1 4 = .ok (.putfield 318, 3) := by decide +kernel
theorem d_X11_termOf_7 : decode M_X11_termOf.2.1 7 = .ok (.iload_n 1, 1) := by decide +kernel
theorem d_X11_termOf_8 : decode M_X11_termOf.2.1 8 = .ok (.istore 4, 2) := by decide +kernel
theorem d_X11_termOf_10 : decode M_X11_termOf.2.1 10 = .ok (.iload 4, 2) := by decide +kernel
theorem d_X11_termOf_12 : decode M_X11_termOf.2.1 12 = .ok (.iload_n 2, 1) := by decide +kernel
theorem d_X11_termOf_13 : decode M_X11_termOf.2.1 13 = .ok (.if_icmp .ge 157, 3) := by decide +kernel
theorem d_X11_termOf_16 : decode M_X11_termOf.2.1 16 = .ok (.aload_n 0, 1) := by decide +kernel
theorem d_X11_termOf_17 : decode M_X11_termOf.2.1 17 = .ok (.getfield 110, 3) := by decide +kernel
theorem d_X11_termOf_20 : decode M_X11_termOf.2.1 20 = .ok (.iload 4, 2) := by decide +kernel
theorem d_X11_termOf_22 : decode M_X11_termOf.2.1 22 = .ok (.iaload, 1) := by decide +kernel
theorem d_X11_termOf_23 : decode M_X11_termOf.2.1 23 = .ok (.istore 5, 2) := by decide +kernel
theorem d_X11_termOf_25 : decode M_X11_termOf.2.1 25 = .ok (.iload 5, 2) := by decide +kernel
theorem d_X11_termOf_27 : decode M_X11_termOf.2.1 27 = .ok (.iconst 2, 1) := by decide +kernel
theorem d_X11_termOf_28 : decode M_X11_termOf.2.1 28 = .ok (.if_icmp .ge 42, 3) := by decide +kernel
theorem d_X11_termOf_31 : decode M_X11_termOf.2.1 31 = .ok (.aload_n 0, 1) := by decide +kernel
theorem d_X11_termOf_32 : decode M_X11_termOf.2.1 32 = .ok (.getfield 122, 3) := by decide +kernel
theorem d_X11_termOf_35 : decode M_X11_termOf.2.1 35 = .ok (.iload_n 3, 1) := by decide +kernel
theorem d_X11_termOf_36 : decode M_X11_termOf.2.1 36 = .ok (.iload 5, 2) := by decide +kernel
theorem d_X11_termOf_38 : decode M_X11_termOf.2.1 38 = .ok (.ifCond .ne 13, 3) := by decide +kernel
theorem d_X11_termOf_41 : decode M_X11_termOf.2.1 41 = .ok (.aload_n 0, 1) := by decide +kernel
theorem d_X11_termOf_42 : decode M_X11_termOf.2.1 42 = .ok (.getfield 113, 3) := by decide +kernel
theorem d_X11_termOf_45 : decode M_X11_termOf.2.1 45 = .ok (.iload 4, 2) := by decide +kernel
theorem d_X11_termOf_47 : decode M_X11_termOf.2.1 47 = .ok (.iaload, 1) := by decide +kernel
theorem d_X11_termOf_48 : decode M_X11_termOf.2.1 48 = .ok (.goto 15, 3) := by decide +kernel
theorem d_X11_termOf_51 : decode M_X11_termOf.2.1 51 = .ok (.aload_n 0, 1) := by decide +kernel
theorem d_X11_termOf_52 : decode M_X11_termOf.2.1 52 = .ok (.getfield 119, 3) := by decide +kernel
theorem d_X11_termOf_55 : decode M_X11_termOf.2.1 55 = .ok (.aload_n 0, 1) := by decide +kernel
theorem d_X11_termOf_56 : decode M_X11_termOf.2.1 56 = .ok (.getfield 113, 3) := by decide +kernel
theorem d_X11_termOf_59 : decode M_X11_termOf.2.1 59 = .ok (.iload 4, 2) := by decide +kernel
theorem d_X11_termOf_61 : decode M_X11_termOf.2.1 61 = .ok (.iaload, 1) := by decide +kernel
theorem d_X11_termOf_62 : decode M_X11_termOf.2.1 62 = .ok (.iaload, 1) := by decide +kernel
theorem d_X11_termOf_63 : decode M_X11_termOf.2.1 63 = .ok (.iastore, 1) := by decide +kernel
theorem d_X11_termOf_64 : decode M_X11_termOf.2.1 64 = .ok (.iinc 3 1, 3) := by decide +kernel
theorem d_X11_termOf_67 : decode M_X11_termOf.2.1 67 = .ok (.goto 97, 3) := by decide +kernel
theorem d_X11_termOf_70 : decode M_X11_termOf.2.1 70 = .ok (.iinc 3 (-1), 3) := by decide +kernel
theorem d_X11_termOf_73 : decode M_X11_termOf.2.1 73 = .ok (.aload_n 0, 1) := by decide +kernel
theorem d_X11_termOf_74 : decode M_X11_termOf.2.1 74 = .ok (.getfield 122, 3) := by decide +kernel
theorem d_X11_termOf_77 : decode M_X11_termOf.2.1 77 = .ok (.iload_n 3, 1) := by decide +kernel
theorem d_X11_termOf_78 : decode M_X11_termOf.2.1 78 = .ok (.iconst 1, 1) := by decide +kernel
theorem d_X11_termOf_79 : decode M_X11_termOf.2.1 79 = .ok (.isub, 1) := by decide +kernel
theorem d_X11_termOf_80 : decode M_X11_termOf.2.1 80 = .ok (.iaload, 1) := by decide +kernel
theorem d_X11_termOf_81 : decode M_X11_termOf.2.1 81 = .ok (.istore 6, 2) := by decide +kernel
theorem d_X11_termOf_83 : decode M_X11_termOf.2.1 83 = .ok (.aload_n 0, 1) := by decide +kernel
theorem d_X11_termOf_84 : decode M_X11_termOf.2.1 84 = .ok (.getfield 122, 3) := by decide +kernel
theorem d_X11_termOf_87 : decode M_X11_termOf.2.1 87 = .ok (.iload_n 3, 1) := by decide +kernel
theorem d_X11_termOf_88 : decode M_X11_termOf.2.1 88 = .ok (.iaload, 1) := by decide +kernel
theorem d_X11_termOf_89 : decode M_X11_termOf.2.1 89 = .ok (.istore 7, 2) := by decide +kernel
theorem d_X11_termOf_91 : decode M_X11_termOf.2.1 91 = .ok (.iload 5, 2) := by decide +kernel
theorem d_X11_termOf_93 : decode M_X11_termOf.2.1 93 = .ok (.iconst 5, 1) := by decide +kernel
theorem d_X11_termOf_94 : decode M_X11_termOf.2.1 94 = .ok (.if_icmp .ne 15, 3) := by decide +kernel
theorem d_X11_termOf_97 : decode M_X11_termOf.2.1 97 = .ok (.iload 7, 2) := by decide +kernel
theorem d_X11_termOf_99 : decode M_X11_termOf.2.1 99 = .ok (.ifCond .ne 10, 3) := by decide +kernel
theorem d_X11_termOf_102 : decode M_X11_termOf.2.1 102 = .ok (.aload_n 0, 1) := by decide +kernel
theorem d_X11_termOf_103 : decode M_X11_termOf.2.1 103 = .ok (.iconst 1, 1) := by decide +kernel
theorem d_X11_termOf_104 : decode M_X11_termOf.2.1 104 = .ok (.putfield 318, 3) := by decide +kernel
theorem d_X11_termOf_107 : decode M_X11_termOf.2.1 107 = .ok (.iconst 0, 1) := by decide +kernel
theorem d_X11_termOf_108 : decode M_X11_termOf.2.1 108 = .ok (.ireturn, 1) := by decide +kernel
theorem d_X11_termOf_109 : decode M_X11_termOf.2.1 109 = .ok (.aload_n 0, 1) := by decide +kernel
theorem d_X11_termOf_110 : decode M_X11_termOf.2.1 110 = .ok (.getfield 122, 3) := by decide +kernel
theorem d_X11_termOf_113 : decode M_X11_termOf.2.1 113 = .ok (.iload_n 3, 1) := by decide +kernel
theorem d_X11_termOf_114 : decode M_X11_termOf.2.1 114 = .ok (.iconst 1, 1) := by decide +kernel
theorem d_X11_termOf_115 : decode M_X11_termOf.2.1 115 = .ok (.isub, 1) := by decide +kernel
theorem d_X11_termOf_116 : decode M_X11_termOf.2.1 116 = .ok (.iload 5, 2) := by decide +kernel
theorem d_X11_termOf_118 : decode M_X11_termOf.2.1 118 = .ok (.iconst 2, 1) := by decide +kernel
theorem d_X11_termOf_119 : decode M_X11_termOf.2.1 119 = .ok (.if_icmp .ne 11, 3) := by decide +kernel
theorem d_X11_termOf_122 : decode M_X11_termOf.2.1 122 = .ok (.iload 6, 2) := by decide +kernel
theorem d_X11_termOf_124 : decode M_X11_termOf.2.1 124 = .ok (.iload 7, 2) := by decide +kernel
theorem d_X11_termOf_126 : decode M_X11_termOf.2.1 126 = .ok (.iadd, 1) := by decide +kernel
theorem d_X11_termOf_127 : decode M_X11_termOf.2.1 127 = .ok (.goto 36, 3) := by decide +kernel
theorem d_X11_termOf_130 : decode M_X11_termOf.2.1 130 = .ok (.iload 5, 2) := by decide +kernel
theorem d_X11_termOf_132 : decode M_X11_termOf.2.1 132 = .ok (.iconst 3, 1) := by decide +kernel
theorem d_X11_termOf_133 : decode M_X11_termOf.2.1 133 = .ok (.if_icmp .ne 11, 3) := by decide +kernel
theorem d_X11_termOf_136 : decode M_X11_termOf.2.1 136 = .ok (.iload 6, 2) := by decide +kernel
theorem d_X11_termOf_138 : decode M_X11_termOf.2.1 138 = .ok (.iload 7, 2) := by decide +kernel
theorem d_X11_termOf_140 : decode M_X11_termOf.2.1 140 = .ok (.isub, 1) := by decide +kernel
theorem d_X11_termOf_141 : decode M_X11_termOf.2.1 141 = .ok (.goto 22, 3) := by decide +kernel
theorem d_X11_termOf_144 : decode M_X11_termOf.2.1 144 = .ok (.iload 5, 2) := by decide +kernel
theorem d_X11_termOf_146 : decode M_X11_termOf.2.1 146 = .ok (.iconst 4, 1) := by decide +kernel
theorem d_X11_termOf_147 : decode M_X11_termOf.2.1 147 = .ok (.if_icmp .ne 11, 3) := by decide +kernel
theorem d_X11_termOf_150 : decode M_X11_termOf.2.1 150 = .ok (.iload 6, 2) := by decide +kernel
theorem d_X11_termOf_152 : decode M_X11_termOf.2.1 152 = .ok (.iload 7, 2) := by decide +kernel
theorem d_X11_termOf_154 : decode M_X11_termOf.2.1 154 = .ok (.imul, 1) := by decide +kernel
theorem d_X11_termOf_155 : decode M_X11_termOf.2.1 155 = .ok (.goto 8, 3) := by decide +kernel
theorem d_X11_termOf_158 : decode M_X11_termOf.2.1 158 = .ok (.iload 6, 2) := by decide +kernel
theorem d_X11_termOf_160 : decode M_X11_termOf.2.1 160 = .ok (.iload 7, 2) := by decide +kernel
theorem d_X11_termOf_162 : decode M_X11_termOf.2.1 162 = .ok (.idiv, 1) := by decide +kernel
theorem d_X11_termOf_163 : decode M_X11_termOf.2.1 163 = .ok (.iastore, 1) := by decide +kernel
theorem d_X11_termOf_164 : decode M_X11_termOf.2.1 164 = .ok (.iinc 4 1, 3) := by decide +kernel
theorem d_X11_termOf_167 : decode M_X11_termOf.2.1 167 = .ok (.goto (-157), 3) := by decide +kernel
theorem d_X11_termOf_170 : decode M_X11_termOf.2.1 170 = .ok (.aload_n 0, 1) := by decide +kernel
theorem d_X11_termOf_171 : decode M_X11_termOf.2.1 171 = .ok (.getfield 122, 3) := by decide +kernel
theorem d_X11_termOf_174 : decode M_X11_termOf.2.1 174 = .ok (.iconst 0, 1) := by decide +kernel
theorem d_X11_termOf_175 : decode M_X11_termOf.2.1 175 = .ok (.iaload, 1) := by decide +kernel
theorem d_X11_termOf_176 : decode M_X11_termOf.2.1 176 = .ok (.ireturn, 1) := by decide +kernel
theorem ce_X11_termOf : zw_CeV M_X11_termOf 2 := ⟨⟨⟨by decide +kernel, by decide +kernel, by decide +kernel⟩, (zw_mG (List.mem_of_getElem? (i := 1635) (by decide +kernel)) rfl), (zw_mG (List.mem_of_getElem? (i := 108) (by decide +kernel)) rfl), by decide, by decide +kernel⟩, (zw_mG (List.mem_of_getElem? (i := 1634) (by decide +kernel)) rfl), (zw_mG (List.mem_of_getElem? (i := 84) (by decide +kernel)) rfl)⟩
def j_X11_termOf_164_10 (v0 : Nat) (v2 : Int32) (v3 : Int32) (v4 : Int32) (I : zI) (R : zR) : Option ((Int32 × Int32 × zI) ⊕ ((zI) ⊕ (zI))) :=
  zw_let (v4 + 1 : Int32) fun x25 => (some (.inl (v3, x25, I)))
theorem j_X11_termOf_164_10_ok (X : zw_X) (P : Option Value → aS → Prop) (v0 : Nat) (v2 : Int32) (v3 : Int32) (v4 : Int32) (I : zI) (R : zR) (J : zJ) (o : (Int32 × Int32 × zI) ⊕ ((zI) ⊕ (zI))) (hf : j_X11_termOf_164_10 v0 v2 v3 v4 I R = some o) (hk : (zw_se (fun t => zy_V X M_X11_termOf 0 P 10 [.ref v0, .null, .int v2, .int t.1, .int t.2.1, .null, .null, .null] [] (t.2.2, R, J)) (fun r => (zw_se (fun r0 => zy_V X M_X11_termOf 0 P 170 [.ref v0, .null, .null, .null, .null, .null, .null, .null] [] (r0, R, J)) (fun t0 => zy_V X M_X11_termOf 0 P 102 [.ref v0, .null, .null, .null, .null, .null, .null, .null] [] (t0, R, J)) r)) o)) : zy_V X M_X11_termOf 0 P 164 [.ref v0, .null, .int v2, .int v3, .int v4, .null, .null, .null] [] (I, R, J) := by
  unfold j_X11_termOf_164_10 at hf
  obtain ⟨x25, ex25, hf⟩ := zw_letE hf
  refine zx_iinc (pc := 164) (x2 := x25) (L2 := [.ref v0, .null, .int v2, .int v3, .int x25, .null, .null, .null]) d_X11_termOf_164 (by decide) rfl zc_i_1 ex25 rfl ?_
  refine zv_goto (pc := 167) (tg := 10) d_X11_termOf_167 (by decide) ?_
  cases hf
  exact zx_weak (zw_leS (zw_leN (zw_leS (zw_leS (zw_leS (zw_leN (zw_leN (zw_leN zw_leZ)))))))) hk
def j_X11_termOf_163_10 (v0 : Nat) (v2 : Int32) (v3 : Int32) (v4 : Int32) (s0 : Nat) (s1 : Int32) (s2 : Int32) (I : zI) (R : zR) : Option ((Int32 × Int32 × zI) ⊕ ((zI) ⊕ (zI))) :=
  zw_g (zw_gc s0 13) (zw_g (zw_in s1 (zw_SH s0).2) (zw_let (zw_u I s0 (Int32.toNatClampNeg s1) s2 : zI) fun I24 => (j_X11_termOf_164_10 v0 v2 v3 v4 I24 R)))
theorem j_X11_termOf_163_10_ok (X : zw_X) (P : Option Value → aS → Prop) (v0 : Nat) (v2 : Int32) (v3 : Int32) (v4 : Int32) (s0 : Nat) (s1 : Int32) (s2 : Int32) (I : zI) (R : zR) (J : zJ) (o : (Int32 × Int32 × zI) ⊕ ((zI) ⊕ (zI))) (hf : j_X11_termOf_163_10 v0 v2 v3 v4 s0 s1 s2 I R = some o) (hk : (zw_se (fun t => zy_V X M_X11_termOf 0 P 10 [.ref v0, .null, .int v2, .int t.1, .int t.2.1, .null, .null, .null] [] (t.2.2, R, J)) (fun r => (zw_se (fun r0 => zy_V X M_X11_termOf 0 P 170 [.ref v0, .null, .null, .null, .null, .null, .null, .null] [] (r0, R, J)) (fun t0 => zy_V X M_X11_termOf 0 P 102 [.ref v0, .null, .null, .null, .null, .null, .null, .null] [] (t0, R, J)) r)) o)) : zy_V X M_X11_termOf 0 P 163 [.ref v0, .null, .int v2, .int v3, .int v4, .null, .null, .null] [.int s2, .int s1, .ref s0] (I, R, J) := by
  unfold j_X11_termOf_163_10 at hf
  obtain ⟨g22, hf⟩ := zw_gcE hf (by decide)
  obtain ⟨i23, hf⟩ := zw_inE hf
  obtain ⟨I24, eI24, hf⟩ := zw_letE hf
  refine zx_iast (pc := 163) (I2 := I24) d_X11_termOf_163 g22 i23 eI24 ?_
  exact zx_weak (zw_leS (zw_leN (zw_leS (zw_leS (zw_leS (zw_leN (zw_leN (zw_leN zw_leZ)))))))) (j_X11_termOf_164_10_ok X P v0 v2 v3 v4 I24 R J _ hf hk)
def j_X11_termOf_109_10 (v0 : Nat) (v2 : Int32) (v3 : Int32) (v4 : Int32) (v5 : Int32) (v6 : Int32) (v7 : Int32) (I : zI) (R : zR) : Option ((Int32 × Int32 × zI) ⊕ ((zI) ⊕ (zI))) :=
  zw_g (zw_gc v0 11) (zw_g (zw_gc (R v0 50) 13) (if ¬ v5 = 2 then if ¬ v5 = 3 then if ¬ v5 = 4 then zw_g (zw_n0 v7) (j_X11_termOf_163_10 v0 v2 v3 v4 (R v0 50) (v3 - 1) (v6 / v7) I R) else j_X11_termOf_163_10 v0 v2 v3 v4 (R v0 50) (v3 - 1) (v6 * v7) I R else j_X11_termOf_163_10 v0 v2 v3 v4 (R v0 50) (v3 - 1) (v6 - v7) I R else j_X11_termOf_163_10 v0 v2 v3 v4 (R v0 50) (v3 - 1) (v6 + v7) I R))
theorem j_X11_termOf_109_10_ok (X : zw_X) (P : Option Value → aS → Prop) (v0 : Nat) (v2 : Int32) (v3 : Int32) (v4 : Int32) (v5 : Int32) (v6 : Int32) (v7 : Int32) (I : zI) (R : zR) (J : zJ) (o : (Int32 × Int32 × zI) ⊕ ((zI) ⊕ (zI))) (hf : j_X11_termOf_109_10 v0 v2 v3 v4 v5 v6 v7 I R = some o) (hk : (zw_se (fun t => zy_V X M_X11_termOf 0 P 10 [.ref v0, .null, .int v2, .int t.1, .int t.2.1, .null, .null, .null] [] (t.2.2, R, J)) (fun r => (zw_se (fun r0 => zy_V X M_X11_termOf 0 P 170 [.ref v0, .null, .null, .null, .null, .null, .null, .null] [] (r0, R, J)) (fun t0 => zy_V X M_X11_termOf 0 P 102 [.ref v0, .null, .null, .null, .null, .null, .null, .null] [] (t0, R, J)) r)) o)) : zy_V X M_X11_termOf 0 P 109 [.ref v0, .null, .int v2, .int v3, .int v4, .int v5, .int v6, .int v7] [] (I, R, J) := by
  unfold j_X11_termOf_109_10 at hf
  refine zv_aload_n (pc := 109) d_X11_termOf_109 rfl ?_
  obtain ⟨g16, hf⟩ := zw_gcE hf (by decide)
  obtain ⟨g17, hf⟩ := zw_gcE hf (by decide)
  refine zx_getR (pc := 110) d_X11_termOf_110 lk_CutStonesModel_122 (by decide) g16 g17 ?_
  refine zv_iload_n (pc := 113) d_X11_termOf_113 rfl ?_
  refine zv_iconst (pc := 114) d_X11_termOf_114 zc_i_1 ?_
  refine zv_isub (pc := 115) d_X11_termOf_115 ?_
  refine zv_iload (pc := 116) d_X11_termOf_116 rfl ?_
  refine zv_iconst (pc := 118) d_X11_termOf_118 zc_i_2 ?_
  rcases zw_ifE hf with ⟨c18, hf⟩ | ⟨c18, hf⟩
  · refine zv_icmp_ne (pc := 119) (tg := 130) d_X11_termOf_119 (by decide) (fun _ => ?_) (fun q => absurd q c18)
    refine zv_iload (pc := 130) d_X11_termOf_130 rfl ?_
    refine zv_iconst (pc := 132) d_X11_termOf_132 zc_i_3 ?_
    rcases zw_ifE hf with ⟨c19, hf⟩ | ⟨c19, hf⟩
    · refine zv_icmp_ne (pc := 133) (tg := 144) d_X11_termOf_133 (by decide) (fun _ => ?_) (fun q => absurd q c19)
      refine zv_iload (pc := 144) d_X11_termOf_144 rfl ?_
      refine zv_iconst (pc := 146) d_X11_termOf_146 zc_i_4 ?_
      rcases zw_ifE hf with ⟨c20, hf⟩ | ⟨c20, hf⟩
      · refine zv_icmp_ne (pc := 147) (tg := 158) d_X11_termOf_147 (by decide) (fun _ => ?_) (fun q => absurd q c20)
        refine zv_iload (pc := 158) d_X11_termOf_158 rfl ?_
        refine zv_iload (pc := 160) d_X11_termOf_160 rfl ?_
        obtain ⟨n21, hf⟩ := zw_n0E hf
        refine zv_idiv (pc := 162) d_X11_termOf_162 n21 ?_
        exact zx_weak (zw_leS (zw_leN (zw_leS (zw_leS (zw_leS (zw_leN (zw_leN (zw_leN zw_leZ)))))))) (j_X11_termOf_163_10_ok X P v0 v2 v3 v4 (R v0 50) (v3 - 1) (v6 / v7) I R J _ hf hk)
      · refine zv_icmp_ne (pc := 147) (tg := 158) d_X11_termOf_147 (by decide) (fun q => absurd q c20) (fun _ => ?_)
        refine zv_iload (pc := 150) d_X11_termOf_150 rfl ?_
        refine zv_iload (pc := 152) d_X11_termOf_152 rfl ?_
        refine zv_imul (pc := 154) d_X11_termOf_154 ?_
        refine zv_goto (pc := 155) (tg := 163) d_X11_termOf_155 (by decide) ?_
        exact zx_weak (zw_leS (zw_leN (zw_leS (zw_leS (zw_leS (zw_leN (zw_leN (zw_leN zw_leZ)))))))) (j_X11_termOf_163_10_ok X P v0 v2 v3 v4 (R v0 50) (v3 - 1) (v6 * v7) I R J _ hf hk)
    · refine zv_icmp_ne (pc := 133) (tg := 144) d_X11_termOf_133 (by decide) (fun q => absurd q c19) (fun _ => ?_)
      refine zv_iload (pc := 136) d_X11_termOf_136 rfl ?_
      refine zv_iload (pc := 138) d_X11_termOf_138 rfl ?_
      refine zv_isub (pc := 140) d_X11_termOf_140 ?_
      refine zv_goto (pc := 141) (tg := 163) d_X11_termOf_141 (by decide) ?_
      exact zx_weak (zw_leS (zw_leN (zw_leS (zw_leS (zw_leS (zw_leN (zw_leN (zw_leN zw_leZ)))))))) (j_X11_termOf_163_10_ok X P v0 v2 v3 v4 (R v0 50) (v3 - 1) (v6 - v7) I R J _ hf hk)
  · refine zv_icmp_ne (pc := 119) (tg := 130) d_X11_termOf_119 (by decide) (fun q => absurd q c18) (fun _ => ?_)
    refine zv_iload (pc := 122) d_X11_termOf_122 rfl ?_
    refine zv_iload (pc := 124) d_X11_termOf_124 rfl ?_
    refine zv_iadd (pc := 126) d_X11_termOf_126 ?_
    refine zv_goto (pc := 127) (tg := 163) d_X11_termOf_127 (by decide) ?_
    exact zx_weak (zw_leS (zw_leN (zw_leS (zw_leS (zw_leS (zw_leN (zw_leN (zw_leN zw_leZ)))))))) (j_X11_termOf_163_10_ok X P v0 v2 v3 v4 (R v0 50) (v3 - 1) (v6 + v7) I R J _ hf hk)
def j_X11_termOf_63_10 (v0 : Nat) (v2 : Int32) (v3 : Int32) (v4 : Int32) (s0 : Nat) (s1 : Int32) (s2 : Int32) (I : zI) (R : zR) : Option ((Int32 × Int32 × zI) ⊕ ((zI) ⊕ (zI))) :=
  zw_g (zw_gc s0 13) (zw_g (zw_in s1 (zw_SH s0).2) (zw_let (zw_u I s0 (Int32.toNatClampNeg s1) s2 : zI) fun I35 => (zw_let (v3 + 1 : Int32) fun x36 => (j_X11_termOf_164_10 v0 v2 x36 v4 I35 R))))
theorem j_X11_termOf_63_10_ok (X : zw_X) (P : Option Value → aS → Prop) (v0 : Nat) (v2 : Int32) (v3 : Int32) (v4 : Int32) (s0 : Nat) (s1 : Int32) (s2 : Int32) (I : zI) (R : zR) (J : zJ) (o : (Int32 × Int32 × zI) ⊕ ((zI) ⊕ (zI))) (hf : j_X11_termOf_63_10 v0 v2 v3 v4 s0 s1 s2 I R = some o) (hk : (zw_se (fun t => zy_V X M_X11_termOf 0 P 10 [.ref v0, .null, .int v2, .int t.1, .int t.2.1, .null, .null, .null] [] (t.2.2, R, J)) (fun r => (zw_se (fun r0 => zy_V X M_X11_termOf 0 P 170 [.ref v0, .null, .null, .null, .null, .null, .null, .null] [] (r0, R, J)) (fun t0 => zy_V X M_X11_termOf 0 P 102 [.ref v0, .null, .null, .null, .null, .null, .null, .null] [] (t0, R, J)) r)) o)) : zy_V X M_X11_termOf 0 P 63 [.ref v0, .null, .int v2, .int v3, .int v4, .null, .null, .null] [.int s2, .int s1, .ref s0] (I, R, J) := by
  unfold j_X11_termOf_63_10 at hf
  obtain ⟨g33, hf⟩ := zw_gcE hf (by decide)
  obtain ⟨i34, hf⟩ := zw_inE hf
  obtain ⟨I35, eI35, hf⟩ := zw_letE hf
  refine zx_iast (pc := 63) (I2 := I35) d_X11_termOf_63 g33 i34 eI35 ?_
  obtain ⟨x36, ex36, hf⟩ := zw_letE hf
  refine zx_iinc (pc := 64) (x2 := x36) (L2 := [.ref v0, .null, .int v2, .int x36, .int v4, .null, .null, .null]) d_X11_termOf_64 (by decide) rfl zc_i_1 ex36 rfl ?_
  refine zv_goto (pc := 67) (tg := 164) d_X11_termOf_67 (by decide) ?_
  exact zx_weak (zw_leS (zw_leN (zw_leS (zw_leS (zw_leS (zw_leN (zw_leN (zw_leN zw_leZ)))))))) (j_X11_termOf_164_10_ok X P v0 v2 x36 v4 I35 R J _ hf hk)
def s_X11_termOf_10 (v0 : Nat) (v2 : Int32) (R : zR) (s : Int32 × Int32 × zI) : Option ((Int32 × Int32 × zI) ⊕ ((zI) ⊕ (zI))) :=
  if v2 ≤ s.2.1 then some (.inr (.inl s.2.2)) else zw_g (zw_gc v0 11) (zw_g (zw_gc (R v0 45) 13) (zw_g (zw_in s.2.1 (zw_SH (R v0 45)).2) (zw_let ((s.2.2 (R v0 45) (Int32.toNatClampNeg s.2.1)) : Int32) fun x7 => (if 2 ≤ x7 then zw_let (s.1 + (-1) : Int32) fun x9 => (zw_g (zw_gc (R v0 50) 13) (zw_g (zw_in (x9 - 1) (zw_SH (R v0 50)).2) (zw_let ((s.2.2 (R v0 50) (Int32.toNatClampNeg (x9 - 1))) : Int32) fun x12 => (zw_g (zw_in x9 (zw_SH (R v0 50)).2) (zw_let ((s.2.2 (R v0 50) (Int32.toNatClampNeg x9)) : Int32) fun x14 => (if ¬ x7 = 5 then j_X11_termOf_109_10 v0 v2 x9 s.2.1 x7 x12 x14 s.2.2 R else if ¬ x14 = 0 then j_X11_termOf_109_10 v0 v2 x9 s.2.1 x7 x12 x14 s.2.2 R else some (.inr (.inr s.2.2)))))))) else zw_g (zw_gc (R v0 50) 13) (if ¬ x7 = 0 then zw_g (zw_gc (R v0 49) 13) (zw_g (zw_gc (R v0 46) 13) (zw_g (zw_in s.2.1 (zw_SH (R v0 46)).2) (zw_g (zw_in (s.2.2 (R v0 46) (Int32.toNatClampNeg s.2.1)) (zw_SH (R v0 49)).2) (j_X11_termOf_63_10 v0 v2 s.1 s.2.1 (R v0 50) s.1 (s.2.2 (R v0 49) (Int32.toNatClampNeg (s.2.2 (R v0 46) (Int32.toNatClampNeg s.2.1)))) s.2.2 R)))) else zw_g (zw_gc (R v0 46) 13) (zw_g (zw_in s.2.1 (zw_SH (R v0 46)).2) (j_X11_termOf_63_10 v0 v2 s.1 s.2.1 (R v0 50) s.1 (s.2.2 (R v0 46) (Int32.toNatClampNeg s.2.1)) s.2.2 R)))))))
theorem s_X11_termOf_10_ok (X : zw_X) (P : Option Value → aS → Prop) (v0 : Nat) (v2 : Int32) (R : zR) (J : zJ) (s : Int32 × Int32 × zI) (o : (Int32 × Int32 × zI) ⊕ ((zI) ⊕ (zI))) (hf : s_X11_termOf_10 v0 v2 R s = some o) (hk : (zw_se (fun t => zy_V X M_X11_termOf 0 P 10 [.ref v0, .null, .int v2, .int t.1, .int t.2.1, .null, .null, .null] [] (t.2.2, R, J)) (fun r => (zw_se (fun r0 => zy_V X M_X11_termOf 0 P 170 [.ref v0, .null, .null, .null, .null, .null, .null, .null] [] (r0, R, J)) (fun t0 => zy_V X M_X11_termOf 0 P 102 [.ref v0, .null, .null, .null, .null, .null, .null, .null] [] (t0, R, J)) r)) o)) : zy_V X M_X11_termOf 0 P 10 [.ref v0, .null, .int v2, .int s.1, .int s.2.1, .null, .null, .null] [] (s.2.2, R, J) := by
  unfold s_X11_termOf_10 at hf
  refine zv_iload (pc := 10) d_X11_termOf_10 rfl ?_
  refine zv_iload_n (pc := 12) d_X11_termOf_12 rfl ?_
  rcases zw_ifE hf with ⟨c3, hf⟩ | ⟨c3, hf⟩
  · refine zv_icmp_ge (pc := 13) (tg := 170) d_X11_termOf_13 (by decide) (fun _ => ?_) (fun q => absurd c3 q)
    cases hf
    exact zx_weak (zw_leS (zw_leN (zw_leN (zw_leN (zw_leN (zw_leN (zw_leN (zw_leN zw_leZ)))))))) hk
  · refine zv_icmp_ge (pc := 13) (tg := 170) d_X11_termOf_13 (by decide) (fun q => absurd q c3) (fun _ => ?_)
    refine zv_aload_n (pc := 16) d_X11_termOf_16 rfl ?_
    obtain ⟨g4, hf⟩ := zw_gcE hf (by decide)
    obtain ⟨g5, hf⟩ := zw_gcE hf (by decide)
    refine zx_getR (pc := 17) d_X11_termOf_17 lk_CutStonesModel_110 (by decide) g4 g5 ?_
    refine zv_iload (pc := 20) d_X11_termOf_20 rfl ?_
    obtain ⟨i6, hf⟩ := zw_inE hf
    refine zx_iald (pc := 22) d_X11_termOf_22 g5 i6 ?_
    obtain ⟨x7, ex7, hf⟩ := zw_letE hf
    refine zx_istore (pc := 23) (x2 := x7) (L2 := [.ref v0, .null, .int v2, .int s.1, .int s.2.1, .int x7, .null, .null]) d_X11_termOf_23 (by decide) ex7 rfl ?_
    refine zv_iload (pc := 25) d_X11_termOf_25 rfl ?_
    refine zv_iconst (pc := 27) d_X11_termOf_27 zc_i_2 ?_
    rcases zw_ifE hf with ⟨c8, hf⟩ | ⟨c8, hf⟩
    · refine zv_icmp_ge (pc := 28) (tg := 70) d_X11_termOf_28 (by decide) (fun _ => ?_) (fun q => absurd c8 q)
      obtain ⟨x9, ex9, hf⟩ := zw_letE hf
      refine zx_iinc (pc := 70) (x2 := x9) (L2 := [.ref v0, .null, .int v2, .int x9, .int s.2.1, .int x7, .null, .null]) d_X11_termOf_70 (by decide) rfl zc_i_m1 ex9 rfl ?_
      refine zv_aload_n (pc := 73) d_X11_termOf_73 rfl ?_
      obtain ⟨g10, hf⟩ := zw_gcE hf (by decide)
      refine zx_getR (pc := 74) d_X11_termOf_74 lk_CutStonesModel_122 (by decide) g4 g10 ?_
      refine zv_iload_n (pc := 77) d_X11_termOf_77 rfl ?_
      refine zv_iconst (pc := 78) d_X11_termOf_78 zc_i_1 ?_
      refine zv_isub (pc := 79) d_X11_termOf_79 ?_
      obtain ⟨i11, hf⟩ := zw_inE hf
      refine zx_iald (pc := 80) d_X11_termOf_80 g10 i11 ?_
      obtain ⟨x12, ex12, hf⟩ := zw_letE hf
      refine zx_istore (pc := 81) (x2 := x12) (L2 := [.ref v0, .null, .int v2, .int x9, .int s.2.1, .int x7, .int x12, .null]) d_X11_termOf_81 (by decide) ex12 rfl ?_
      refine zv_aload_n (pc := 83) d_X11_termOf_83 rfl ?_
      refine zx_getR (pc := 84) d_X11_termOf_84 lk_CutStonesModel_122 (by decide) g4 g10 ?_
      refine zv_iload_n (pc := 87) d_X11_termOf_87 rfl ?_
      obtain ⟨i13, hf⟩ := zw_inE hf
      refine zx_iald (pc := 88) d_X11_termOf_88 g10 i13 ?_
      obtain ⟨x14, ex14, hf⟩ := zw_letE hf
      refine zx_istore (pc := 89) (x2 := x14) (L2 := [.ref v0, .null, .int v2, .int x9, .int s.2.1, .int x7, .int x12, .int x14]) d_X11_termOf_89 (by decide) ex14 rfl ?_
      refine zv_iload (pc := 91) d_X11_termOf_91 rfl ?_
      refine zv_iconst (pc := 93) d_X11_termOf_93 zc_i_5 ?_
      rcases zw_ifE hf with ⟨c15, hf⟩ | ⟨c15, hf⟩
      · refine zv_icmp_ne (pc := 94) (tg := 109) d_X11_termOf_94 (by decide) (fun _ => ?_) (fun q => absurd q c15)
        exact zx_weak (zw_leS (zw_leN (zw_leS (zw_leS (zw_leS (zw_leS (zw_leS (zw_leS zw_leZ)))))))) (j_X11_termOf_109_10_ok X P v0 v2 x9 s.2.1 x7 x12 x14 s.2.2 R J _ hf hk)
      · refine zv_icmp_ne (pc := 94) (tg := 109) d_X11_termOf_94 (by decide) (fun q => absurd q c15) (fun _ => ?_)
        refine zv_iload (pc := 97) d_X11_termOf_97 rfl ?_
        rcases zw_ifE hf with ⟨c26, hf⟩ | ⟨c26, hf⟩
        · refine zv_if_ne (pc := 99) (tg := 109) d_X11_termOf_99 (by decide) (fun _ => ?_) (fun q => absurd q c26)
          exact zx_weak (zw_leS (zw_leN (zw_leS (zw_leS (zw_leS (zw_leS (zw_leS (zw_leS zw_leZ)))))))) (j_X11_termOf_109_10_ok X P v0 v2 x9 s.2.1 x7 x12 x14 s.2.2 R J _ hf hk)
        · refine zv_if_ne (pc := 99) (tg := 109) d_X11_termOf_99 (by decide) (fun q => absurd q c26) (fun _ => ?_)
          cases hf
          exact zx_weak (zw_leS (zw_leN (zw_leN (zw_leN (zw_leN (zw_leN (zw_leN (zw_leN zw_leZ)))))))) hk
    · refine zv_icmp_ge (pc := 28) (tg := 70) d_X11_termOf_28 (by decide) (fun q => absurd q c8) (fun _ => ?_)
      refine zv_aload_n (pc := 31) d_X11_termOf_31 rfl ?_
      obtain ⟨g27, hf⟩ := zw_gcE hf (by decide)
      refine zx_getR (pc := 32) d_X11_termOf_32 lk_CutStonesModel_122 (by decide) g4 g27 ?_
      refine zv_iload_n (pc := 35) d_X11_termOf_35 rfl ?_
      refine zv_iload (pc := 36) d_X11_termOf_36 rfl ?_
      rcases zw_ifE hf with ⟨c28, hf⟩ | ⟨c28, hf⟩
      · refine zv_if_ne (pc := 38) (tg := 51) d_X11_termOf_38 (by decide) (fun _ => ?_) (fun q => absurd q c28)
        refine zv_aload_n (pc := 51) d_X11_termOf_51 rfl ?_
        obtain ⟨g29, hf⟩ := zw_gcE hf (by decide)
        refine zx_getR (pc := 52) d_X11_termOf_52 lk_CutStonesModel_119 (by decide) g4 g29 ?_
        refine zv_aload_n (pc := 55) d_X11_termOf_55 rfl ?_
        obtain ⟨g30, hf⟩ := zw_gcE hf (by decide)
        refine zx_getR (pc := 56) d_X11_termOf_56 lk_CutStonesModel_113 (by decide) g4 g30 ?_
        refine zv_iload (pc := 59) d_X11_termOf_59 rfl ?_
        obtain ⟨i31, hf⟩ := zw_inE hf
        refine zx_iald (pc := 61) d_X11_termOf_61 g30 i31 ?_
        obtain ⟨i32, hf⟩ := zw_inE hf
        refine zx_iald (pc := 62) d_X11_termOf_62 g29 i32 ?_
        exact zx_weak (zw_leS (zw_leN (zw_leS (zw_leS (zw_leS (zw_leN (zw_leN (zw_leN zw_leZ)))))))) (j_X11_termOf_63_10_ok X P v0 v2 s.1 s.2.1 (R v0 50) s.1 (s.2.2 (R v0 49) (Int32.toNatClampNeg (s.2.2 (R v0 46) (Int32.toNatClampNeg s.2.1)))) s.2.2 R J _ hf hk)
      · refine zv_if_ne (pc := 38) (tg := 51) d_X11_termOf_38 (by decide) (fun q => absurd q c28) (fun _ => ?_)
        refine zv_aload_n (pc := 41) d_X11_termOf_41 rfl ?_
        obtain ⟨g37, hf⟩ := zw_gcE hf (by decide)
        refine zx_getR (pc := 42) d_X11_termOf_42 lk_CutStonesModel_113 (by decide) g4 g37 ?_
        refine zv_iload (pc := 45) d_X11_termOf_45 rfl ?_
        obtain ⟨i38, hf⟩ := zw_inE hf
        refine zx_iald (pc := 47) d_X11_termOf_47 g37 i38 ?_
        refine zv_goto (pc := 48) (tg := 63) d_X11_termOf_48 (by decide) ?_
        exact zx_weak (zw_leS (zw_leN (zw_leS (zw_leS (zw_leS (zw_leN (zw_leN (zw_leN zw_leZ)))))))) (j_X11_termOf_63_10_ok X P v0 v2 s.1 s.2.1 (R v0 50) s.1 (s.2.2 (R v0 46) (Int32.toNatClampNeg s.2.1)) s.2.2 R J _ hf hk)
theorem s_X11_termOf_10_lp (X : zw_X) (P : Option Value → aS → Prop) (v0 : Nat) (v2 : Int32) (R : zR) (J : zJ) (n : Nat) (s : Int32 × Int32 × zI) (r : (zI) ⊕ (zI)) (h : zw_it (s_X11_termOf_10 v0 v2 R) n s = some r) (hq : (zw_se (fun r0 => zy_V X M_X11_termOf 0 P 170 [.ref v0, .null, .null, .null, .null, .null, .null, .null] [] (r0, R, J)) (fun t0 => zy_V X M_X11_termOf 0 P 102 [.ref v0, .null, .null, .null, .null, .null, .null, .null] [] (t0, R, J)) r)) : zy_V X M_X11_termOf 0 P 10 [.ref v0, .null, .int v2, .int s.1, .int s.2.1, .null, .null, .null] [] (s.2.2, R, J) :=
  zw_itE (A := (fun t : Int32 × Int32 × zI => zy_V X M_X11_termOf 0 P 10 [.ref v0, .null, .int v2, .int t.1, .int t.2.1, .null, .null, .null] [] (t.2.2, R, J))) (Q := (fun r : (zI) ⊕ (zI) => (zw_se (fun r0 => zy_V X M_X11_termOf 0 P 170 [.ref v0, .null, .null, .null, .null, .null, .null, .null] [] (r0, R, J)) (fun t0 => zy_V X M_X11_termOf 0 P 102 [.ref v0, .null, .null, .null, .null, .null, .null, .null] [] (t0, R, J)) r))) (fun s o h1 h2 => s_X11_termOf_10_ok X P v0 v2 R J s o h1 h2) n s r h hq
def f_X11_termOf (v0 : Nat) (v1 : Int32) (v2 : Int32) (I : zI) (R : zR) : Option (Int32 × zI) :=
  zw_g (zw_gc v0 11) (zw_let (zw_u I v0 51 0 : zI) fun I2 => ((zw_it (s_X11_termOf_10 v0 v2 R) 1000000 (0, v1, I2)).bind fun q39 => (match q39 with | .inl a40 => (zw_g (zw_gc (R v0 50) 13) (zw_g (zw_in 0 (zw_SH (R v0 50)).2) (some ((a40 (R v0 50) (Int32.toNatClampNeg 0)), a40)))) | .inr a41 => (zw_let (zw_u a41 v0 51 1 : zI) fun I44 => (some (0, I44))))))
theorem c_X11_termOf (X : zw_X) (v0 : Nat) (v1 : Int32) (v2 : Int32) (I : zI) (R : zR) (J : zJ) {P : Option Value → aS → Prop} (o : Int32 × zI) (hf : f_X11_termOf v0 v1 v2 I R = some o) (hk : P (some (.int o.1)) (o.2, R, J)) : zw_C X M_X11_termOf 0 0 0 199 [.ref v0, .int v1, .int v2] (I, R, J) P := by
  show zy_V X M_X11_termOf 0 P 0 [.ref v0, .int v1, .int v2, .null, .null, .null, .null, .null] [] (I, R, J)
  unfold f_X11_termOf at hf
  refine zv_iconst (pc := 0) d_X11_termOf_0 zc_i_0 ?_
  refine zx_istore_n (pc := 1) (x2 := 0) (L2 := [.ref v0, .int v1, .int v2, .int 0, .null, .null, .null, .null]) d_X11_termOf_1 (by decide) rfl rfl ?_
  refine zv_aload_n (pc := 2) d_X11_termOf_2 rfl ?_
  refine zv_iconst (pc := 3) d_X11_termOf_3 zc_i_0 ?_
  obtain ⟨g1, hf⟩ := zw_gcE hf (by decide)
  obtain ⟨I2, eI2, hf⟩ := zw_letE hf
  refine zx_putZ (pc := 4) (I2 := I2) d_X11_termOf_4 lk_CutStonesModel_318 rfl (Or.inl rfl) g1 eI2 ?_
  refine zv_iload_n (pc := 7) d_X11_termOf_7 rfl ?_
  refine zx_istore (pc := 8) (x2 := v1) (L2 := [.ref v0, .int v1, .int v2, .int 0, .int v1, .null, .null, .null]) d_X11_termOf_8 (by decide) rfl rfl ?_
  obtain ⟨q39, hq39, hf⟩ := zw_bdE hf
  refine zx_weak (L' := [.ref v0, .null, .int v2, .int 0, .int v1, .null, .null, .null]) (zw_leS (zw_leN (zw_leS (zw_leS (zw_leS (zw_leN (zw_leN (zw_leN zw_leZ)))))))) (s_X11_termOf_10_lp X P v0 v2 R J _ _ _ hq39 ?_)
  rcases q39 with a40 | a41
  ·
    show zy_V X M_X11_termOf 0 P 170 [.ref v0, .null, .null, .null, .null, .null, .null, .null] [] (a40, R, J)
    refine zv_aload_n (pc := 170) d_X11_termOf_170 rfl ?_
    obtain ⟨g42, hf⟩ := zw_gcE hf (by decide)
    refine zx_getR (pc := 171) d_X11_termOf_171 lk_CutStonesModel_122 (by decide) g1 g42 ?_
    refine zv_iconst (pc := 174) d_X11_termOf_174 zc_i_0 ?_
    obtain ⟨i43, hf⟩ := zw_inE hf
    refine zx_iald (pc := 175) d_X11_termOf_175 g42 i43 ?_
    cases hf
    exact zx_iret (pc := 176) d_X11_termOf_176 rfl hk
  ·
    show zy_V X M_X11_termOf 0 P 102 [.ref v0, .null, .null, .null, .null, .null, .null, .null] [] (a41, R, J)
    refine zv_aload_n (pc := 102) d_X11_termOf_102 rfl ?_
    refine zv_iconst (pc := 103) d_X11_termOf_103 zc_i_1 ?_
    obtain ⟨I44, eI44, hf⟩ := zw_letE hf
    refine zx_putZ (pc := 104) (I2 := I44) d_X11_termOf_104 lk_CutStonesModel_318 rfl (Or.inr rfl) g1 eI44 ?_
    refine zv_iconst (pc := 107) d_X11_termOf_107 zc_i_0 ?_
    cases hf
    exact zx_iret (pc := 108) d_X11_termOf_108 rfl hk
